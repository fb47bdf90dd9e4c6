def F_X0_clear (k0 : Nat) (v : St) : St :=
xl (up1 v k0 3 (0 : Int32)) fun v1 =>
xl (up1 v1 k0 4 (0 : Int32)) fun v2 =>
xl (up1 v2 k0 6 (0 : Int32)) fun v3 =>
xl (up1 v3 k0 7 (0 : Int32)) fun v4 =>
xl (up1 v4 k0 8 (20 : Int32)) fun v5 =>
xl (up1 v5 k0 9 (2 : Int32)) fun v6 =>
xl (up1 v6 k0 10 (3 : Int32)) fun v7 =>
xl (up1 v7 k0 11 (0 : Int32)) fun v8 =>
xl (up1 v8 (k0 + 5) 0 (0 : Int32)) fun v9 =>
xl (up1 v9 (k0 + 5) 1 (0 : Int32)) fun v10 =>
xl (up1 v10 (k0 + 5) 2 (0 : Int32)) fun v11 =>
xl (up1 v11 (k0 + 5) 3 (20 : Int32)) fun v12 =>
xl (up1 v12 k0 14 (0 : Int32)) fun v13 =>
xl (up1 v13 k0 17 (0 : Int32)) fun v14 =>
v14
set_option maxHeartbeats 4000000 in
set_option maxRecDepth 100000 in
theorem c_X0_clear (l : Launch) (w : Wp) (g : Nat → Nat → Int32) (v : St) (k0 : Nat) (hq : Inj w) (hw : WF (wk w) g v) (h_k0 : oN w k0) : CTv w l yX0_clear (wsy yX0_clear prog_2_method_2_code 1 none) (rmL 1) [.ref (wq w k0)] v (fun (u : St) => (WF (wk w) g u ∧ True) ∧ (u = F_X0_clear k0 v) ∧ (∀ k j : Nat, ¬ (k0 ≤ k ∧ k < k0 + 9) → u.1 k j = v.1 k j)) := by
  generalize hpost : (fun (u : St) => (WF (wk w) g u ∧ True) ∧ (u = F_X0_clear k0 v) ∧ (∀ k j : Nat, ¬ (k0 ≤ k ∧ k < k0 + 9) → u.1 k j = v.1 k j)) = post
  refine CTv.of prog_2_method_2_code 1 none "StarWalk$Night" (by decide +kernel) rfl hq hw (Nat.le_of_ble_eq_true rfl) ?_
  intro pg en s m ar bl me cd ls E I hr hlk hl
  have hx := E.1.1
  have hb := E.1.2.1
  have hl : lv_has ls 1 [(0, .ref (wq w k0))] := hl
  obtain ⟨res, hres⟩ : ∃ z, z = F_X0_clear k0 v := ⟨_, rfl⟩
  have hF := hres.symm
  unfold F_X0_clear at hF
  replace hres : res = F_X0_clear k0 v := hres
  have rz0 : ∀ k j : Nat, ¬ (k0 ≤ k ∧ k < k0 + 9) → v.1 k j = v.1 k j := fun _ _ _ => rfl
  refine lv_aload_n hx hb dX0_clear_0 rfl (lv_at hl 0 rfl) ?_
  refine lv_iconst (v := 0) hx hb dX0_clear_1 (by decide) ?_
  refine p_Night_stars E I h_k0.1 mw_1_83 (by decide) dX0_clear_2 (fun H lo I => ?_)
  generalize ev1 : up1 v k0 3 (0 : Int32) = v1 at I
  replace hF := xl_i (ev1.symm) hF
  have rzv1 : ∀ k j : Nat, ¬ (k0 ≤ k ∧ k < k0 + 9) → v1.1 k j = v.1 k j := fun k j h => fz_u ev1 (by omega) (rz0 k j h)
  refine lv_aload_n hx hb dX0_clear_5 rfl (lv_at hl 0 rfl) ?_
  refine lv_iconst (v := 0) hx hb dX0_clear_6 (by decide) ?_
  refine p_Night_known E I h_k0.1 mw_1_86 dX0_clear_7 (fun H lo I => ?_)
  generalize ev2 : up1 v1 k0 4 (0 : Int32) = v2 at I
  replace hF := xl_i (ev2.symm) hF
  have rzv2 : ∀ k j : Nat, ¬ (k0 ≤ k ∧ k < k0 + 9) → v2.1 k j = v.1 k j := fun k j h => fz_u ev2 (by omega) (rzv1 k j h)
  refine lv_aload_n hx hb dX0_clear_10 rfl (lv_at hl 0 rfl) ?_
  refine lv_iconst (v := 0) hx hb dX0_clear_11 (by decide) ?_
  refine p_Night_walkers E I h_k0.1 mw_1_91 (by decide) dX0_clear_12 (fun H lo I => ?_)
  generalize ev3 : up1 v2 k0 6 (0 : Int32) = v3 at I
  replace hF := xl_i (ev3.symm) hF
  have rzv3 : ∀ k j : Nat, ¬ (k0 ≤ k ∧ k < k0 + 9) → v3.1 k j = v.1 k j := fun k j h => fz_u ev3 (by omega) (rzv2 k j h)
  refine lv_aload_n hx hb dX0_clear_15 rfl (lv_at hl 0 rfl) ?_
  refine lv_iconst (v := 0) hx hb dX0_clear_16 (by decide) ?_
  refine p_Night_inFront E I h_k0.1 mw_1_94 dX0_clear_17 (fun H lo I => ?_)
  generalize ev4 : up1 v3 k0 7 (0 : Int32) = v4 at I
  replace hF := xl_i (ev4.symm) hF
  have rzv4 : ∀ k j : Nat, ¬ (k0 ≤ k ∧ k < k0 + 9) → v4.1 k j = v.1 k j := fun k j h => fz_u ev4 (by omega) (rzv3 k j h)
  refine lv_aload_n hx hb dX0_clear_20 rfl (lv_at hl 0 rfl) ?_
  refine lv_bipush (v := 20) hx hb dX0_clear_21 (by decide) ?_
  refine p_Night_wellMiles E I h_k0.1 mw_1_96 dX0_clear_23 (fun H lo I => ?_)
  generalize ev5 : up1 v4 k0 8 (20 : Int32) = v5 at I
  replace hF := xl_i (ev5.symm) hF
  have rzv5 : ∀ k j : Nat, ¬ (k0 ≤ k ∧ k < k0 + 9) → v5.1 k j = v.1 k j := fun k j h => fz_u ev5 (by omega) (rzv4 k j h)
  refine lv_aload_n hx hb dX0_clear_26 rfl (lv_at hl 0 rfl) ?_
  refine lv_iconst (v := 2) hx hb dX0_clear_27 (by decide) ?_
  refine p_Night_broad E I h_k0.1 mw_1_99 dX0_clear_28 (fun H lo I => ?_)
  generalize ev6 : up1 v5 k0 9 (2 : Int32) = v6 at I
  replace hF := xl_i (ev6.symm) hF
  have rzv6 : ∀ k j : Nat, ¬ (k0 ≤ k ∧ k < k0 + 9) → v6.1 k j = v.1 k j := fun k j h => fz_u ev6 (by omega) (rzv5 k j h)
  refine lv_aload_n hx hb dX0_clear_31 rfl (lv_at hl 0 rfl) ?_
  refine lv_iconst (v := 3) hx hb dX0_clear_32 (by decide) ?_
  refine p_Night_till E I h_k0.1 mw_1_102 dX0_clear_33 (fun H lo I => ?_)
  generalize ev7 : up1 v6 k0 10 (3 : Int32) = v7 at I
  replace hF := xl_i (ev7.symm) hF
  have rzv7 : ∀ k j : Nat, ¬ (k0 ≤ k ∧ k < k0 + 9) → v7.1 k j = v.1 k j := fun k j h => fz_u ev7 (by omega) (rzv6 k j h)
  refine lv_aload_n hx hb dX0_clear_36 rfl (lv_at hl 0 rfl) ?_
  refine lv_iconst (v := 0) hx hb dX0_clear_37 (by decide) ?_
  refine p_Night_clouds E I h_k0.1 mw_1_105 dX0_clear_38 (fun H lo I => ?_)
  generalize ev8 : up1 v7 k0 11 (0 : Int32) = v8 at I
  replace hF := xl_i (ev8.symm) hF
  have rzv8 : ∀ k j : Nat, ¬ (k0 ≤ k ∧ k < k0 + 9) → v8.1 k j = v.1 k j := fun k j h => fz_u ev8 (by omega) (rzv7 k j h)
  refine lv_aload_n hx hb dX0_clear_41 rfl (lv_at hl 0 rfl) ?_
  refine g_Night_place E I h_k0.1 mw_1_109 dX0_clear_42 ?_
  refine lv_iconst (v := 0) hx hb dX0_clear_45 (by decide) ?_
  refine p_Place_hour E I h_k0.2.2.2.2.2.1 mw_1_44 dX0_clear_46 (fun H lo I => ?_)
  generalize ev9 : up1 v8 (k0 + 5) 0 (0 : Int32) = v9 at I
  replace hF := xl_i (ev9.symm) hF
  have rzv9 : ∀ k j : Nat, ¬ (k0 ≤ k ∧ k < k0 + 9) → v9.1 k j = v.1 k j := fun k j h => fz_u ev9 (by omega) (rzv8 k j h)
  refine lv_aload_n hx hb dX0_clear_49 rfl (lv_at hl 0 rfl) ?_
  refine g_Night_place E I h_k0.1 mw_1_109 dX0_clear_50 ?_
  refine lv_iconst (v := 0) hx hb dX0_clear_53 (by decide) ?_
  refine p_Place_miles E I h_k0.2.2.2.2.2.1 mw_1_49 dX0_clear_54 (fun H lo I => ?_)
  generalize ev10 : up1 v9 (k0 + 5) 1 (0 : Int32) = v10 at I
  replace hF := xl_i (ev10.symm) hF
  have rzv10 : ∀ k j : Nat, ¬ (k0 ≤ k ∧ k < k0 + 9) → v10.1 k j = v.1 k j := fun k j h => fz_u ev10 (by omega) (rzv9 k j h)
  refine lv_aload_n hx hb dX0_clear_57 rfl (lv_at hl 0 rfl) ?_
  refine g_Night_place E I h_k0.1 mw_1_109 dX0_clear_58 ?_
  refine lv_iconst (v := 0) hx hb dX0_clear_61 (by decide) ?_
  refine p_Place_side E I h_k0.2.2.2.2.2.1 mw_1_54 dX0_clear_62 (fun H lo I => ?_)
  generalize ev11 : up1 v10 (k0 + 5) 2 (0 : Int32) = v11 at I
  replace hF := xl_i (ev11.symm) hF
  have rzv11 : ∀ k j : Nat, ¬ (k0 ≤ k ∧ k < k0 + 9) → v11.1 k j = v.1 k j := fun k j h => fz_u ev11 (by omega) (rzv10 k j h)
  refine lv_aload_n hx hb dX0_clear_65 rfl (lv_at hl 0 rfl) ?_
  refine g_Night_place E I h_k0.1 mw_1_109 dX0_clear_66 ?_
  refine lv_bipush (v := 20) hx hb dX0_clear_69 (by decide) ?_
  refine p_Place_water E I h_k0.2.2.2.2.2.1 mw_1_59 dX0_clear_71 (fun H lo I => ?_)
  generalize ev12 : up1 v11 (k0 + 5) 3 (20 : Int32) = v12 at I
  replace hF := xl_i (ev12.symm) hF
  have rzv12 : ∀ k j : Nat, ¬ (k0 ≤ k ∧ k < k0 + 9) → v12.1 k j = v.1 k j := fun k j h => fz_u ev12 (by omega) (rzv11 k j h)
  refine lv_aload_n hx hb dX0_clear_74 rfl (lv_at hl 0 rfl) ?_
  refine lv_iconst (v := 0) hx hb dX0_clear_75 (by decide) ?_
  refine p_Night_planned E I h_k0.1 mw_1_120 (by decide) dX0_clear_76 (fun H lo I => ?_)
  generalize ev13 : up1 v12 k0 14 (0 : Int32) = v13 at I
  replace hF := xl_i (ev13.symm) hF
  have rzv13 : ∀ k j : Nat, ¬ (k0 ≤ k ∧ k < k0 + 9) → v13.1 k j = v.1 k j := fun k j h => fz_u ev13 (by omega) (rzv12 k j h)
  refine lv_aload_n hx hb dX0_clear_79 rfl (lv_at hl 0 rfl) ?_
  refine lv_iconst (v := 0) hx hb dX0_clear_80 (by decide) ?_
  refine p_Night_seen E I h_k0.1 mw_1_129 (by decide) dX0_clear_81 (fun H lo I => ?_)
  generalize ev14 : up1 v13 k0 17 (0 : Int32) = v14 at I
  replace hF := xl_i (ev14.symm) hF
  have rzv14 : ∀ k j : Nat, ¬ (k0 ≤ k ∧ k < k0 + 9) → v14.1 k j = v.1 k j := fun k j h => fz_u ev14 (by omega) (rzv13 k j h)
  exact rV E I hr hlk (by rw [← hpost]; exact ⟨⟨I.2.2, trivial⟩, hF.trans hres, rzv14⟩) dX0_clear_84
def F_X0_become (k0 : Nat) (k1 : Nat) (v : St) : St :=
xl (v.1 k1 3) fun x1 =>
xl (up1 v k0 3 x1) fun v2 =>
xl (v2.1 k1 4) fun x3 =>
xl (up1 v2 k0 4 x3) fun v4 =>
xl (v4.1 k1 6) fun x5 =>
xl (up1 v4 k0 6 x5) fun v6 =>
xl (v6.1 k1 7) fun x7 =>
xl (up1 v6 k0 7 x7) fun v8 =>
xl (v8.1 k1 8) fun x9 =>
xl (up1 v8 k0 8 x9) fun v10 =>
xl (v10.1 k1 9) fun x11 =>
xl (up1 v10 k0 9 x11) fun v12 =>
xl (v12.1 k1 10) fun x13 =>
xl (up1 v12 k0 10 x13) fun v14 =>
xl (v14.1 k1 11) fun x15 =>
xl (up1 v14 k0 11 x15) fun v16 =>
xl (F_X2_become (k0 + 5) (k1 + 5) v16) fun u17 =>
xl (u17.1 k1 14) fun x19 =>
xl (up1 u17 k0 14 x19) fun v20 =>
xl (v20.1 k1 17) fun x21 =>
xl (up1 v20 k0 17 x21) fun v22 =>
xl (upR v22 (k0 + 1) (va_cpy (v22.1 (k1 + 1)) (v22.1 (k0 + 1)) 0 0 5)) fun v23 =>
xl (upR v23 (k0 + 2) (va_cpy (v23.1 (k1 + 2)) (v23.1 (k0 + 2)) 0 0 5)) fun v24 =>
xl (upR v24 (k0 + 3) (va_cpy (v24.1 (k1 + 3)) (v24.1 (k0 + 3)) 0 0 5)) fun v25 =>
xl (upR v25 (k0 + 4) (va_cpy (v25.1 (k1 + 4)) (v25.1 (k0 + 4)) 0 0 3)) fun v26 =>
xl (upR v26 (k0 + 6) (va_cpy (v26.1 (k1 + 6)) (v26.1 (k0 + 6)) 0 0 8)) fun v27 =>
xl (upR v27 (k0 + 7) (va_cpy (v27.1 (k1 + 7)) (v27.1 (k0 + 7)) 0 0 6)) fun v28 =>
xl (upR v28 (k0 + 8) (va_cpy (v28.1 (k1 + 8)) (v28.1 (k0 + 8)) 0 0 6)) fun v29 =>
v29
set_option maxHeartbeats 4000000 in
set_option maxRecDepth 100000 in
theorem c_X0_become (l : Launch) (w : Wp) (g : Nat → Nat → Int32) (v : St) (k0 : Nat) (k1 : Nat) (hq : Inj w) (hw : WF (wk w) g v) (h_k0 : oN w k0) (h_k1 : oN w k1) : CTv w l yX0_become (wsy yX0_become prog_2_method_3_code 2 none) (rmL 2) [.ref (wq w k0), .ref (wq w k1)] v (fun (u : St) => (WF (wk w) g u ∧ True) ∧ (u = F_X0_become k0 k1 v) ∧ (∀ k j : Nat, ¬ (k0 ≤ k ∧ k < k0 + 9) → u.1 k j = v.1 k j)) := by
  generalize hpost : (fun (u : St) => (WF (wk w) g u ∧ True) ∧ (u = F_X0_become k0 k1 v) ∧ (∀ k j : Nat, ¬ (k0 ≤ k ∧ k < k0 + 9) → u.1 k j = v.1 k j)) = post
  refine CTv.of prog_2_method_3_code 2 none "StarWalk$Night" (by decide +kernel) rfl hq hw (Nat.le_of_ble_eq_true rfl) ?_
  intro pg en s m ar bl me cd ls E I hr hlk hl
  have hx := E.1.1
  have hb := E.1.2.1
  have hl : lv_has ls 2 [(0, .ref (wq w k0)), (1, .ref (wq w k1))] := hl
  obtain ⟨res, hres⟩ : ∃ z, z = F_X0_become k0 k1 v := ⟨_, rfl⟩
  have hF := hres.symm
  unfold F_X0_become at hF
  replace hres : res = F_X0_become k0 k1 v := hres
  have rz0 : ∀ k j : Nat, ¬ (k0 ≤ k ∧ k < k0 + 9) → v.1 k j = v.1 k j := fun _ _ _ => rfl
  refine lv_aload_n hx hb dX0_become_0 rfl (lv_at hl 0 rfl) ?_
  refine lv_aload_n hx hb dX0_become_1 rfl (lv_at hl 1 rfl) ?_
  refine g_Night_stars E I h_k1.1 mw_1_83 dX0_become_2 ?_
  refine lv_topi (fun x1 ex1 => ?_)
  replace hF := xl_i (ex1) hF
  have hx1 := r_Night_stars I h_k1.1
  rw [← ex1] at hx1
  refine p_Night_stars E I h_k0.1 mw_1_83 (by omega) dX0_become_5 (fun H lo I => ?_)
  generalize ev2 : up1 v k0 3 x1 = v2 at I
  replace hF := xl_i (ev2.symm) hF
  have rzv2 : ∀ k j : Nat, ¬ (k0 ≤ k ∧ k < k0 + 9) → v2.1 k j = v.1 k j := fun k j h => fz_u ev2 (by omega) (rz0 k j h)
  refine lv_aload_n hx hb dX0_become_8 rfl (lv_at hl 0 rfl) ?_
  refine lv_aload_n hx hb dX0_become_9 rfl (lv_at hl 1 rfl) ?_
  refine g_Night_known E I h_k1.1 mw_1_86 dX0_become_10 ?_
  refine lv_topi (fun x3 ex3 => ?_)
  replace hF := xl_i (ex3) hF
  refine p_Night_known E I h_k0.1 mw_1_86 dX0_become_13 (fun H lo I => ?_)
  generalize ev4 : up1 v2 k0 4 x3 = v4 at I
  replace hF := xl_i (ev4.symm) hF
  have rzv4 : ∀ k j : Nat, ¬ (k0 ≤ k ∧ k < k0 + 9) → v4.1 k j = v.1 k j := fun k j h => fz_u ev4 (by omega) (rzv2 k j h)
  refine lv_aload_n hx hb dX0_become_16 rfl (lv_at hl 0 rfl) ?_
  refine lv_aload_n hx hb dX0_become_17 rfl (lv_at hl 1 rfl) ?_
  refine g_Night_walkers E I h_k1.1 mw_1_91 dX0_become_18 ?_
  refine lv_topi (fun x5 ex5 => ?_)
  replace hF := xl_i (ex5) hF
  have hx5 := r_Night_walkers I h_k1.1
  rw [← ex5] at hx5
  refine p_Night_walkers E I h_k0.1 mw_1_91 (by omega) dX0_become_21 (fun H lo I => ?_)
  generalize ev6 : up1 v4 k0 6 x5 = v6 at I
  replace hF := xl_i (ev6.symm) hF
  have rzv6 : ∀ k j : Nat, ¬ (k0 ≤ k ∧ k < k0 + 9) → v6.1 k j = v.1 k j := fun k j h => fz_u ev6 (by omega) (rzv4 k j h)
  refine lv_aload_n hx hb dX0_become_24 rfl (lv_at hl 0 rfl) ?_
  refine lv_aload_n hx hb dX0_become_25 rfl (lv_at hl 1 rfl) ?_
  refine g_Night_inFront E I h_k1.1 mw_1_94 dX0_become_26 ?_
  refine lv_topi (fun x7 ex7 => ?_)
  replace hF := xl_i (ex7) hF
  refine p_Night_inFront E I h_k0.1 mw_1_94 dX0_become_29 (fun H lo I => ?_)
  generalize ev8 : up1 v6 k0 7 x7 = v8 at I
  replace hF := xl_i (ev8.symm) hF
  have rzv8 : ∀ k j : Nat, ¬ (k0 ≤ k ∧ k < k0 + 9) → v8.1 k j = v.1 k j := fun k j h => fz_u ev8 (by omega) (rzv6 k j h)
  refine lv_aload_n hx hb dX0_become_32 rfl (lv_at hl 0 rfl) ?_
  refine lv_aload_n hx hb dX0_become_33 rfl (lv_at hl 1 rfl) ?_
  refine g_Night_wellMiles E I h_k1.1 mw_1_96 dX0_become_34 ?_
  refine lv_topi (fun x9 ex9 => ?_)
  replace hF := xl_i (ex9) hF
  refine p_Night_wellMiles E I h_k0.1 mw_1_96 dX0_become_37 (fun H lo I => ?_)
  generalize ev10 : up1 v8 k0 8 x9 = v10 at I
  replace hF := xl_i (ev10.symm) hF
  have rzv10 : ∀ k j : Nat, ¬ (k0 ≤ k ∧ k < k0 + 9) → v10.1 k j = v.1 k j := fun k j h => fz_u ev10 (by omega) (rzv8 k j h)
  refine lv_aload_n hx hb dX0_become_40 rfl (lv_at hl 0 rfl) ?_
  refine lv_aload_n hx hb dX0_become_41 rfl (lv_at hl 1 rfl) ?_
  refine g_Night_broad E I h_k1.1 mw_1_99 dX0_become_42 ?_
  refine lv_topi (fun x11 ex11 => ?_)
  replace hF := xl_i (ex11) hF
  refine p_Night_broad E I h_k0.1 mw_1_99 dX0_become_45 (fun H lo I => ?_)
  generalize ev12 : up1 v10 k0 9 x11 = v12 at I
  replace hF := xl_i (ev12.symm) hF
  have rzv12 : ∀ k j : Nat, ¬ (k0 ≤ k ∧ k < k0 + 9) → v12.1 k j = v.1 k j := fun k j h => fz_u ev12 (by omega) (rzv10 k j h)
  refine lv_aload_n hx hb dX0_become_48 rfl (lv_at hl 0 rfl) ?_
  refine lv_aload_n hx hb dX0_become_49 rfl (lv_at hl 1 rfl) ?_
  refine g_Night_till E I h_k1.1 mw_1_102 dX0_become_50 ?_
  refine lv_topi (fun x13 ex13 => ?_)
  replace hF := xl_i (ex13) hF
  refine p_Night_till E I h_k0.1 mw_1_102 dX0_become_53 (fun H lo I => ?_)
  generalize ev14 : up1 v12 k0 10 x13 = v14 at I
  replace hF := xl_i (ev14.symm) hF
  have rzv14 : ∀ k j : Nat, ¬ (k0 ≤ k ∧ k < k0 + 9) → v14.1 k j = v.1 k j := fun k j h => fz_u ev14 (by omega) (rzv12 k j h)
  refine lv_aload_n hx hb dX0_become_56 rfl (lv_at hl 0 rfl) ?_
  refine lv_aload_n hx hb dX0_become_57 rfl (lv_at hl 1 rfl) ?_
  refine g_Night_clouds E I h_k1.1 mw_1_105 dX0_become_58 ?_
  refine lv_topi (fun x15 ex15 => ?_)
  replace hF := xl_i (ex15) hF
  refine p_Night_clouds E I h_k0.1 mw_1_105 dX0_become_61 (fun H lo I => ?_)
  generalize ev16 : up1 v14 k0 11 x15 = v16 at I
  replace hF := xl_i (ev16.symm) hF
  have rzv16 : ∀ k j : Nat, ¬ (k0 ≤ k ∧ k < k0 + 9) → v16.1 k j = v.1 k j := fun k j h => fz_u ev16 (by omega) (rzv14 k j h)
  refine lv_aload_n hx hb dX0_become_64 rfl (lv_at hl 0 rfl) ?_
  refine g_Night_place E I h_k0.1 mw_1_109 dX0_become_65 ?_
  refine lv_aload_n hx hb dX0_become_68 rfl (lv_at hl 1 rfl) ?_
  refine g_Night_place E I h_k1.1 mw_1_109 dX0_become_69 ?_
  refine cVv E I (c_X2_become l w g v16 (k0 + 5) (k1 + 5) E.2.2.1 I.2.2 h_k0.2.2.2.2.2.1 h_k1.2.2.2.2.2.1  ) (cwV 1 E.1.2.2.2.2 (gWs (C := "StarWalk$Place") mw_3_60 mw_3_61 mw_3_62 mw_1_4 mw_3_63) rfl rfl rfl (by decide +kernel) ⟨by decide, by decide⟩) h_k0.2.2.2.2.2.1.1 ((ce_o h_k0.2.2.2.2.2.1.2).trans rfl) rfl rfl hl.1 rfl (Nat.le_of_ble_eq_true rfl) dX0_become_72 ⟨Nat.le_refl _, Nat.le_refl _⟩ (fun u17 H lo hp hPS => ?_)
  obtain ⟨hp, hex, hfr⟩ := hp
  replace hF := xl_i hex hF
  obtain ⟨hwf, p18⟩ := hp
  have I : Wo w g s.heap u17 H lo := ⟨hPS.1, hPS.2, hwf⟩
  have rzu17 : ∀ k j : Nat, ¬ (k0 ≤ k ∧ k < k0 + 9) → u17.1 k j = v.1 k j := fun k j h => (hfr k j (fun z => h (by omega))).trans (rzv16 k j h)
  refine lv_aload_n hx hb dX0_become_75 rfl (lv_at hl 0 rfl) ?_
  refine lv_aload_n hx hb dX0_become_76 rfl (lv_at hl 1 rfl) ?_
  refine g_Night_planned E I h_k1.1 mw_1_120 dX0_become_77 ?_
  refine lv_topi (fun x19 ex19 => ?_)
  replace hF := xl_i (ex19) hF
  have hx19 := r_Night_planned I h_k1.1
  rw [← ex19] at hx19
  refine p_Night_planned E I h_k0.1 mw_1_120 (by omega) dX0_become_80 (fun H lo I => ?_)
  generalize ev20 : up1 u17 k0 14 x19 = v20 at I
  replace hF := xl_i (ev20.symm) hF
  have rzv20 : ∀ k j : Nat, ¬ (k0 ≤ k ∧ k < k0 + 9) → v20.1 k j = v.1 k j := fun k j h => fz_u ev20 (by omega) (rzu17 k j h)
  refine lv_aload_n hx hb dX0_become_83 rfl (lv_at hl 0 rfl) ?_
  refine lv_aload_n hx hb dX0_become_84 rfl (lv_at hl 1 rfl) ?_
  refine g_Night_seen E I h_k1.1 mw_1_129 dX0_become_85 ?_
  refine lv_topi (fun x21 ex21 => ?_)
  replace hF := xl_i (ex21) hF
  have hx21 := r_Night_seen I h_k1.1
  rw [← ex21] at hx21
  refine p_Night_seen E I h_k0.1 mw_1_129 (by omega) dX0_become_88 (fun H lo I => ?_)
  generalize ev22 : up1 v20 k0 17 x21 = v22 at I
  replace hF := xl_i (ev22.symm) hF
  have rzv22 : ∀ k j : Nat, ¬ (k0 ≤ k ∧ k < k0 + 9) → v22.1 k j = v.1 k j := fun k j h => fz_u ev22 (by omega) (rzv20 k j h)
  refine lv_aload_n hx hb dX0_become_91 rfl (lv_at hl 1 rfl) ?_
  refine g_Night_from E I h_k1.1 mw_1_77 dX0_become_92 ?_
  refine lv_iconst (v := 0) hx hb dX0_become_95 (by decide) ?_
  refine lv_aload_n hx hb dX0_become_96 rfl (lv_at hl 0 rfl) ?_
  refine g_Night_from E I h_k0.1 mw_1_77 dX0_become_97 ?_
  refine lv_iconst (v := 0) hx hb dX0_become_100 (by decide) ?_
  refine lv_iconst (v := 5) hx hb dX0_become_101 (by decide) ?_
  refine cp_10 E I h_k1.2.1 h_k0.2.1 mw_3_64 (E.1.2.2.1.trans hl.1.symm) (by decide) (Nat.le_of_ble_eq_true rfl) dX0_become_102 (fun H lo I => ?_)
  generalize ev23 : upR v22 (k0 + 1) (va_cpy (v22.1 (k1 + 1)) (v22.1 (k0 + 1)) 0 0 5) = v23 at I
  replace hF := xl_i (ev23.symm) hF
  have rzv23 : ∀ k j : Nat, ¬ (k0 ≤ k ∧ k < k0 + 9) → v23.1 k j = v.1 k j := fun k j h => fz_r ev23 (by omega) (rzv22 k j h)
  refine lv_aload_n hx hb dX0_become_105 rfl (lv_at hl 1 rfl) ?_
  refine g_Night_to E I h_k1.1 mw_1_79 dX0_become_106 ?_
  refine lv_iconst (v := 0) hx hb dX0_become_109 (by decide) ?_
  refine lv_aload_n hx hb dX0_become_110 rfl (lv_at hl 0 rfl) ?_
  refine g_Night_to E I h_k0.1 mw_1_79 dX0_become_111 ?_
  refine lv_iconst (v := 0) hx hb dX0_become_114 (by decide) ?_
  refine lv_iconst (v := 5) hx hb dX0_become_115 (by decide) ?_
  refine cp_10 E I h_k1.2.2.1 h_k0.2.2.1 mw_3_64 (E.1.2.2.1.trans hl.1.symm) (by decide) (Nat.le_of_ble_eq_true rfl) dX0_become_116 (fun H lo I => ?_)
  generalize ev24 : upR v23 (k0 + 2) (va_cpy (v23.1 (k1 + 2)) (v23.1 (k0 + 2)) 0 0 5) = v24 at I
  replace hF := xl_i (ev24.symm) hF
  have rzv24 : ∀ k j : Nat, ¬ (k0 ≤ k ∧ k < k0 + 9) → v24.1 k j = v.1 k j := fun k j h => fz_r ev24 (by omega) (rzv23 k j h)
  refine lv_aload_n hx hb dX0_become_119 rfl (lv_at hl 1 rfl) ?_
  refine g_Night_off E I h_k1.1 mw_1_81 dX0_become_120 ?_
  refine lv_iconst (v := 0) hx hb dX0_become_123 (by decide) ?_
  refine lv_aload_n hx hb dX0_become_124 rfl (lv_at hl 0 rfl) ?_
  refine g_Night_off E I h_k0.1 mw_1_81 dX0_become_125 ?_
  refine lv_iconst (v := 0) hx hb dX0_become_128 (by decide) ?_
  refine lv_iconst (v := 5) hx hb dX0_become_129 (by decide) ?_
  refine cp_10 E I h_k1.2.2.2.1 h_k0.2.2.2.1 mw_3_64 (E.1.2.2.1.trans hl.1.symm) (by decide) (Nat.le_of_ble_eq_true rfl) dX0_become_130 (fun H lo I => ?_)
  generalize ev25 : upR v24 (k0 + 3) (va_cpy (v24.1 (k1 + 3)) (v24.1 (k0 + 3)) 0 0 5) = v25 at I
  replace hF := xl_i (ev25.symm) hF
  have rzv25 : ∀ k j : Nat, ¬ (k0 ≤ k ∧ k < k0 + 9) → v25.1 k j = v.1 k j := fun k j h => fz_r ev25 (by omega) (rzv24 k j h)
  refine lv_aload_n hx hb dX0_become_133 rfl (lv_at hl 1 rfl) ?_
  refine g_Night_kinds E I h_k1.1 mw_1_89 dX0_become_134 ?_
  refine lv_iconst (v := 0) hx hb dX0_become_137 (by decide) ?_
  refine lv_aload_n hx hb dX0_become_138 rfl (lv_at hl 0 rfl) ?_
  refine g_Night_kinds E I h_k0.1 mw_1_89 dX0_become_139 ?_
  refine lv_iconst (v := 0) hx hb dX0_become_142 (by decide) ?_
  refine lv_iconst (v := 3) hx hb dX0_become_143 (by decide) ?_
  refine cp_11 E I h_k1.2.2.2.2.1 h_k0.2.2.2.2.1 mw_3_64 (E.1.2.2.1.trans hl.1.symm) (by decide) (Nat.le_of_ble_eq_true rfl) dX0_become_144 (fun H lo I => ?_)
  generalize ev26 : upR v25 (k0 + 4) (va_cpy (v25.1 (k1 + 4)) (v25.1 (k0 + 4)) 0 0 3) = v26 at I
  replace hF := xl_i (ev26.symm) hF
  have rzv26 : ∀ k j : Nat, ¬ (k0 ≤ k ∧ k < k0 + 9) → v26.1 k j = v.1 k j := fun k j h => fz_r ev26 (by omega) (rzv25 k j h)
  refine lv_aload_n hx hb dX0_become_147 rfl (lv_at hl 1 rfl) ?_
  refine g_Night_plannedAims E I h_k1.1 mw_1_115 dX0_become_148 ?_
  refine lv_iconst (v := 0) hx hb dX0_become_151 (by decide) ?_
  refine lv_aload_n hx hb dX0_become_152 rfl (lv_at hl 0 rfl) ?_
  refine g_Night_plannedAims E I h_k0.1 mw_1_115 dX0_become_153 ?_
  refine lv_iconst (v := 0) hx hb dX0_become_156 (by decide) ?_
  refine lv_bipush (v := 8) hx hb dX0_become_157 (by decide) ?_
  refine cp_12 E I h_k1.2.2.2.2.2.2.1 h_k0.2.2.2.2.2.2.1 mw_3_64 (E.1.2.2.1.trans hl.1.symm) (by decide) (Nat.le_of_ble_eq_true rfl) dX0_become_159 (fun H lo I => ?_)
  generalize ev27 : upR v26 (k0 + 6) (va_cpy (v26.1 (k1 + 6)) (v26.1 (k0 + 6)) 0 0 8) = v27 at I
  replace hF := xl_i (ev27.symm) hF
  have rzv27 : ∀ k j : Nat, ¬ (k0 ≤ k ∧ k < k0 + 9) → v27.1 k j = v.1 k j := fun k j h => fz_r ev27 (by omega) (rzv26 k j h)
  refine lv_aload_n hx hb dX0_become_162 rfl (lv_at hl 1 rfl) ?_
  refine g_Night_seenBehind E I h_k1.1 mw_1_123 dX0_become_163 ?_
  refine lv_iconst (v := 0) hx hb dX0_become_166 (by decide) ?_
  refine lv_aload_n hx hb dX0_become_167 rfl (lv_at hl 0 rfl) ?_
  refine g_Night_seenBehind E I h_k0.1 mw_1_123 dX0_become_168 ?_
  refine lv_iconst (v := 0) hx hb dX0_become_171 (by decide) ?_
  refine lv_bipush (v := 6) hx hb dX0_become_172 (by decide) ?_
  refine cp_13 E I h_k1.2.2.2.2.2.2.2.1 h_k0.2.2.2.2.2.2.2.1 mw_3_64 (E.1.2.2.1.trans hl.1.symm) (by decide) (Nat.le_of_ble_eq_true rfl) dX0_become_174 (fun H lo I => ?_)
  generalize ev28 : upR v27 (k0 + 7) (va_cpy (v27.1 (k1 + 7)) (v27.1 (k0 + 7)) 0 0 6) = v28 at I
  replace hF := xl_i (ev28.symm) hF
  have rzv28 : ∀ k j : Nat, ¬ (k0 ≤ k ∧ k < k0 + 9) → v28.1 k j = v.1 k j := fun k j h => fz_r ev28 (by omega) (rzv27 k j h)
  refine lv_aload_n hx hb dX0_become_177 rfl (lv_at hl 1 rfl) ?_
  refine g_Night_seenSide E I h_k1.1 mw_1_126 dX0_become_178 ?_
  refine lv_iconst (v := 0) hx hb dX0_become_181 (by decide) ?_
  refine lv_aload_n hx hb dX0_become_182 rfl (lv_at hl 0 rfl) ?_
  refine g_Night_seenSide E I h_k0.1 mw_1_126 dX0_become_183 ?_
  refine lv_iconst (v := 0) hx hb dX0_become_186 (by decide) ?_
  refine lv_bipush (v := 6) hx hb dX0_become_187 (by decide) ?_
  refine cp_14 E I h_k1.2.2.2.2.2.2.2.2 h_k0.2.2.2.2.2.2.2.2 mw_3_64 (E.1.2.2.1.trans hl.1.symm) (by decide) (Nat.le_of_ble_eq_true rfl) dX0_become_189 (fun H lo I => ?_)
  generalize ev29 : upR v28 (k0 + 8) (va_cpy (v28.1 (k1 + 8)) (v28.1 (k0 + 8)) 0 0 6) = v29 at I
  replace hF := xl_i (ev29.symm) hF
  have rzv29 : ∀ k j : Nat, ¬ (k0 ≤ k ∧ k < k0 + 9) → v29.1 k j = v.1 k j := fun k j h => fz_r ev29 (by omega) (rzv28 k j h)
  exact rV E I hr hlk (by rw [← hpost]; exact ⟨⟨I.2.2, trivial⟩, hF.trans hres, rzv29⟩) dX0_become_192
def F_X0_hasStar (k0 : Nat) (a0 : Int32) (v : St) : Int32 :=
if a0.toInt < 0 then (
(0 : Int32)) else (
xl (v.1 k0 3) fun x2 =>
if a0.toInt < x2.toInt then (
(1 : Int32)) else (
(0 : Int32)))
set_option maxHeartbeats 4000000 in
set_option maxRecDepth 100000 in
theorem c_X0_hasStar (l : Launch) (w : Wp) (g : Nat → Nat → Int32) (v : St) (k0 : Nat) (a0 : Int32) (hq : Inj w) (hw : WF (wk w) g v) (h_k0 : oN w k0) : CTi w l yX0_hasStar (wsy yX0_hasStar prog_2_method_4_code 2 (some .boolean)) (rmL 1) [.ref (wq w k0), .int a0] v (fun (r : Int32) (u : St) => (u = v ∧ 0 ≤ r.toInt ∧ r.toInt ≤ 1 ∧ (¬ r.toInt = 0 → 0 ≤ a0.toInt ∧ a0.toInt ≤ 4)) ∧ (r = F_X0_hasStar k0 a0 v) ∧ True) := by
  generalize hpost : (fun (r : Int32) (u : St) => (u = v ∧ 0 ≤ r.toInt ∧ r.toInt ≤ 1 ∧ (¬ r.toInt = 0 → 0 ≤ a0.toInt ∧ a0.toInt ≤ 4)) ∧ (r = F_X0_hasStar k0 a0 v) ∧ True) = post
  refine CTi.of prog_2_method_4_code 2 (some .boolean) "StarWalk$Night" (by decide +kernel) rfl hq hw (Nat.le_of_ble_eq_true rfl) ?_
  intro pg en s m ar bl me cd ls E I hr hlk hl
  have hx := E.1.1
  have hb := E.1.2.1
  have hl : lv_has ls 2 [(0, .ref (wq w k0)), (1, .int a0)] := hl
  obtain ⟨res, hres⟩ : ∃ z, z = F_X0_hasStar k0 a0 v := ⟨_, rfl⟩
  have hF := hres.symm
  unfold F_X0_hasStar at hF
  replace hres : res = F_X0_hasStar k0 a0 v := hres
  refine lv_iload_n hx hb dX0_hasStar_0 rfl (lv_at hl 1 rfl) ?_
  refine bz_lt E (a := a0.toInt) rfl (tgt := 21) dX0_hasStar_1 (by decide) (fun c1 => ?_) (fun c1 => ?_)
  ·
    replace hF := if_t c1 hF
    refine lv_iconst (v := 0) hx hb dX0_hasStar_21 (by decide) ?_
    exact rI E I hr hlk rfl (by rw [← hpost]; exact ⟨⟨rfl, by have eL : (0 : Int32).toInt = 0 := rfl; omega⟩, hF.trans hres, trivial⟩) dX0_hasStar_22
  ·
    replace hF := if_l c1 hF
    refine lv_iload_n hx hb dX0_hasStar_4 rfl (lv_at hl 1 rfl) ?_
    refine lv_aload_n hx hb dX0_hasStar_5 rfl (lv_at hl 0 rfl) ?_
    refine g_Night_stars E I h_k0.1 mw_1_83 dX0_hasStar_6 ?_
    refine lv_topi (fun x2 ex2 => ?_)
    replace hF := xl_i (ex2) hF
    have hx2 := r_Night_stars I h_k0.1
    rw [← ex2] at hx2
    refine bi_ge E (a := a0.toInt) (b := x2.toInt) rfl rfl (tgt := 21) dX0_hasStar_9 (by decide) (fun c3 => ?_) (fun c3 => ?_)
    ·
      have rga0 := i32_rng a0
      replace hF := if_l c3 hF
      refine lv_iconst (v := 0) hx hb dX0_hasStar_21 (by decide) ?_
      exact rI E I hr hlk rfl (by rw [← hpost]; exact ⟨⟨rfl, by have eL : (0 : Int32).toInt = 0 := rfl; omega⟩, hF.trans hres, trivial⟩) dX0_hasStar_22
    ·
      have rga0 := i32_rng a0
      replace hF := if_t c3 hF
      refine lv_iload_n hx hb dX0_hasStar_12 rfl (lv_at hl 1 rfl) ?_
      refine lv_iconst (v := 5) hx hb dX0_hasStar_13 (by decide) ?_
      refine bi_ge E (a := a0.toInt) (b := 5) rfl rfl (tgt := 21) dX0_hasStar_14 (by decide) (fun c4 => ?_) (fun c4 => ?_)
      ·
        exfalso; omega
      ·
        refine lv_iconst (v := 1) hx hb dX0_hasStar_17 (by decide) ?_
        refine lv_goto (tgt := 22) hx hb dX0_hasStar_18 (by decide) ?_
        exact rI E I hr hlk rfl (by rw [← hpost]; exact ⟨⟨rfl, by have eL : (1 : Int32).toInt = 1 := rfl; omega⟩, hF.trans hres, trivial⟩) dX0_hasStar_22
def F_X0_hasWalker (k0 : Nat) (a0 : Int32) (v : St) : Int32 :=
if a0.toInt < 0 then (
(0 : Int32)) else (
xl (v.1 k0 6) fun x2 =>
if a0.toInt < x2.toInt then (
(1 : Int32)) else (
(0 : Int32)))
set_option maxHeartbeats 4000000 in
set_option maxRecDepth 100000 in
theorem c_X0_hasWalker (l : Launch) (w : Wp) (g : Nat → Nat → Int32) (v : St) (k0 : Nat) (a0 : Int32) (hq : Inj w) (hw : WF (wk w) g v) (h_k0 : oN w k0) : CTi w l yX0_hasWalker (wsy yX0_hasWalker prog_2_method_5_code 2 (some .boolean)) (rmL 1) [.ref (wq w k0), .int a0] v (fun (r : Int32) (u : St) => (u = v ∧ 0 ≤ r.toInt ∧ r.toInt ≤ 1 ∧ (¬ r.toInt = 0 → 0 ≤ a0.toInt ∧ a0.toInt ≤ 2)) ∧ (r = F_X0_hasWalker k0 a0 v) ∧ True) := by
  generalize hpost : (fun (r : Int32) (u : St) => (u = v ∧ 0 ≤ r.toInt ∧ r.toInt ≤ 1 ∧ (¬ r.toInt = 0 → 0 ≤ a0.toInt ∧ a0.toInt ≤ 2)) ∧ (r = F_X0_hasWalker k0 a0 v) ∧ True) = post
  refine CTi.of prog_2_method_5_code 2 (some .boolean) "StarWalk$Night" (by decide +kernel) rfl hq hw (Nat.le_of_ble_eq_true rfl) ?_
  intro pg en s m ar bl me cd ls E I hr hlk hl
  have hx := E.1.1
  have hb := E.1.2.1
  have hl : lv_has ls 2 [(0, .ref (wq w k0)), (1, .int a0)] := hl
  obtain ⟨res, hres⟩ : ∃ z, z = F_X0_hasWalker k0 a0 v := ⟨_, rfl⟩
  have hF := hres.symm
  unfold F_X0_hasWalker at hF
  replace hres : res = F_X0_hasWalker k0 a0 v := hres
  refine lv_iload_n hx hb dX0_hasWalker_0 rfl (lv_at hl 1 rfl) ?_
  refine bz_lt E (a := a0.toInt) rfl (tgt := 21) dX0_hasWalker_1 (by decide) (fun c1 => ?_) (fun c1 => ?_)
  ·
    replace hF := if_t c1 hF
    refine lv_iconst (v := 0) hx hb dX0_hasWalker_21 (by decide) ?_
    exact rI E I hr hlk rfl (by rw [← hpost]; exact ⟨⟨rfl, by have eL : (0 : Int32).toInt = 0 := rfl; omega⟩, hF.trans hres, trivial⟩) dX0_hasWalker_22
  ·
    replace hF := if_l c1 hF
    refine lv_iload_n hx hb dX0_hasWalker_4 rfl (lv_at hl 1 rfl) ?_
    refine lv_aload_n hx hb dX0_hasWalker_5 rfl (lv_at hl 0 rfl) ?_
    refine g_Night_walkers E I h_k0.1 mw_1_91 dX0_hasWalker_6 ?_
    refine lv_topi (fun x2 ex2 => ?_)
    replace hF := xl_i (ex2) hF
    have hx2 := r_Night_walkers I h_k0.1
    rw [← ex2] at hx2
    refine bi_ge E (a := a0.toInt) (b := x2.toInt) rfl rfl (tgt := 21) dX0_hasWalker_9 (by decide) (fun c3 => ?_) (fun c3 => ?_)
    ·
      have rga0 := i32_rng a0
      replace hF := if_l c3 hF
      refine lv_iconst (v := 0) hx hb dX0_hasWalker_21 (by decide) ?_
      exact rI E I hr hlk rfl (by rw [← hpost]; exact ⟨⟨rfl, by have eL : (0 : Int32).toInt = 0 := rfl; omega⟩, hF.trans hres, trivial⟩) dX0_hasWalker_22
    ·
      have rga0 := i32_rng a0
      replace hF := if_t c3 hF
      refine lv_iload_n hx hb dX0_hasWalker_12 rfl (lv_at hl 1 rfl) ?_
      refine lv_iconst (v := 3) hx hb dX0_hasWalker_13 (by decide) ?_
      refine bi_ge E (a := a0.toInt) (b := 3) rfl rfl (tgt := 21) dX0_hasWalker_14 (by decide) (fun c4 => ?_) (fun c4 => ?_)
      ·
        exfalso; omega
      ·
        refine lv_iconst (v := 1) hx hb dX0_hasWalker_17 (by decide) ?_
        refine lv_goto (tgt := 22) hx hb dX0_hasWalker_18 (by decide) ?_
        exact rI E I hr hlk rfl (by rw [← hpost]; exact ⟨⟨rfl, by have eL : (1 : Int32).toInt = 1 := rfl; omega⟩, hF.trans hres, trivial⟩) dX0_hasWalker_22
def F_X0_hasPlanned (k0 : Nat) (a0 : Int32) (v : St) : Int32 :=
if a0.toInt < 0 then (
(0 : Int32)) else (
xl (v.1 k0 14) fun x2 =>
if a0.toInt < x2.toInt then (
(1 : Int32)) else (
(0 : Int32)))
set_option maxHeartbeats 4000000 in
set_option maxRecDepth 100000 in
theorem c_X0_hasPlanned (l : Launch) (w : Wp) (g : Nat → Nat → Int32) (v : St) (k0 : Nat) (a0 : Int32) (hq : Inj w) (hw : WF (wk w) g v) (h_k0 : oN w k0) : CTi w l yX0_hasPlanned (wsy yX0_hasPlanned prog_2_method_6_code 2 (some .boolean)) (rmL 1) [.ref (wq w k0), .int a0] v (fun (r : Int32) (u : St) => (u = v ∧ 0 ≤ r.toInt ∧ r.toInt ≤ 1 ∧ (¬ r.toInt = 0 → 0 ≤ a0.toInt ∧ a0.toInt ≤ 7)) ∧ (r = F_X0_hasPlanned k0 a0 v) ∧ True) := by
  generalize hpost : (fun (r : Int32) (u : St) => (u = v ∧ 0 ≤ r.toInt ∧ r.toInt ≤ 1 ∧ (¬ r.toInt = 0 → 0 ≤ a0.toInt ∧ a0.toInt ≤ 7)) ∧ (r = F_X0_hasPlanned k0 a0 v) ∧ True) = post
  refine CTi.of prog_2_method_6_code 2 (some .boolean) "StarWalk$Night" (by decide +kernel) rfl hq hw (Nat.le_of_ble_eq_true rfl) ?_
  intro pg en s m ar bl me cd ls E I hr hlk hl
  have hx := E.1.1
  have hb := E.1.2.1
  have hl : lv_has ls 2 [(0, .ref (wq w k0)), (1, .int a0)] := hl
  obtain ⟨res, hres⟩ : ∃ z, z = F_X0_hasPlanned k0 a0 v := ⟨_, rfl⟩
  have hF := hres.symm
  unfold F_X0_hasPlanned at hF
  replace hres : res = F_X0_hasPlanned k0 a0 v := hres
  refine lv_iload_n hx hb dX0_hasPlanned_0 rfl (lv_at hl 1 rfl) ?_
  refine bz_lt E (a := a0.toInt) rfl (tgt := 22) dX0_hasPlanned_1 (by decide) (fun c1 => ?_) (fun c1 => ?_)
  ·
    replace hF := if_t c1 hF
    refine lv_iconst (v := 0) hx hb dX0_hasPlanned_22 (by decide) ?_
    exact rI E I hr hlk rfl (by rw [← hpost]; exact ⟨⟨rfl, by have eL : (0 : Int32).toInt = 0 := rfl; omega⟩, hF.trans hres, trivial⟩) dX0_hasPlanned_23
  ·
    replace hF := if_l c1 hF
    refine lv_iload_n hx hb dX0_hasPlanned_4 rfl (lv_at hl 1 rfl) ?_
    refine lv_aload_n hx hb dX0_hasPlanned_5 rfl (lv_at hl 0 rfl) ?_
    refine g_Night_planned E I h_k0.1 mw_1_120 dX0_hasPlanned_6 ?_
    refine lv_topi (fun x2 ex2 => ?_)
    replace hF := xl_i (ex2) hF
    have hx2 := r_Night_planned I h_k0.1
    rw [← ex2] at hx2
    refine bi_ge E (a := a0.toInt) (b := x2.toInt) rfl rfl (tgt := 22) dX0_hasPlanned_9 (by decide) (fun c3 => ?_) (fun c3 => ?_)
    ·
      have rga0 := i32_rng a0
      replace hF := if_l c3 hF
      refine lv_iconst (v := 0) hx hb dX0_hasPlanned_22 (by decide) ?_
      exact rI E I hr hlk rfl (by rw [← hpost]; exact ⟨⟨rfl, by have eL : (0 : Int32).toInt = 0 := rfl; omega⟩, hF.trans hres, trivial⟩) dX0_hasPlanned_23
    ·
      have rga0 := i32_rng a0
      replace hF := if_t c3 hF
      refine lv_iload_n hx hb dX0_hasPlanned_12 rfl (lv_at hl 1 rfl) ?_
      refine lv_bipush (v := 8) hx hb dX0_hasPlanned_13 (by decide) ?_
      refine bi_ge E (a := a0.toInt) (b := 8) rfl rfl (tgt := 22) dX0_hasPlanned_15 (by decide) (fun c4 => ?_) (fun c4 => ?_)
      ·
        exfalso; omega
      ·
        refine lv_iconst (v := 1) hx hb dX0_hasPlanned_18 (by decide) ?_
        refine lv_goto (tgt := 23) hx hb dX0_hasPlanned_19 (by decide) ?_
        exact rI E I hr hlk rfl (by rw [← hpost]; exact ⟨⟨rfl, by have eL : (1 : Int32).toInt = 1 := rfl; omega⟩, hF.trans hres, trivial⟩) dX0_hasPlanned_23
def F_X0_hasAim (k0 : Nat) (a0 : Int32) (v : St) : Int32 :=
if a0.toInt = 5 then (
(1 : Int32)) else (
if a0.toInt = 6 then (
(1 : Int32)) else (
xl (F_X0_hasStar k0 a0 v) fun r3 =>
if r3.toInt = 0 then (
(0 : Int32)) else (
(1 : Int32))))
set_option maxHeartbeats 4000000 in
set_option maxRecDepth 100000 in
theorem c_X0_hasAim (l : Launch) (w : Wp) (g : Nat → Nat → Int32) (v : St) (k0 : Nat) (a0 : Int32) (hq : Inj w) (hw : WF (wk w) g v) (h_k0 : oN w k0) : CTi w l yX0_hasAim (wsy yX0_hasAim prog_2_method_7_code 2 (some .boolean)) (rmL 2) [.ref (wq w k0), .int a0] v (fun (r : Int32) (u : St) => (u = v ∧ 0 ≤ r.toInt ∧ r.toInt ≤ 1) ∧ (r = F_X0_hasAim k0 a0 v) ∧ True) := by
  generalize hpost : (fun (r : Int32) (u : St) => (u = v ∧ 0 ≤ r.toInt ∧ r.toInt ≤ 1) ∧ (r = F_X0_hasAim k0 a0 v) ∧ True) = post
  refine CTi.of prog_2_method_7_code 2 (some .boolean) "StarWalk$Night" (by decide +kernel) rfl hq hw (Nat.le_of_ble_eq_true rfl) ?_
  intro pg en s m ar bl me cd ls E I hr hlk hl
  have hx := E.1.1
  have hb := E.1.2.1
  have hl : lv_has ls 2 [(0, .ref (wq w k0)), (1, .int a0)] := hl
  obtain ⟨res, hres⟩ : ∃ z, z = F_X0_hasAim k0 a0 v := ⟨_, rfl⟩
  have hF := hres.symm
  unfold F_X0_hasAim at hF
  replace hres : res = F_X0_hasAim k0 a0 v := hres
  refine lv_iload_n hx hb dX0_hasAim_0 rfl (lv_at hl 1 rfl) ?_
  refine lv_iconst (v := 5) hx hb dX0_hasAim_1 (by decide) ?_
  refine bi_eq E (a := a0.toInt) (b := 5) rfl rfl (tgt := 19) dX0_hasAim_2 (by decide) (fun c1 => ?_) (fun c1 => ?_)
  ·
    replace hF := if_t c1 hF
    refine lv_iconst (v := 1) hx hb dX0_hasAim_19 (by decide) ?_
    refine lv_goto (tgt := 24) hx hb dX0_hasAim_20 (by decide) ?_
    exact rI E I hr hlk rfl (by rw [← hpost]; exact ⟨⟨rfl, by have eL : (1 : Int32).toInt = 1 := rfl; omega⟩, hF.trans hres, trivial⟩) dX0_hasAim_24
  ·
    replace hF := if_f c1 hF
    refine lv_iload_n hx hb dX0_hasAim_5 rfl (lv_at hl 1 rfl) ?_
    refine lv_bipush (v := 6) hx hb dX0_hasAim_6 (by decide) ?_
    refine bi_eq E (a := a0.toInt) (b := 6) rfl rfl (tgt := 19) dX0_hasAim_8 (by decide) (fun c2 => ?_) (fun c2 => ?_)
    ·
      replace hF := if_t c2 hF
      refine lv_iconst (v := 1) hx hb dX0_hasAim_19 (by decide) ?_
      refine lv_goto (tgt := 24) hx hb dX0_hasAim_20 (by decide) ?_
      exact rI E I hr hlk rfl (by rw [← hpost]; exact ⟨⟨rfl, by have eL : (1 : Int32).toInt = 1 := rfl; omega⟩, hF.trans hres, trivial⟩) dX0_hasAim_24
    ·
      replace hF := if_f c2 hF
      refine lv_aload_n hx hb dX0_hasAim_11 rfl (lv_at hl 0 rfl) ?_
      refine lv_iload_n hx hb dX0_hasAim_12 rfl (lv_at hl 1 rfl) ?_
      refine cVi E I (c_X0_hasStar l w g v k0 a0 E.2.2.1 I.2.2 h_k0  ) (cwV 1 E.1.2.2.2.2 (gWs (C := "StarWalk$Night") mw_3_52 mw_3_53 mw_3_54 mw_1_3 mw_3_55) rfl rfl rfl (by decide +kernel) ⟨by decide, by decide⟩) h_k0.1.1 ((ce_o h_k0.1.2).trans rfl) rfl rfl hl.1 rfl (Nat.le_of_ble_eq_true rfl) dX0_hasAim_13 ⟨Nat.le_refl _, Nat.le_refl _⟩ (fun r3 u4 H lo hp hPS => ?_)
      obtain ⟨hp, hex, hfr⟩ := hp
      replace hF := xl_i hex hF
      obtain ⟨hu, p5⟩ := hp
      rw [hu] at hPS
      have I : Wo w g s.heap v H lo := ⟨hPS.1, hPS.2, I.2.2⟩
      refine bz_eq E (a := r3.toInt) rfl (tgt := 23) dX0_hasAim_16 (by decide) (fun c6 => ?_) (fun c6 => ?_)
      ·
        replace hF := if_t c6 hF
        refine lv_iconst (v := 0) hx hb dX0_hasAim_23 (by decide) ?_
        exact rI E I hr hlk rfl (by rw [← hpost]; exact ⟨⟨rfl, by have eL : (0 : Int32).toInt = 0 := rfl; omega⟩, hF.trans hres, trivial⟩) dX0_hasAim_24
      ·
        replace hF := if_f c6 hF
        refine lv_iconst (v := 1) hx hb dX0_hasAim_19 (by decide) ?_
        refine lv_goto (tgt := 24) hx hb dX0_hasAim_20 (by decide) ?_
        exact rI E I hr hlk rfl (by rw [← hpost]; exact ⟨⟨rfl, by have eL : (1 : Int32).toInt = 1 := rfl; omega⟩, hF.trans hres, trivial⟩) dX0_hasAim_24
def F_X0_isKnown (k0 : Nat) (a0 : Int32) (v : St) : Int32 :=
xl (v.1 k0 4) fun x1 =>
xl (x1 >>> (a0 &&& 31)) fun x2 =>
xl (x2 &&& (1 : Int32)) fun x3 =>
if x3.toInt = 1 then (
(1 : Int32)) else (
(0 : Int32))
set_option maxHeartbeats 4000000 in
set_option maxRecDepth 100000 in
theorem c_X0_isKnown (l : Launch) (w : Wp) (g : Nat → Nat → Int32) (v : St) (k0 : Nat) (a0 : Int32) (hq : Inj w) (hw : WF (wk w) g v) (h_k0 : oN w k0) : CTi w l yX0_isKnown (wsy yX0_isKnown prog_2_method_8_code 2 (some .boolean)) (rmL 1) [.ref (wq w k0), .int a0] v (fun (r : Int32) (u : St) => (u = v ∧ 0 ≤ r.toInt ∧ r.toInt ≤ 1) ∧ (r = F_X0_isKnown k0 a0 v) ∧ True) := by
  generalize hpost : (fun (r : Int32) (u : St) => (u = v ∧ 0 ≤ r.toInt ∧ r.toInt ≤ 1) ∧ (r = F_X0_isKnown k0 a0 v) ∧ True) = post
  refine CTi.of prog_2_method_8_code 2 (some .boolean) "StarWalk$Night" (by decide +kernel) rfl hq hw (Nat.le_of_ble_eq_true rfl) ?_
  intro pg en s m ar bl me cd ls E I hr hlk hl
  have hx := E.1.1
  have hb := E.1.2.1
  have hl : lv_has ls 2 [(0, .ref (wq w k0)), (1, .int a0)] := hl
  obtain ⟨res, hres⟩ : ∃ z, z = F_X0_isKnown k0 a0 v := ⟨_, rfl⟩
  have hF := hres.symm
  unfold F_X0_isKnown at hF
  replace hres : res = F_X0_isKnown k0 a0 v := hres
  refine lv_aload_n hx hb dX0_isKnown_0 rfl (lv_at hl 0 rfl) ?_
  refine g_Night_known E I h_k0.1 mw_1_86 dX0_isKnown_1 ?_
  refine lv_topi (fun x1 ex1 => ?_)
  replace hF := xl_i (ex1) hF
  refine lv_iload_n hx hb dX0_isKnown_4 rfl (lv_at hl 1 rfl) ?_
  refine lv_ishr hx hb dX0_isKnown_5 ?_
  refine lv_topi (fun x2 ex2 => ?_)
  replace hF := xl_i (ex2) hF
  refine lv_iconst (v := 1) hx hb dX0_isKnown_6 (by decide) ?_
  refine lv_iand hx hb dX0_isKnown_7 ?_
  refine lv_topi (fun x3 ex3 => ?_)
  replace hF := xl_i (ex3) hF
  have hx3 := anI (x := x2) (y := (1 : Int32)) (b := 1) rfl (by decide)
  rw [← ex3] at hx3
  refine lv_iconst (v := 1) hx hb dX0_isKnown_8 (by decide) ?_
  refine bi_ne E (a := x3.toInt) (b := 1) rfl rfl (tgt := 16) dX0_isKnown_9 (by decide) (fun c4 => ?_) (fun c4 => ?_)
  ·
    replace hF := if_f c4 hF
    refine lv_iconst (v := 0) hx hb dX0_isKnown_16 (by decide) ?_
    exact rI E I hr hlk rfl (by rw [← hpost]; exact ⟨⟨rfl, by have eL : (0 : Int32).toInt = 0 := rfl; omega⟩, hF.trans hres, trivial⟩) dX0_isKnown_17
  ·
    replace hF := if_t c4 hF
    refine lv_iconst (v := 1) hx hb dX0_isKnown_12 (by decide) ?_
    refine lv_goto (tgt := 17) hx hb dX0_isKnown_13 (by decide) ?_
    exact rI E I hr hlk rfl (by rw [← hpost]; exact ⟨⟨rfl, by have eL : (1 : Int32).toInt = 1 := rfl; omega⟩, hF.trans hres, trivial⟩) dX0_isKnown_17
def F_X0_isCloudy (k0 : Nat) (a0 : Int32) (v : St) : Int32 :=
xl (v.1 k0 11) fun x1 =>
xl (x1 >>> (a0 &&& 31)) fun x2 =>
xl (x2 &&& (1 : Int32)) fun x3 =>
if x3.toInt = 1 then (
(1 : Int32)) else (
(0 : Int32))
set_option maxHeartbeats 4000000 in
set_option maxRecDepth 100000 in
theorem c_X0_isCloudy (l : Launch) (w : Wp) (g : Nat → Nat → Int32) (v : St) (k0 : Nat) (a0 : Int32) (hq : Inj w) (hw : WF (wk w) g v) (h_k0 : oN w k0) : CTi w l yX0_isCloudy (wsy yX0_isCloudy prog_2_method_9_code 2 (some .boolean)) (rmL 1) [.ref (wq w k0), .int a0] v (fun (r : Int32) (u : St) => (u = v ∧ 0 ≤ r.toInt ∧ r.toInt ≤ 1) ∧ (r = F_X0_isCloudy k0 a0 v) ∧ True) := by
  generalize hpost : (fun (r : Int32) (u : St) => (u = v ∧ 0 ≤ r.toInt ∧ r.toInt ≤ 1) ∧ (r = F_X0_isCloudy k0 a0 v) ∧ True) = post
  refine CTi.of prog_2_method_9_code 2 (some .boolean) "StarWalk$Night" (by decide +kernel) rfl hq hw (Nat.le_of_ble_eq_true rfl) ?_
  intro pg en s m ar bl me cd ls E I hr hlk hl
  have hx := E.1.1
  have hb := E.1.2.1
  have hl : lv_has ls 2 [(0, .ref (wq w k0)), (1, .int a0)] := hl
  obtain ⟨res, hres⟩ : ∃ z, z = F_X0_isCloudy k0 a0 v := ⟨_, rfl⟩
  have hF := hres.symm
  unfold F_X0_isCloudy at hF
  replace hres : res = F_X0_isCloudy k0 a0 v := hres
  refine lv_aload_n hx hb dX0_isCloudy_0 rfl (lv_at hl 0 rfl) ?_
  refine g_Night_clouds E I h_k0.1 mw_1_105 dX0_isCloudy_1 ?_
  refine lv_topi (fun x1 ex1 => ?_)
  replace hF := xl_i (ex1) hF
  refine lv_iload_n hx hb dX0_isCloudy_4 rfl (lv_at hl 1 rfl) ?_
  refine lv_ishr hx hb dX0_isCloudy_5 ?_
  refine lv_topi (fun x2 ex2 => ?_)
  replace hF := xl_i (ex2) hF
  refine lv_iconst (v := 1) hx hb dX0_isCloudy_6 (by decide) ?_
  refine lv_iand hx hb dX0_isCloudy_7 ?_
  refine lv_topi (fun x3 ex3 => ?_)
  replace hF := xl_i (ex3) hF
  have hx3 := anI (x := x2) (y := (1 : Int32)) (b := 1) rfl (by decide)
  rw [← ex3] at hx3
  refine lv_iconst (v := 1) hx hb dX0_isCloudy_8 (by decide) ?_
  refine bi_ne E (a := x3.toInt) (b := 1) rfl rfl (tgt := 16) dX0_isCloudy_9 (by decide) (fun c4 => ?_) (fun c4 => ?_)
  ·
    replace hF := if_f c4 hF
    refine lv_iconst (v := 0) hx hb dX0_isCloudy_16 (by decide) ?_
    exact rI E I hr hlk rfl (by rw [← hpost]; exact ⟨⟨rfl, by have eL : (0 : Int32).toInt = 0 := rfl; omega⟩, hF.trans hres, trivial⟩) dX0_isCloudy_17
  ·
    replace hF := if_t c4 hF
    refine lv_iconst (v := 1) hx hb dX0_isCloudy_12 (by decide) ?_
    refine lv_goto (tgt := 17) hx hb dX0_isCloudy_13 (by decide) ?_
    exact rI E I hr hlk rfl (by rw [← hpost]; exact ⟨⟨rfl, by have eL : (1 : Int32).toInt = 1 := rfl; omega⟩, hF.trans hres, trivial⟩) dX0_isCloudy_17
def F_X0_addStar (k0 : Nat) (a0 : Int32) (a1 : Int32) (a2 : Int32) (v : St) : Int32 × St :=
xl (v.1 k0 3) fun x1 =>
if x1.toInt < 5 then (
xl (up1 v (k0 + 1) x1.toNatClampNeg a0) fun v4 =>
xl (up1 v4 (k0 + 2) x1.toNatClampNeg a1) fun v6 =>
xl (up1 v6 (k0 + 3) x1.toNatClampNeg a2) fun v8 =>
xl (x1 + (1 : Int32)) fun x10 =>
xl (up1 v8 k0 3 x10) fun v11 =>
((1 : Int32), v11)) else (
((0 : Int32), v))
set_option maxHeartbeats 4000000 in
set_option maxRecDepth 100000 in
theorem c_X0_addStar (l : Launch) (w : Wp) (g : Nat → Nat → Int32) (v : St) (k0 : Nat) (a0 : Int32) (a1 : Int32) (a2 : Int32) (hq : Inj w) (hw : WF (wk w) g v) (h_k0 : oN w k0) : CTi w l yX0_addStar (wsy yX0_addStar prog_2_method_10_code 4 (some .boolean)) (rmL 1) [.ref (wq w k0), .int a0, .int a1, .int a2] v (fun (r : Int32) (u : St) => (WF (wk w) g u ∧ 0 ≤ r.toInt ∧ r.toInt ≤ 1) ∧ ((r, u) = F_X0_addStar k0 a0 a1 a2 v) ∧ (∀ k j : Nat, ¬ (k0 ≤ k ∧ k < k0 + 9) → u.1 k j = v.1 k j)) := by
  generalize hpost : (fun (r : Int32) (u : St) => (WF (wk w) g u ∧ 0 ≤ r.toInt ∧ r.toInt ≤ 1) ∧ ((r, u) = F_X0_addStar k0 a0 a1 a2 v) ∧ (∀ k j : Nat, ¬ (k0 ≤ k ∧ k < k0 + 9) → u.1 k j = v.1 k j)) = post
  refine CTi.of prog_2_method_10_code 4 (some .boolean) "StarWalk$Night" (by decide +kernel) rfl hq hw (Nat.le_of_ble_eq_true rfl) ?_
  intro pg en s m ar bl me cd ls E I hr hlk hl
  have hx := E.1.1
  have hb := E.1.2.1
  have hl : lv_has ls 4 [(0, .ref (wq w k0)), (1, .int a0), (2, .int a1), (3, .int a2)] := hl
  obtain ⟨res, hres⟩ : ∃ z, z = F_X0_addStar k0 a0 a1 a2 v := ⟨_, rfl⟩
  have hF := hres.symm
  unfold F_X0_addStar at hF
  replace hres : res = F_X0_addStar k0 a0 a1 a2 v := hres
  have rz0 : ∀ k j : Nat, ¬ (k0 ≤ k ∧ k < k0 + 9) → v.1 k j = v.1 k j := fun _ _ _ => rfl
  refine lv_aload_n hx hb dX0_addStar_0 rfl (lv_at hl 0 rfl) ?_
  refine g_Night_stars E I h_k0.1 mw_1_83 dX0_addStar_1 ?_
  refine lv_topi (fun x1 ex1 => ?_)
  replace hF := xl_i (ex1) hF
  have hx1 := r_Night_stars I h_k0.1
  rw [← ex1] at hx1
  refine lv_iconst (v := 5) hx hb dX0_addStar_4 (by decide) ?_
  refine bi_lt E (a := x1.toInt) (b := 5) rfl rfl (tgt := 10) dX0_addStar_5 (by decide) (fun c2 => ?_) (fun c2 => ?_)
  ·
    replace hF := if_t c2 hF
    refine lv_aload_n hx hb dX0_addStar_10 rfl (lv_at hl 0 rfl) ?_
    refine g_Night_from E I h_k0.1 mw_1_77 dX0_addStar_11 ?_
    refine lv_aload_n hx hb dX0_addStar_14 rfl (lv_at hl 0 rfl) ?_
    refine g_Night_stars E I h_k0.1 mw_1_83 dX0_addStar_15 ?_
    refine lv_topi (fun x3 ex3 => ?_)
    obtain rfl : x1 = x3 := ex1.symm.symm.trans ex3.symm
    refine lv_iload_n hx hb dX0_addStar_18 rfl (lv_at hl 1 rfl) ?_
    refine pa_10 E I h_k0.2.1 (by omega) dX0_addStar_19 (fun H lo I => ?_)
    generalize ev4 : up1 v (k0 + 1) x1.toNatClampNeg a0 = v4 at I
    replace hF := xl_i (ev4.symm) hF
    have mv4_0 : v4.1 k0 3 = x1 := by rw [← ev4, up1_n _ _ (Or.inl (by omega))] <;> exact ex1.symm
    have rzv4 : ∀ k j : Nat, ¬ (k0 ≤ k ∧ k < k0 + 9) → v4.1 k j = v.1 k j := fun k j h => fz_u ev4 (by have czx1 := cnI (x := x1) (by omega); omega) (rz0 k j h)
    refine lv_aload_n hx hb dX0_addStar_20 rfl (lv_at hl 0 rfl) ?_
    refine g_Night_to E I h_k0.1 mw_1_79 dX0_addStar_21 ?_
    refine lv_aload_n hx hb dX0_addStar_24 rfl (lv_at hl 0 rfl) ?_
    refine g_Night_stars E I h_k0.1 mw_1_83 dX0_addStar_25 ?_
    refine lv_topi (fun x5 ex5 => ?_)
    obtain rfl : x1 = x5 := mv4_0.symm.trans ex5.symm
    refine lv_iload_n hx hb dX0_addStar_28 rfl (lv_at hl 2 rfl) ?_
    refine pa_10 E I h_k0.2.2.1 (by omega) dX0_addStar_29 (fun H lo I => ?_)
    generalize ev6 : up1 v4 (k0 + 2) x1.toNatClampNeg a1 = v6 at I
    replace hF := xl_i (ev6.symm) hF
    have mv6_0 : v6.1 k0 3 = x1 := by rw [← ev6, up1_n _ _ (Or.inl (by omega))] <;> exact mv4_0
    have rzv6 : ∀ k j : Nat, ¬ (k0 ≤ k ∧ k < k0 + 9) → v6.1 k j = v.1 k j := fun k j h => fz_u ev6 (by have czx1 := cnI (x := x1) (by omega); omega) (rzv4 k j h)
    refine lv_aload_n hx hb dX0_addStar_30 rfl (lv_at hl 0 rfl) ?_
    refine g_Night_off E I h_k0.1 mw_1_81 dX0_addStar_31 ?_
    refine lv_aload_n hx hb dX0_addStar_34 rfl (lv_at hl 0 rfl) ?_
    refine g_Night_stars E I h_k0.1 mw_1_83 dX0_addStar_35 ?_
    refine lv_topi (fun x7 ex7 => ?_)
    obtain rfl : x1 = x7 := mv6_0.symm.trans ex7.symm
    refine lv_iload_n hx hb dX0_addStar_38 rfl (lv_at hl 3 rfl) ?_
    refine pa_10 E I h_k0.2.2.2.1 (by omega) dX0_addStar_39 (fun H lo I => ?_)
    generalize ev8 : up1 v6 (k0 + 3) x1.toNatClampNeg a2 = v8 at I
    replace hF := xl_i (ev8.symm) hF
    have mv8_0 : v8.1 k0 3 = x1 := by rw [← ev8, up1_n _ _ (Or.inl (by omega))] <;> exact mv6_0
    have rzv8 : ∀ k j : Nat, ¬ (k0 ≤ k ∧ k < k0 + 9) → v8.1 k j = v.1 k j := fun k j h => fz_u ev8 (by have czx1 := cnI (x := x1) (by omega); omega) (rzv6 k j h)
    refine lv_aload_n hx hb dX0_addStar_40 rfl (lv_at hl 0 rfl) ?_
    refine lv_dup hx hb dX0_addStar_41 rfl ?_
    refine g_Night_stars E I h_k0.1 mw_1_83 dX0_addStar_42 ?_
    refine lv_topi (fun x9 ex9 => ?_)
    obtain rfl : x1 = x9 := mv8_0.symm.trans ex9.symm
    refine lv_iconst (v := 1) hx hb dX0_addStar_45 (by decide) ?_
    refine lv_iadd hx hb dX0_addStar_46 ?_
    refine lv_topi (fun x10 ex10 => ?_)
    replace hF := xl_i (ex10) hF
    have hx10 : x10.toInt = x1.toInt + 1 := by rw [ex10]; exact adI (a := x1.toInt) (b := 1) rfl rfl (by omega) (by omega)
    refine p_Night_stars E I h_k0.1 mw_1_83 (by omega) dX0_addStar_47 (fun H lo I => ?_)
    generalize ev11 : up1 v8 k0 3 x10 = v11 at I
    replace hF := xl_i (ev11.symm) hF
    have rzv11 : ∀ k j : Nat, ¬ (k0 ≤ k ∧ k < k0 + 9) → v11.1 k j = v.1 k j := fun k j h => fz_u ev11 (by omega) (rzv8 k j h)
    refine lv_iconst (v := 1) hx hb dX0_addStar_50 (by decide) ?_
    exact rI E I hr hlk rfl (by rw [← hpost]; exact ⟨⟨I.2.2, by have eL : (1 : Int32).toInt = 1 := rfl; omega⟩, hF.trans hres, rzv11⟩) dX0_addStar_51
  ·
    replace hF := if_l c2 hF
    refine lv_iconst (v := 0) hx hb dX0_addStar_8 (by decide) ?_
    exact rI E I hr hlk rfl (by rw [← hpost]; exact ⟨⟨I.2.2, by have eL : (0 : Int32).toInt = 0 := rfl; omega⟩, hF.trans hres, rz0⟩) dX0_addStar_9
def F_X0_addWalker (k0 : Nat) (a0 : Int32) (v : St) : Int32 × St :=
xl (v.1 k0 6) fun x1 =>
if x1.toInt < 3 then (
xl (up1 v (k0 + 4) x1.toNatClampNeg a0) fun v4 =>
xl (x1 + (1 : Int32)) fun x6 =>
xl (up1 v4 k0 6 x6) fun v7 =>
((1 : Int32), v7)) else (
((0 : Int32), v))
set_option maxHeartbeats 4000000 in
set_option maxRecDepth 100000 in
theorem c_X0_addWalker (l : Launch) (w : Wp) (g : Nat → Nat → Int32) (v : St) (k0 : Nat) (a0 : Int32) (hq : Inj w) (hw : WF (wk w) g v) (h_k0 : oN w k0) : CTi w l yX0_addWalker (wsy yX0_addWalker prog_2_method_11_code 2 (some .boolean)) (rmL 1) [.ref (wq w k0), .int a0] v (fun (r : Int32) (u : St) => (WF (wk w) g u ∧ 0 ≤ r.toInt ∧ r.toInt ≤ 1) ∧ ((r, u) = F_X0_addWalker k0 a0 v) ∧ (∀ k j : Nat, ¬ (k0 ≤ k ∧ k < k0 + 9) → u.1 k j = v.1 k j)) := by
  generalize hpost : (fun (r : Int32) (u : St) => (WF (wk w) g u ∧ 0 ≤ r.toInt ∧ r.toInt ≤ 1) ∧ ((r, u) = F_X0_addWalker k0 a0 v) ∧ (∀ k j : Nat, ¬ (k0 ≤ k ∧ k < k0 + 9) → u.1 k j = v.1 k j)) = post
  refine CTi.of prog_2_method_11_code 2 (some .boolean) "StarWalk$Night" (by decide +kernel) rfl hq hw (Nat.le_of_ble_eq_true rfl) ?_
  intro pg en s m ar bl me cd ls E I hr hlk hl
  have hx := E.1.1
  have hb := E.1.2.1
  have hl : lv_has ls 2 [(0, .ref (wq w k0)), (1, .int a0)] := hl
  obtain ⟨res, hres⟩ : ∃ z, z = F_X0_addWalker k0 a0 v := ⟨_, rfl⟩
  have hF := hres.symm
  unfold F_X0_addWalker at hF
  replace hres : res = F_X0_addWalker k0 a0 v := hres
  have rz0 : ∀ k j : Nat, ¬ (k0 ≤ k ∧ k < k0 + 9) → v.1 k j = v.1 k j := fun _ _ _ => rfl
  refine lv_aload_n hx hb dX0_addWalker_0 rfl (lv_at hl 0 rfl) ?_
  refine g_Night_walkers E I h_k0.1 mw_1_91 dX0_addWalker_1 ?_
  refine lv_topi (fun x1 ex1 => ?_)
  replace hF := xl_i (ex1) hF
  have hx1 := r_Night_walkers I h_k0.1
  rw [← ex1] at hx1
  refine lv_iconst (v := 3) hx hb dX0_addWalker_4 (by decide) ?_
  refine bi_lt E (a := x1.toInt) (b := 3) rfl rfl (tgt := 10) dX0_addWalker_5 (by decide) (fun c2 => ?_) (fun c2 => ?_)
  ·
    replace hF := if_t c2 hF
    refine lv_aload_n hx hb dX0_addWalker_10 rfl (lv_at hl 0 rfl) ?_
    refine g_Night_kinds E I h_k0.1 mw_1_89 dX0_addWalker_11 ?_
    refine lv_aload_n hx hb dX0_addWalker_14 rfl (lv_at hl 0 rfl) ?_
    refine g_Night_walkers E I h_k0.1 mw_1_91 dX0_addWalker_15 ?_
    refine lv_topi (fun x3 ex3 => ?_)
    obtain rfl : x1 = x3 := ex1.symm.symm.trans ex3.symm
    refine lv_iload_n hx hb dX0_addWalker_18 rfl (lv_at hl 1 rfl) ?_
    refine pa_11 E I h_k0.2.2.2.2.1 (by omega) dX0_addWalker_19 (fun H lo I => ?_)
    generalize ev4 : up1 v (k0 + 4) x1.toNatClampNeg a0 = v4 at I
    replace hF := xl_i (ev4.symm) hF
    have mv4_0 : v4.1 k0 6 = x1 := by rw [← ev4, up1_n _ _ (Or.inl (by omega))] <;> exact ex1.symm
    have rzv4 : ∀ k j : Nat, ¬ (k0 ≤ k ∧ k < k0 + 9) → v4.1 k j = v.1 k j := fun k j h => fz_u ev4 (by have czx1 := cnI (x := x1) (by omega); omega) (rz0 k j h)
    refine lv_aload_n hx hb dX0_addWalker_20 rfl (lv_at hl 0 rfl) ?_
    refine lv_dup hx hb dX0_addWalker_21 rfl ?_
    refine g_Night_walkers E I h_k0.1 mw_1_91 dX0_addWalker_22 ?_
    refine lv_topi (fun x5 ex5 => ?_)
    obtain rfl : x1 = x5 := mv4_0.symm.trans ex5.symm
    refine lv_iconst (v := 1) hx hb dX0_addWalker_25 (by decide) ?_
    refine lv_iadd hx hb dX0_addWalker_26 ?_
    refine lv_topi (fun x6 ex6 => ?_)
    replace hF := xl_i (ex6) hF
    have hx6 : x6.toInt = x1.toInt + 1 := by rw [ex6]; exact adI (a := x1.toInt) (b := 1) rfl rfl (by omega) (by omega)
    refine p_Night_walkers E I h_k0.1 mw_1_91 (by omega) dX0_addWalker_27 (fun H lo I => ?_)
    generalize ev7 : up1 v4 k0 6 x6 = v7 at I
    replace hF := xl_i (ev7.symm) hF
    have rzv7 : ∀ k j : Nat, ¬ (k0 ≤ k ∧ k < k0 + 9) → v7.1 k j = v.1 k j := fun k j h => fz_u ev7 (by omega) (rzv4 k j h)
    refine lv_iconst (v := 1) hx hb dX0_addWalker_30 (by decide) ?_
    exact rI E I hr hlk rfl (by rw [← hpost]; exact ⟨⟨I.2.2, by have eL : (1 : Int32).toInt = 1 := rfl; omega⟩, hF.trans hres, rzv7⟩) dX0_addWalker_31
  ·
    replace hF := if_l c2 hF
    refine lv_iconst (v := 0) hx hb dX0_addWalker_8 (by decide) ?_
    exact rI E I hr hlk rfl (by rw [← hpost]; exact ⟨⟨I.2.2, by have eL : (0 : Int32).toInt = 0 := rfl; omega⟩, hF.trans hres, rz0⟩) dX0_addWalker_9
def F_X0_addAim (k0 : Nat) (a0 : Int32) (v : St) : Int32 × St :=
xl (v.1 k0 14) fun x1 =>
if x1.toInt < 8 then (
xl (up1 v (k0 + 6) x1.toNatClampNeg a0) fun v4 =>
xl (x1 + (1 : Int32)) fun x6 =>
xl (up1 v4 k0 14 x6) fun v7 =>
((1 : Int32), v7)) else (
((0 : Int32), v))
set_option maxHeartbeats 4000000 in
set_option maxRecDepth 100000 in
theorem c_X0_addAim (l : Launch) (w : Wp) (g : Nat → Nat → Int32) (v : St) (k0 : Nat) (a0 : Int32) (hq : Inj w) (hw : WF (wk w) g v) (h_k0 : oN w k0) : CTi w l yX0_addAim (wsy yX0_addAim prog_2_method_12_code 2 (some .boolean)) (rmL 1) [.ref (wq w k0), .int a0] v (fun (r : Int32) (u : St) => (WF (wk w) g u ∧ 0 ≤ r.toInt ∧ r.toInt ≤ 1) ∧ ((r, u) = F_X0_addAim k0 a0 v) ∧ (∀ k j : Nat, ¬ (k0 ≤ k ∧ k < k0 + 9) → u.1 k j = v.1 k j)) := by
  generalize hpost : (fun (r : Int32) (u : St) => (WF (wk w) g u ∧ 0 ≤ r.toInt ∧ r.toInt ≤ 1) ∧ ((r, u) = F_X0_addAim k0 a0 v) ∧ (∀ k j : Nat, ¬ (k0 ≤ k ∧ k < k0 + 9) → u.1 k j = v.1 k j)) = post
  refine CTi.of prog_2_method_12_code 2 (some .boolean) "StarWalk$Night" (by decide +kernel) rfl hq hw (Nat.le_of_ble_eq_true rfl) ?_
  intro pg en s m ar bl me cd ls E I hr hlk hl
  have hx := E.1.1
  have hb := E.1.2.1
  have hl : lv_has ls 2 [(0, .ref (wq w k0)), (1, .int a0)] := hl
  obtain ⟨res, hres⟩ : ∃ z, z = F_X0_addAim k0 a0 v := ⟨_, rfl⟩
  have hF := hres.symm
  unfold F_X0_addAim at hF
  replace hres : res = F_X0_addAim k0 a0 v := hres
  have rz0 : ∀ k j : Nat, ¬ (k0 ≤ k ∧ k < k0 + 9) → v.1 k j = v.1 k j := fun _ _ _ => rfl
  refine lv_aload_n hx hb dX0_addAim_0 rfl (lv_at hl 0 rfl) ?_
  refine g_Night_planned E I h_k0.1 mw_1_120 dX0_addAim_1 ?_
  refine lv_topi (fun x1 ex1 => ?_)
  replace hF := xl_i (ex1) hF
  have hx1 := r_Night_planned I h_k0.1
  rw [← ex1] at hx1
  refine lv_bipush (v := 8) hx hb dX0_addAim_4 (by decide) ?_
  refine bi_lt E (a := x1.toInt) (b := 8) rfl rfl (tgt := 11) dX0_addAim_6 (by decide) (fun c2 => ?_) (fun c2 => ?_)
  ·
    replace hF := if_t c2 hF
    refine lv_aload_n hx hb dX0_addAim_11 rfl (lv_at hl 0 rfl) ?_
    refine g_Night_plannedAims E I h_k0.1 mw_1_115 dX0_addAim_12 ?_
    refine lv_aload_n hx hb dX0_addAim_15 rfl (lv_at hl 0 rfl) ?_
    refine g_Night_planned E I h_k0.1 mw_1_120 dX0_addAim_16 ?_
    refine lv_topi (fun x3 ex3 => ?_)
    obtain rfl : x1 = x3 := ex1.symm.symm.trans ex3.symm
    refine lv_iload_n hx hb dX0_addAim_19 rfl (lv_at hl 1 rfl) ?_
    refine pa_12 E I h_k0.2.2.2.2.2.2.1 (by omega) dX0_addAim_20 (fun H lo I => ?_)
    generalize ev4 : up1 v (k0 + 6) x1.toNatClampNeg a0 = v4 at I
    replace hF := xl_i (ev4.symm) hF
    have mv4_0 : v4.1 k0 14 = x1 := by rw [← ev4, up1_n _ _ (Or.inl (by omega))] <;> exact ex1.symm
    have rzv4 : ∀ k j : Nat, ¬ (k0 ≤ k ∧ k < k0 + 9) → v4.1 k j = v.1 k j := fun k j h => fz_u ev4 (by have czx1 := cnI (x := x1) (by omega); omega) (rz0 k j h)
    refine lv_aload_n hx hb dX0_addAim_21 rfl (lv_at hl 0 rfl) ?_
    refine lv_dup hx hb dX0_addAim_22 rfl ?_
    refine g_Night_planned E I h_k0.1 mw_1_120 dX0_addAim_23 ?_
    refine lv_topi (fun x5 ex5 => ?_)
    obtain rfl : x1 = x5 := mv4_0.symm.trans ex5.symm
    refine lv_iconst (v := 1) hx hb dX0_addAim_26 (by decide) ?_
    refine lv_iadd hx hb dX0_addAim_27 ?_
    refine lv_topi (fun x6 ex6 => ?_)
    replace hF := xl_i (ex6) hF
    have hx6 : x6.toInt = x1.toInt + 1 := by rw [ex6]; exact adI (a := x1.toInt) (b := 1) rfl rfl (by omega) (by omega)
    refine p_Night_planned E I h_k0.1 mw_1_120 (by omega) dX0_addAim_28 (fun H lo I => ?_)
    generalize ev7 : up1 v4 k0 14 x6 = v7 at I
    replace hF := xl_i (ev7.symm) hF
    have rzv7 : ∀ k j : Nat, ¬ (k0 ≤ k ∧ k < k0 + 9) → v7.1 k j = v.1 k j := fun k j h => fz_u ev7 (by omega) (rzv4 k j h)
    refine lv_iconst (v := 1) hx hb dX0_addAim_31 (by decide) ?_
    exact rI E I hr hlk rfl (by rw [← hpost]; exact ⟨⟨I.2.2, by have eL : (1 : Int32).toInt = 1 := rfl; omega⟩, hF.trans hres, rzv7⟩) dX0_addAim_32
  ·
    replace hF := if_l c2 hF
    refine lv_iconst (v := 0) hx hb dX0_addAim_9 (by decide) ?_
    exact rI E I hr hlk rfl (by rw [← hpost]; exact ⟨⟨I.2.2, by have eL : (0 : Int32).toInt = 0 := rfl; omega⟩, hF.trans hres, rz0⟩) dX0_addAim_10
def F_X0_isStarUp (k0 : Nat) (a0 : Int32) (a1 : Int32) (v : St) : Int32 :=
xl (F_X0_hasStar k0 a0 v) fun r1 =>
if r1.toInt = 0 then (
(0 : Int32)) else (
xl (v.1 (k0 + 1) a0.toNatClampNeg) fun x5 =>
if a1.toInt < x5.toInt then (
(0 : Int32)) else (
xl (v.1 (k0 + 2) a0.toNatClampNeg) fun x7 =>
if x7.toInt < a1.toInt then (
(0 : Int32)) else (
xl (F_X0_isCloudy k0 a1 v) fun r9 =>
if r9.toInt = 0 then (
(1 : Int32)) else (
(0 : Int32)))))
set_option maxHeartbeats 4000000 in
set_option maxRecDepth 100000 in
theorem c_X0_isStarUp (l : Launch) (w : Wp) (g : Nat → Nat → Int32) (v : St) (k0 : Nat) (a0 : Int32) (a1 : Int32) (hq : Inj w) (hw : WF (wk w) g v) (h_k0 : oN w k0) : CTi w l yX0_isStarUp (wsy yX0_isStarUp prog_2_method_13_code 3 (some .boolean)) (rmL 2) [.ref (wq w k0), .int a0, .int a1] v (fun (r : Int32) (u : St) => (u = v ∧ 0 ≤ r.toInt ∧ r.toInt ≤ 1 ∧ (¬ r.toInt = 0 → 0 ≤ a0.toInt ∧ a0.toInt ≤ 4)) ∧ (r = F_X0_isStarUp k0 a0 a1 v) ∧ True) := by
  generalize hpost : (fun (r : Int32) (u : St) => (u = v ∧ 0 ≤ r.toInt ∧ r.toInt ≤ 1 ∧ (¬ r.toInt = 0 → 0 ≤ a0.toInt ∧ a0.toInt ≤ 4)) ∧ (r = F_X0_isStarUp k0 a0 a1 v) ∧ True) = post
  refine CTi.of prog_2_method_13_code 3 (some .boolean) "StarWalk$Night" (by decide +kernel) rfl hq hw (Nat.le_of_ble_eq_true rfl) ?_
  intro pg en s m ar bl me cd ls E I hr hlk hl
  have hx := E.1.1
  have hb := E.1.2.1
  have hl : lv_has ls 3 [(0, .ref (wq w k0)), (1, .int a0), (2, .int a1)] := hl
  obtain ⟨res, hres⟩ : ∃ z, z = F_X0_isStarUp k0 a0 a1 v := ⟨_, rfl⟩
  have hF := hres.symm
  unfold F_X0_isStarUp at hF
  replace hres : res = F_X0_isStarUp k0 a0 a1 v := hres
  refine lv_aload_n hx hb dX0_isStarUp_0 rfl (lv_at hl 0 rfl) ?_
  refine lv_iload_n hx hb dX0_isStarUp_1 rfl (lv_at hl 1 rfl) ?_
  refine cVi E I (c_X0_hasStar l w g v k0 a0 E.2.2.1 I.2.2 h_k0  ) (cwV 1 E.1.2.2.2.2 (gWs (C := "StarWalk$Night") mw_3_52 mw_3_53 mw_3_54 mw_1_3 mw_3_55) rfl rfl rfl (by decide +kernel) ⟨by decide, by decide⟩) h_k0.1.1 ((ce_o h_k0.1.2).trans rfl) rfl rfl hl.1 rfl (Nat.le_of_ble_eq_true rfl) dX0_isStarUp_2 ⟨Nat.le_refl _, Nat.le_refl _⟩ (fun r1 u2 H lo hp hPS => ?_)
  obtain ⟨hp, hex, hfr⟩ := hp
  replace hF := xl_i hex hF
  obtain ⟨hu, p3⟩ := hp
  rw [hu] at hPS
  have I : Wo w g s.heap v H lo := ⟨hPS.1, hPS.2, I.2.2⟩
  refine bz_eq E (a := r1.toInt) rfl (tgt := 40) dX0_isStarUp_5 (by decide) (fun c4 => ?_) (fun c4 => ?_)
  ·
    replace hF := if_t c4 hF
    refine lv_iconst (v := 0) hx hb dX0_isStarUp_40 (by decide) ?_
    exact rI E I hr hlk rfl (by rw [← hpost]; exact ⟨⟨rfl, by have eL : (0 : Int32).toInt = 0 := rfl; omega⟩, hF.trans hres, trivial⟩) dX0_isStarUp_41
  ·
    replace hF := if_f c4 hF
    refine lv_aload_n hx hb dX0_isStarUp_8 rfl (lv_at hl 0 rfl) ?_
    refine g_Night_from E I h_k0.1 mw_1_77 dX0_isStarUp_9 ?_
    refine lv_iload_n hx hb dX0_isStarUp_12 rfl (lv_at hl 1 rfl) ?_
    refine ga_10 E I h_k0.2.1 (by omega) dX0_isStarUp_13 ?_
    refine lv_topi (fun x5 ex5 => ?_)
    replace hF := xl_i (ex5) hF
    refine lv_iload_n hx hb dX0_isStarUp_14 rfl (lv_at hl 2 rfl) ?_
    refine bi_gt E (a := x5.toInt) (b := a1.toInt) rfl rfl (tgt := 40) dX0_isStarUp_15 (by decide) (fun c6 => ?_) (fun c6 => ?_)
    ·
      have rgx5 := i32_rng x5
      have rga1 := i32_rng a1
      replace hF := if_t c6 hF
      refine lv_iconst (v := 0) hx hb dX0_isStarUp_40 (by decide) ?_
      exact rI E I hr hlk rfl (by rw [← hpost]; exact ⟨⟨rfl, by have eL : (0 : Int32).toInt = 0 := rfl; omega⟩, hF.trans hres, trivial⟩) dX0_isStarUp_41
    ·
      have rgx5 := i32_rng x5
      have rga1 := i32_rng a1
      replace hF := if_l c6 hF
      refine lv_iload_n hx hb dX0_isStarUp_18 rfl (lv_at hl 2 rfl) ?_
      refine lv_aload_n hx hb dX0_isStarUp_19 rfl (lv_at hl 0 rfl) ?_
      refine g_Night_to E I h_k0.1 mw_1_79 dX0_isStarUp_20 ?_
      refine lv_iload_n hx hb dX0_isStarUp_23 rfl (lv_at hl 1 rfl) ?_
      refine ga_10 E I h_k0.2.2.1 (by omega) dX0_isStarUp_24 ?_
      refine lv_topi (fun x7 ex7 => ?_)
      replace hF := xl_i (ex7) hF
      refine bi_gt E (a := a1.toInt) (b := x7.toInt) rfl rfl (tgt := 40) dX0_isStarUp_25 (by decide) (fun c8 => ?_) (fun c8 => ?_)
      ·
        have rga1 := i32_rng a1
        have rgx7 := i32_rng x7
        replace hF := if_t c8 hF
        refine lv_iconst (v := 0) hx hb dX0_isStarUp_40 (by decide) ?_
        exact rI E I hr hlk rfl (by rw [← hpost]; exact ⟨⟨rfl, by have eL : (0 : Int32).toInt = 0 := rfl; omega⟩, hF.trans hres, trivial⟩) dX0_isStarUp_41
      ·
        have rga1 := i32_rng a1
        have rgx7 := i32_rng x7
        replace hF := if_l c8 hF
        refine lv_aload_n hx hb dX0_isStarUp_28 rfl (lv_at hl 0 rfl) ?_
        refine lv_iload_n hx hb dX0_isStarUp_29 rfl (lv_at hl 2 rfl) ?_
        refine cVi E I (c_X0_isCloudy l w g v k0 a1 E.2.2.1 I.2.2 h_k0  ) (cwV 1 E.1.2.2.2.2 (gWs (C := "StarWalk$Night") mw_3_171 mw_3_28 mw_3_29 mw_1_3 mw_3_30) rfl rfl rfl (by decide +kernel) ⟨by decide, by decide⟩) h_k0.1.1 ((ce_o h_k0.1.2).trans rfl) rfl rfl hl.1 rfl (Nat.le_of_ble_eq_true rfl) dX0_isStarUp_30 ⟨Nat.le_refl _, Nat.le_refl _⟩ (fun r9 u10 H lo hp hPS => ?_)
        obtain ⟨hp, hex, hfr⟩ := hp
        replace hF := xl_i hex hF
        obtain ⟨hu, p11⟩ := hp
        rw [hu] at hPS
        have I : Wo w g s.heap v H lo := ⟨hPS.1, hPS.2, I.2.2⟩
        refine bz_ne E (a := r9.toInt) rfl (tgt := 40) dX0_isStarUp_33 (by decide) (fun c12 => ?_) (fun c12 => ?_)
        ·
          replace hF := if_f c12 hF
          refine lv_iconst (v := 0) hx hb dX0_isStarUp_40 (by decide) ?_
          exact rI E I hr hlk rfl (by rw [← hpost]; exact ⟨⟨rfl, by have eL : (0 : Int32).toInt = 0 := rfl; omega⟩, hF.trans hres, trivial⟩) dX0_isStarUp_41
        ·
          replace hF := if_t c12 hF
          refine lv_iconst (v := 1) hx hb dX0_isStarUp_36 (by decide) ?_
          refine lv_goto (tgt := 41) hx hb dX0_isStarUp_37 (by decide) ?_
          exact rI E I hr hlk rfl (by rw [← hpost]; exact ⟨⟨rfl, by have eL : (1 : Int32).toInt = 1 := rfl; omega⟩, hF.trans hres, trivial⟩) dX0_isStarUp_41
def F_X0_isBlind (k0 : Nat) (a0 : Int32) (a1 : Int32) (v : St) : Int32 :=
if a0.toInt = 6 then (
(0 : Int32)) else (
xl (F_X0_isStarUp k0 a0 a1 v) fun r2 =>
if r2.toInt = 0 then (
xl (v.1 k0 10) fun x6 =>
if a1.toInt < x6.toInt then (
(0 : Int32)) else (
(1 : Int32))) else (
(0 : Int32)))
set_option maxHeartbeats 4000000 in
set_option maxRecDepth 100000 in
theorem c_X0_isBlind (l : Launch) (w : Wp) (g : Nat → Nat → Int32) (v : St) (k0 : Nat) (a0 : Int32) (a1 : Int32) (hq : Inj w) (hw : WF (wk w) g v) (h_k0 : oN w k0) : CTi w l yX0_isBlind (wsy yX0_isBlind prog_2_method_14_code 3 (some .boolean)) (rmL 3) [.ref (wq w k0), .int a0, .int a1] v (fun (r : Int32) (u : St) => (u = v ∧ 0 ≤ r.toInt ∧ r.toInt ≤ 1) ∧ (r = F_X0_isBlind k0 a0 a1 v) ∧ True) := by
  generalize hpost : (fun (r : Int32) (u : St) => (u = v ∧ 0 ≤ r.toInt ∧ r.toInt ≤ 1) ∧ (r = F_X0_isBlind k0 a0 a1 v) ∧ True) = post
  refine CTi.of prog_2_method_14_code 3 (some .boolean) "StarWalk$Night" (by decide +kernel) rfl hq hw (Nat.le_of_ble_eq_true rfl) ?_
  intro pg en s m ar bl me cd ls E I hr hlk hl
  have hx := E.1.1
  have hb := E.1.2.1
  have hl : lv_has ls 3 [(0, .ref (wq w k0)), (1, .int a0), (2, .int a1)] := hl
  obtain ⟨res, hres⟩ : ∃ z, z = F_X0_isBlind k0 a0 a1 v := ⟨_, rfl⟩
  have hF := hres.symm
  unfold F_X0_isBlind at hF
  replace hres : res = F_X0_isBlind k0 a0 a1 v := hres
  refine lv_iload_n hx hb dX0_isBlind_0 rfl (lv_at hl 1 rfl) ?_
  refine lv_bipush (v := 6) hx hb dX0_isBlind_1 (by decide) ?_
  refine bi_eq E (a := a0.toInt) (b := 6) rfl rfl (tgt := 27) dX0_isBlind_3 (by decide) (fun c1 => ?_) (fun c1 => ?_)
  ·
    replace hF := if_t c1 hF
    refine lv_iconst (v := 0) hx hb dX0_isBlind_27 (by decide) ?_
    exact rI E I hr hlk rfl (by rw [← hpost]; exact ⟨⟨rfl, by have eL : (0 : Int32).toInt = 0 := rfl; omega⟩, hF.trans hres, trivial⟩) dX0_isBlind_28
  ·
    replace hF := if_f c1 hF
    refine lv_aload_n hx hb dX0_isBlind_6 rfl (lv_at hl 0 rfl) ?_
    refine lv_iload_n hx hb dX0_isBlind_7 rfl (lv_at hl 1 rfl) ?_
    refine lv_iload_n hx hb dX0_isBlind_8 rfl (lv_at hl 2 rfl) ?_
    refine cVi E I (c_X0_isStarUp l w g v k0 a0 a1 E.2.2.1 I.2.2 h_k0  ) (cwV 2 E.1.2.2.2.2 (gWs (C := "StarWalk$Night") mw_3_195 mw_3_168 mw_3_169 mw_1_3 mw_3_170) rfl rfl rfl (by decide +kernel) ⟨by decide, by decide⟩) h_k0.1.1 ((ce_o h_k0.1.2).trans rfl) rfl rfl hl.1 rfl (Nat.le_of_ble_eq_true rfl) dX0_isBlind_9 ⟨Nat.le_refl _, Nat.le_refl _⟩ (fun r2 u3 H lo hp hPS => ?_)
    obtain ⟨hp, hex, hfr⟩ := hp
    replace hF := xl_i hex hF
    obtain ⟨hu, p4⟩ := hp
    rw [hu] at hPS
    have I : Wo w g s.heap v H lo := ⟨hPS.1, hPS.2, I.2.2⟩
    refine bz_ne E (a := r2.toInt) rfl (tgt := 27) dX0_isBlind_12 (by decide) (fun c5 => ?_) (fun c5 => ?_)
    ·
      replace hF := if_f c5 hF
      refine lv_iconst (v := 0) hx hb dX0_isBlind_27 (by decide) ?_
      exact rI E I hr hlk rfl (by rw [← hpost]; exact ⟨⟨rfl, by have eL : (0 : Int32).toInt = 0 := rfl; omega⟩, hF.trans hres, trivial⟩) dX0_isBlind_28
    ·
      replace hF := if_t c5 hF
      refine lv_iload_n hx hb dX0_isBlind_15 rfl (lv_at hl 2 rfl) ?_
      refine lv_aload_n hx hb dX0_isBlind_16 rfl (lv_at hl 0 rfl) ?_
      refine g_Night_till E I h_k0.1 mw_1_102 dX0_isBlind_17 ?_
      refine lv_topi (fun x6 ex6 => ?_)
      replace hF := xl_i (ex6) hF
      refine bi_lt E (a := a1.toInt) (b := x6.toInt) rfl rfl (tgt := 27) dX0_isBlind_20 (by decide) (fun c7 => ?_) (fun c7 => ?_)
      ·
        have rga1 := i32_rng a1
        have rgx6 := i32_rng x6
        replace hF := if_t c7 hF
        refine lv_iconst (v := 0) hx hb dX0_isBlind_27 (by decide) ?_
        exact rI E I hr hlk rfl (by rw [← hpost]; exact ⟨⟨rfl, by have eL : (0 : Int32).toInt = 0 := rfl; omega⟩, hF.trans hres, trivial⟩) dX0_isBlind_28
      ·
        have rga1 := i32_rng a1
        have rgx6 := i32_rng x6
        replace hF := if_l c7 hF
        refine lv_iconst (v := 1) hx hb dX0_isBlind_23 (by decide) ?_
        refine lv_goto (tgt := 28) hx hb dX0_isBlind_24 (by decide) ?_
        exact rI E I hr hlk rfl (by rw [← hpost]; exact ⟨⟨rfl, by have eL : (1 : Int32).toInt = 1 := rfl; omega⟩, hF.trans hres, trivial⟩) dX0_isBlind_28
def F_X0_isWithinBroad (k0 : Nat) (k1 : Nat) (v : St) : Int32 :=
xl (v.1 k1 2) fun x1 =>
xl (if 0 ≤ x1 then x1 else 0 - x1) fun x2 =>
xl (v.1 k0 9) fun x3 =>
if x3.toInt < x2.toInt then (
(0 : Int32)) else (
(1 : Int32))
set_option maxHeartbeats 4000000 in
set_option maxRecDepth 100000 in
theorem c_X0_isWithinBroad (l : Launch) (w : Wp) (g : Nat → Nat → Int32) (v : St) (k0 : Nat) (k1 : Nat) (hq : Inj w) (hw : WF (wk w) g v) (h_k0 : oN w k0) (h_k1 : isK w k1 2) : CTi w l yX0_isWithinBroad (wsy yX0_isWithinBroad prog_2_method_15_code 2 (some .boolean)) (rmL 1) [.ref (wq w k0), .ref (wq w k1)] v (fun (r : Int32) (u : St) => (u = v ∧ 0 ≤ r.toInt ∧ r.toInt ≤ 1) ∧ (r = F_X0_isWithinBroad k0 k1 v) ∧ True) := by
  generalize hpost : (fun (r : Int32) (u : St) => (u = v ∧ 0 ≤ r.toInt ∧ r.toInt ≤ 1) ∧ (r = F_X0_isWithinBroad k0 k1 v) ∧ True) = post
  refine CTi.of prog_2_method_15_code 2 (some .boolean) "StarWalk$Night" (by decide +kernel) rfl hq hw (Nat.le_of_ble_eq_true rfl) ?_
  intro pg en s m ar bl me cd ls E I hr hlk hl
  have hx := E.1.1
  have hb := E.1.2.1
  have hl : lv_has ls 2 [(0, .ref (wq w k0)), (1, .ref (wq w k1))] := hl
  obtain ⟨res, hres⟩ : ∃ z, z = F_X0_isWithinBroad k0 k1 v := ⟨_, rfl⟩
  have hF := hres.symm
  unfold F_X0_isWithinBroad at hF
  replace hres : res = F_X0_isWithinBroad k0 k1 v := hres
  refine lv_aload_n hx hb dX0_isWithinBroad_0 rfl (lv_at hl 1 rfl) ?_
  refine g_Place_side E I h_k1 mw_1_54 dX0_isWithinBroad_1 ?_
  refine lv_topi (fun x1 ex1 => ?_)
  replace hF := xl_i (ex1) hF
  refine va_mabs hx hb (E.1.2.2.1.trans hl.1.symm) E.1.2.2.2.1 (Ew E mw_3_83 rfl) (Ew E mw_3_84 rfl) (Ew E mw_1_15 rfl) (Ew E mw_3_85 rfl) (by decide) (Nat.le_of_ble_eq_true rfl) (Nat.le_refl _) (Nat.le_refl _) dX0_isWithinBroad_4 ?_
  refine lv_topi (fun x2 ex2 => ?_)
  replace hF := xl_i (ex2) hF
  refine lv_aload_n hx hb dX0_isWithinBroad_7 rfl (lv_at hl 0 rfl) ?_
  refine g_Night_broad E I h_k0.1 mw_1_99 dX0_isWithinBroad_8 ?_
  refine lv_topi (fun x3 ex3 => ?_)
  replace hF := xl_i (ex3) hF
  refine bi_gt E (a := x2.toInt) (b := x3.toInt) rfl rfl (tgt := 18) dX0_isWithinBroad_11 (by decide) (fun c4 => ?_) (fun c4 => ?_)
  ·
    have rgx2 := i32_rng x2
    have rgx3 := i32_rng x3
    replace hF := if_t c4 hF
    refine lv_iconst (v := 0) hx hb dX0_isWithinBroad_18 (by decide) ?_
    exact rI E I hr hlk rfl (by rw [← hpost]; exact ⟨⟨rfl, by have eL : (0 : Int32).toInt = 0 := rfl; omega⟩, hF.trans hres, trivial⟩) dX0_isWithinBroad_19
  ·
    have rgx2 := i32_rng x2
    have rgx3 := i32_rng x3
    replace hF := if_l c4 hF
    refine lv_iconst (v := 1) hx hb dX0_isWithinBroad_14 (by decide) ?_
    refine lv_goto (tgt := 19) hx hb dX0_isWithinBroad_15 (by decide) ?_
    exact rI E I hr hlk rfl (by rw [← hpost]; exact ⟨⟨rfl, by have eL : (1 : Int32).toInt = 1 := rfl; omega⟩, hF.trans hres, trivial⟩) dX0_isWithinBroad_19
def F_X0_isAtWell (k0 : Nat) (k1 : Nat) (v : St) : Int32 :=
xl (v.1 k1 1) fun x1 =>
xl (v.1 k0 8) fun x2 =>
if x1.toInt < x2.toInt then (
(0 : Int32)) else (
xl (F_X0_isWithinBroad k0 k1 v) fun r4 =>
if r4.toInt = 0 then (
(0 : Int32)) else (
(1 : Int32)))
set_option maxHeartbeats 4000000 in
set_option maxRecDepth 100000 in
theorem c_X0_isAtWell (l : Launch) (w : Wp) (g : Nat → Nat → Int32) (v : St) (k0 : Nat) (k1 : Nat) (hq : Inj w) (hw : WF (wk w) g v) (h_k0 : oN w k0) (h_k1 : isK w k1 2) : CTi w l yX0_isAtWell (wsy yX0_isAtWell prog_2_method_16_code 2 (some .boolean)) (rmL 2) [.ref (wq w k0), .ref (wq w k1)] v (fun (r : Int32) (u : St) => (u = v ∧ 0 ≤ r.toInt ∧ r.toInt ≤ 1) ∧ (r = F_X0_isAtWell k0 k1 v) ∧ True) := by
  generalize hpost : (fun (r : Int32) (u : St) => (u = v ∧ 0 ≤ r.toInt ∧ r.toInt ≤ 1) ∧ (r = F_X0_isAtWell k0 k1 v) ∧ True) = post
  refine CTi.of prog_2_method_16_code 2 (some .boolean) "StarWalk$Night" (by decide +kernel) rfl hq hw (Nat.le_of_ble_eq_true rfl) ?_
  intro pg en s m ar bl me cd ls E I hr hlk hl
  have hx := E.1.1
  have hb := E.1.2.1
  have hl : lv_has ls 2 [(0, .ref (wq w k0)), (1, .ref (wq w k1))] := hl
  obtain ⟨res, hres⟩ : ∃ z, z = F_X0_isAtWell k0 k1 v := ⟨_, rfl⟩
  have hF := hres.symm
  unfold F_X0_isAtWell at hF
  replace hres : res = F_X0_isAtWell k0 k1 v := hres
  refine lv_aload_n hx hb dX0_isAtWell_0 rfl (lv_at hl 1 rfl) ?_
  refine g_Place_miles E I h_k1 mw_1_49 dX0_isAtWell_1 ?_
  refine lv_topi (fun x1 ex1 => ?_)
  replace hF := xl_i (ex1) hF
  refine lv_aload_n hx hb dX0_isAtWell_4 rfl (lv_at hl 0 rfl) ?_
  refine g_Night_wellMiles E I h_k0.1 mw_1_96 dX0_isAtWell_5 ?_
  refine lv_topi (fun x2 ex2 => ?_)
  replace hF := xl_i (ex2) hF
  refine bi_lt E (a := x1.toInt) (b := x2.toInt) rfl rfl (tgt := 23) dX0_isAtWell_8 (by decide) (fun c3 => ?_) (fun c3 => ?_)
  ·
    have rgx1 := i32_rng x1
    have rgx2 := i32_rng x2
    replace hF := if_t c3 hF
    refine lv_iconst (v := 0) hx hb dX0_isAtWell_23 (by decide) ?_
    exact rI E I hr hlk rfl (by rw [← hpost]; exact ⟨⟨rfl, by have eL : (0 : Int32).toInt = 0 := rfl; omega⟩, hF.trans hres, trivial⟩) dX0_isAtWell_24
  ·
    have rgx1 := i32_rng x1
    have rgx2 := i32_rng x2
    replace hF := if_l c3 hF
    refine lv_aload_n hx hb dX0_isAtWell_11 rfl (lv_at hl 0 rfl) ?_
    refine lv_aload_n hx hb dX0_isAtWell_12 rfl (lv_at hl 1 rfl) ?_
    refine cVi E I (c_X0_isWithinBroad l w g v k0 k1 E.2.2.1 I.2.2 h_k0 h_k1  ) (cwV 1 E.1.2.2.2.2 (gWs (C := "StarWalk$Night") mw_3_79 mw_3_80 mw_3_81 mw_1_3 mw_3_82) rfl rfl rfl (by decide +kernel) ⟨by decide, by decide⟩) h_k0.1.1 ((ce_o h_k0.1.2).trans rfl) rfl rfl hl.1 rfl (Nat.le_of_ble_eq_true rfl) dX0_isAtWell_13 ⟨Nat.le_refl _, Nat.le_refl _⟩ (fun r4 u5 H lo hp hPS => ?_)
    obtain ⟨hp, hex, hfr⟩ := hp
    replace hF := xl_i hex hF
    obtain ⟨hu, p6⟩ := hp
    rw [hu] at hPS
    have I : Wo w g s.heap v H lo := ⟨hPS.1, hPS.2, I.2.2⟩
    refine bz_eq E (a := r4.toInt) rfl (tgt := 23) dX0_isAtWell_16 (by decide) (fun c7 => ?_) (fun c7 => ?_)
    ·
      replace hF := if_t c7 hF
      refine lv_iconst (v := 0) hx hb dX0_isAtWell_23 (by decide) ?_
      exact rI E I hr hlk rfl (by rw [← hpost]; exact ⟨⟨rfl, by have eL : (0 : Int32).toInt = 0 := rfl; omega⟩, hF.trans hres, trivial⟩) dX0_isAtWell_24
    ·
      replace hF := if_f c7 hF
      refine lv_iconst (v := 1) hx hb dX0_isAtWell_19 (by decide) ?_
      refine lv_goto (tgt := 24) hx hb dX0_isAtWell_20 (by decide) ?_
      exact rI E I hr hlk rfl (by rw [← hpost]; exact ⟨⟨rfl, by have eL : (1 : Int32).toInt = 1 := rfl; omega⟩, hF.trans hres, trivial⟩) dX0_isAtWell_24
def F_X0_pullOfKind (a0 : Int32) (a1 : Int32) (v : St) : Int32 :=
xl (fun (z10_0 : Int32) =>
xl (z10_0 + (1 : Int32)) fun x1 =>
if a0.toInt = 0 then (
z10_0) else (
if a0.toInt = 1 then (
x1) else (
if a0.toInt = 2 then (
xl (a1 / (4 : Int32)) fun x5 =>
xl (x1 + x5) fun x6 =>
x6) else (
xl (x1 / (2 : Int32)) fun x7 =>
x7)))) fun J_10 =>
if a1.toInt < 5 then (
(J_10 (0 : Int32))) else (
(J_10 (1 : Int32)))
set_option maxHeartbeats 4000000 in
set_option maxRecDepth 100000 in
theorem c_X0_pullOfKind (l : Launch) (w : Wp) (g : Nat → Nat → Int32) (v : St) (a0 : Int32) (a1 : Int32) (hq : Inj w) (hw : WF (wk w) g v) : CTi w l yX0_pullOfKind (wsy yX0_pullOfKind prog_2_method_17_code 4 (some .int)) (rmL 1) [.int a0, .int a1] v (fun (r : Int32) (u : St) => (u = v ∧ True) ∧ (r = F_X0_pullOfKind a0 a1 v) ∧ True) := by
  generalize hpost : (fun (r : Int32) (u : St) => (u = v ∧ True) ∧ (r = F_X0_pullOfKind a0 a1 v) ∧ True) = post
  refine CTi.of prog_2_method_17_code 4 (some .int) "StarWalk$Night" (by decide +kernel) rfl hq hw (Nat.le_of_ble_eq_true rfl) ?_
  intro pg en s m ar bl me cd ls E I hr hlk hl
  have hx := E.1.1
  have hb := E.1.2.1
  have hl : lv_has ls 4 [(0, .int a0), (1, .int a1)] := hl
  obtain ⟨res, hres⟩ : ∃ z, z = F_X0_pullOfKind a0 a1 v := ⟨_, rfl⟩
  have hF := hres.symm
  unfold F_X0_pullOfKind at hF
  replace hres : res = F_X0_pullOfKind a0 a1 v := hres
  obtain ⟨J_10, eJ_10, hF⟩ := xl_e hF
  have B_10 : ∀ (H : Heap) (lo : List Loc), Wo w g s.heap v H lo → ∀ (z10_0 : Int32), (0 ≤ z10_0.toInt ∧ z10_0.toInt ≤ 1) → (J_10 z10_0 = res) → ∀ (ls : Array Slot), lv_has ls 4 [(0, .int a0), (1, .int a1)] → W pg l en (rmL 1) s m ar bl me cd H lo 0 0 (Zi w bl ar s post) (F0 m 10 ls [.int z10_0]) := by
    intro H lo  I z10_0 hz10_0 hF ls hl
    replace hF := ap1 eJ_10 hF
    refine lv_istore_n (lv' := [(2, .int z10_0), (0, .int a0), (1, .int a1)]) hx hb dX0_pullOfKind_10 rfl hl (by decide) rfl (fun ls hl => ?_)
    refine lv_iload_n hx hb dX0_pullOfKind_11 rfl (lv_at hl 0 rfl) ?_
    refine lv_iconst (v := 1) hx hb dX0_pullOfKind_12 (by decide) ?_
    refine lv_iadd hx hb dX0_pullOfKind_13 ?_
    refine lv_topi (fun x1 ex1 => ?_)
    replace hF := xl_i (ex1) hF
    have hx1 : x1.toInt = z10_0.toInt + 1 := by rw [ex1]; exact adI (a := z10_0.toInt) (b := 1) rfl rfl (by omega) (by omega)
    refine lv_istore_n (lv' := [(3, .int x1), (2, .int z10_0), (0, .int a0), (1, .int a1)]) hx hb dX0_pullOfKind_14 rfl hl (by decide) rfl (fun ls hl => ?_)
    refine lv_iload_n hx hb dX0_pullOfKind_15 rfl (lv_at hl 2 rfl) ?_
    by_cases c2 : a0.toInt = 0
    ·
      replace hF := if_t c2 hF
      refine lv_tableIn hx hb dX0_pullOfKind_16 (by omega) (by omega) (by rw [c2]; rfl) (tgt := 44) (by decide) ?_
      refine lv_iload_n hx hb dX0_pullOfKind_44 rfl (lv_at hl 1 rfl) ?_
      exact rI E I hr hlk rfl (by rw [← hpost]; exact ⟨⟨rfl, trivial⟩, hF.trans hres, trivial⟩) dX0_pullOfKind_45
    replace hF := if_f c2 hF
    by_cases c3 : a0.toInt = 1
    ·
      replace hF := if_t c3 hF
      refine lv_tableIn hx hb dX0_pullOfKind_16 (by omega) (by omega) (by rw [c3]; rfl) (tgt := 46) (by decide) ?_
      refine lv_iload_n hx hb dX0_pullOfKind_46 rfl (lv_at hl 0 rfl) ?_
      exact rI E I hr hlk rfl (by rw [← hpost]; exact ⟨⟨rfl, trivial⟩, hF.trans hres, trivial⟩) dX0_pullOfKind_47
    replace hF := if_f c3 hF
    by_cases c4 : a0.toInt = 2
    ·
      replace hF := if_t c4 hF
      refine lv_tableIn hx hb dX0_pullOfKind_16 (by omega) (by omega) (by rw [c4]; rfl) (tgt := 48) (by decide) ?_
      refine lv_iload_n hx hb dX0_pullOfKind_48 rfl (lv_at hl 0 rfl) ?_
      refine lv_iload_n hx hb dX0_pullOfKind_49 rfl (lv_at hl 3 rfl) ?_
      refine lv_iconst (v := 4) hx hb dX0_pullOfKind_50 (by decide) ?_
      refine lv_idiv hx hb dX0_pullOfKind_51 (by decide) ?_
      refine lv_topi (fun x5 ex5 => ?_)
      replace hF := xl_i (ex5) hF
      refine lv_iadd hx hb dX0_pullOfKind_52 ?_
      refine lv_topi (fun x6 ex6 => ?_)
      replace hF := xl_i (ex6) hF
      exact rI E I hr hlk rfl (by rw [← hpost]; exact ⟨⟨rfl, trivial⟩, hF.trans hres, trivial⟩) dX0_pullOfKind_53
    replace hF := if_f c4 hF
    refine lv_tableOut hx hb dX0_pullOfKind_16 (by omega) (tgt := 54) (by decide) ?_
    refine lv_iload_n hx hb dX0_pullOfKind_54 rfl (lv_at hl 0 rfl) ?_
    refine lv_iconst (v := 2) hx hb dX0_pullOfKind_55 (by decide) ?_
    refine lv_idiv hx hb dX0_pullOfKind_56 (by decide) ?_
    refine lv_topi (fun x7 ex7 => ?_)
    replace hF := xl_i (ex7) hF
    have hx7 := dvI (x := x1) (y := (2 : Int32)) (a := x1.toInt) (b := 2) rfl rfl (by omega) (by omega)
    rw [← ex7] at hx7
    exact rI E I hr hlk rfl (by rw [← hpost]; exact ⟨⟨rfl, trivial⟩, hF.trans hres, trivial⟩) dX0_pullOfKind_57
  refine lv_iload_n hx hb dX0_pullOfKind_0 rfl (lv_at hl 1 rfl) ?_
  refine lv_iconst (v := 5) hx hb dX0_pullOfKind_1 (by decide) ?_
  refine bi_lt E (a := a1.toInt) (b := 5) rfl rfl (tgt := 9) dX0_pullOfKind_2 (by decide) (fun c8 => ?_) (fun c8 => ?_)
  ·
    replace hF := if_t c8 hF
    refine lv_iconst (v := 0) hx hb dX0_pullOfKind_9 (by decide) ?_
    exact B_10 _ _ I (0 : Int32) (by decide) hF ls (lv_sub hl [0, 1] rfl)
  ·
    replace hF := if_l c8 hF
    refine lv_iconst (v := 1) hx hb dX0_pullOfKind_5 (by decide) ?_
    refine lv_goto (tgt := 10) hx hb dX0_pullOfKind_6 (by decide) ?_
    exact B_10 _ _ I (1 : Int32) (by decide) hF ls (lv_sub hl [0, 1] rfl)
def F_X0_pullOfRow (k0 : Nat) (a0 : Int32) (v : St) : Int32 :=
xl (v.1 k0 7) fun x1 =>
xl (F_X0_hasWalker k0 x1 v) fun r2 =>
if r2.toInt = 0 then (
(0 : Int32)) else (
xl (v.1 (k0 + 4) x1.toNatClampNeg) fun x7 =>
xl (F_X0_pullOfKind x7 a0 v) fun r8 =>
xl (v.1 k0 6) fun x11 =>
if x11.toInt = 3 then (
xl (r8 - (1 : Int32)) fun x13 =>
xl (if (0 : Int32) < x13 then x13 else (0 : Int32)) fun x14 =>
x14) else (
r8))
set_option maxHeartbeats 4000000 in
set_option maxRecDepth 100000 in
theorem c_X0_pullOfRow (l : Launch) (w : Wp) (g : Nat → Nat → Int32) (v : St) (k0 : Nat) (a0 : Int32) (hq : Inj w) (hw : WF (wk w) g v) (h_k0 : oN w k0) : CTi w l yX0_pullOfRow (wsy yX0_pullOfRow prog_2_method_18_code 3 (some .int)) (rmL 2) [.ref (wq w k0), .int a0] v (fun (r : Int32) (u : St) => (u = v ∧ True) ∧ (r = F_X0_pullOfRow k0 a0 v) ∧ True) := by
  generalize hpost : (fun (r : Int32) (u : St) => (u = v ∧ True) ∧ (r = F_X0_pullOfRow k0 a0 v) ∧ True) = post
  refine CTi.of prog_2_method_18_code 3 (some .int) "StarWalk$Night" (by decide +kernel) rfl hq hw (Nat.le_of_ble_eq_true rfl) ?_
  intro pg en s m ar bl me cd ls E I hr hlk hl
  have hx := E.1.1
  have hb := E.1.2.1
  have hl : lv_has ls 3 [(0, .ref (wq w k0)), (1, .int a0)] := hl
  obtain ⟨res, hres⟩ : ∃ z, z = F_X0_pullOfRow k0 a0 v := ⟨_, rfl⟩
  have hF := hres.symm
  unfold F_X0_pullOfRow at hF
  replace hres : res = F_X0_pullOfRow k0 a0 v := hres
  refine lv_aload_n hx hb dX0_pullOfRow_0 rfl (lv_at hl 0 rfl) ?_
  refine lv_aload_n hx hb dX0_pullOfRow_1 rfl (lv_at hl 0 rfl) ?_
  refine g_Night_inFront E I h_k0.1 mw_1_94 dX0_pullOfRow_2 ?_
  refine lv_topi (fun x1 ex1 => ?_)
  replace hF := xl_i (ex1) hF
  refine cVi E I (c_X0_hasWalker l w g v k0 x1 E.2.2.1 I.2.2 h_k0  ) (cwV 1 E.1.2.2.2.2 (gWs (C := "StarWalk$Night") mw_3_156 mw_3_100 mw_3_101 mw_1_3 mw_3_102) rfl rfl rfl (by decide +kernel) ⟨by decide, by decide⟩) h_k0.1.1 ((ce_o h_k0.1.2).trans rfl) rfl rfl hl.1 rfl (Nat.le_of_ble_eq_true rfl) dX0_pullOfRow_5 ⟨Nat.le_refl _, Nat.le_refl _⟩ (fun r2 u3 H lo hp hPS => ?_)
  obtain ⟨hp, hex, hfr⟩ := hp
  replace hF := xl_i hex hF
  obtain ⟨hu, p4⟩ := hp
  rw [hu] at hPS
  have I : Wo w g s.heap v H lo := ⟨hPS.1, hPS.2, I.2.2⟩
  refine bz_ne E (a := r2.toInt) rfl (tgt := 13) dX0_pullOfRow_8 (by decide) (fun c5 => ?_) (fun c5 => ?_)
  ·
    replace hF := if_f c5 hF
    refine lv_aload_n hx hb dX0_pullOfRow_13 rfl (lv_at hl 0 rfl) ?_
    refine g_Night_kinds E I h_k0.1 mw_1_89 dX0_pullOfRow_14 ?_
    refine lv_aload_n hx hb dX0_pullOfRow_17 rfl (lv_at hl 0 rfl) ?_
    refine g_Night_inFront E I h_k0.1 mw_1_94 dX0_pullOfRow_18 ?_
    refine lv_topi (fun x6 ex6 => ?_)
    obtain rfl : x1 = x6 := ex1.symm.symm.trans ex6.symm
    refine ga_11 E I h_k0.2.2.2.2.1 (by omega) dX0_pullOfRow_21 ?_
    refine lv_topi (fun x7 ex7 => ?_)
    replace hF := xl_i (ex7) hF
    refine lv_iload_n hx hb dX0_pullOfRow_22 rfl (lv_at hl 1 rfl) ?_
    refine cSi E I (c_X0_pullOfKind l w g v x7 a0 E.2.2.1 I.2.2   ) (va_cwS 2 E.1.2.2.2.2 (gSs mw_3_157 mw_3_158 mw_1_3 mw_3_159) rfl rfl rfl (by decide +kernel) ⟨by decide, by decide⟩) rfl hl.1 rfl (Nat.le_of_ble_eq_true rfl) dX0_pullOfRow_23 ⟨Nat.le_refl _, Nat.le_refl _⟩ (fun r8 u9 H lo hp hPS => ?_)
    obtain ⟨hp, hex, hfr⟩ := hp
    replace hF := xl_i hex hF
    obtain ⟨hu, p10⟩ := hp
    rw [hu] at hPS
    have I : Wo w g s.heap v H lo := ⟨hPS.1, hPS.2, I.2.2⟩
    refine lv_istore_n (lv' := [(2, .int r8), (0, .ref (wq w k0)), (1, .int a0)]) hx hb dX0_pullOfRow_26 rfl hl (by decide) rfl (fun ls hl => ?_)
    refine lv_aload_n hx hb dX0_pullOfRow_27 rfl (lv_at hl 1 rfl) ?_
    refine g_Night_walkers E I h_k0.1 mw_1_91 dX0_pullOfRow_28 ?_
    refine lv_topi (fun x11 ex11 => ?_)
    replace hF := xl_i (ex11) hF
    have hx11 := r_Night_walkers I h_k0.1
    rw [← ex11] at hx11
    refine lv_iconst (v := 3) hx hb dX0_pullOfRow_31 (by decide) ?_
    refine bi_ne E (a := x11.toInt) (b := 3) rfl rfl (tgt := 45) dX0_pullOfRow_32 (by decide) (fun c12 => ?_) (fun c12 => ?_)
    ·
      replace hF := if_f c12 hF
      refine lv_iload_n hx hb dX0_pullOfRow_45 rfl (lv_at hl 0 rfl) ?_
      exact rI E I hr hlk rfl (by rw [← hpost]; exact ⟨⟨rfl, trivial⟩, hF.trans hres, trivial⟩) dX0_pullOfRow_46
    ·
      replace hF := if_t c12 hF
      refine lv_iconst (v := 0) hx hb dX0_pullOfRow_35 (by decide) ?_
      refine lv_iload_n hx hb dX0_pullOfRow_36 rfl (lv_at hl 0 rfl) ?_
      refine lv_iconst (v := 1) hx hb dX0_pullOfRow_37 (by decide) ?_
      refine lv_isub hx hb dX0_pullOfRow_38 ?_
      refine lv_topi (fun x13 ex13 => ?_)
      replace hF := xl_i (ex13) hF
      refine va_mmax hx hb (E.1.2.2.1.trans hl.1.symm) E.1.2.2.2.1 (Ew E mw_3_160 rfl) (Ew E mw_3_161 rfl) (Ew E mw_1_15 rfl) (Ew E mw_3_162 rfl) (by decide) (Nat.le_of_ble_eq_true rfl) (Nat.le_refl _) (Nat.le_refl _) dX0_pullOfRow_39 ?_
      refine lv_topi (fun x14 ex14 => ?_)
      replace hF := xl_i (ex14) hF
      have hx14 : 0 ≤ x14.toInt := by have cL0 : (0 : Int32).toInt = 0 := rfl; rw [ex14]; split <;> simp only [Int32.lt_iff_toInt_lt] at * <;> omega
      refine lv_goto (tgt := 46) hx hb dX0_pullOfRow_42 (by decide) ?_
      exact rI E I hr hlk rfl (by rw [← hpost]; exact ⟨⟨rfl, trivial⟩, hF.trans hres, trivial⟩) dX0_pullOfRow_46
  ·
    replace hF := if_t c5 hF
    refine lv_iconst (v := 0) hx hb dX0_pullOfRow_11 (by decide) ?_
    exact rI E I hr hlk rfl (by rw [← hpost]; exact ⟨⟨rfl, trivial⟩, hF.trans hres, trivial⟩) dX0_pullOfRow_12
def F_X0_step (k0 : Nat) (k1 : Nat) (a0 : Int32) (v : St) : Int32 × St :=
xl (fun (z103_1 : Int32) (z103_2 : Int32) (z103_3 : Int32) =>
xl (z103_2 + z103_3) fun x1 =>
xl (F_X2_pass k1 z103_1 x1 (1 : Int32) v) fun u2 =>
((1 : Int32), u2)) fun J_103 =>
xl (F_X0_hasAim k0 a0 v) fun r4 =>
if r4.toInt = 0 then (
((0 : Int32), v)) else (
xl (F_X2_canStep k1 v) fun r8 =>
if r8.toInt = 0 then (
((0 : Int32), v)) else (
xl (v.1 k1 0) fun x12 =>
xl (F_X0_pullOfRow k0 x12 v) fun r13 =>
if a0.toInt = 6 then (
xl (F_X2_pass k1 (0 : Int32) (0 : Int32) (1 : Int32) v) fun u40 =>
((1 : Int32), u40)) else (
xl (v.1 k1 0) fun x17 =>
xl (F_X0_isBlind k0 a0 x17 v) fun r18 =>
if r18.toInt = 0 then (
xl (v.1 k1 0) fun x22 =>
xl (F_X0_isStarUp k0 a0 x22 v) fun r23 =>
if r23.toInt = 0 then (
xl (r13 + (1 : Int32)) fun x27 =>
xl (F_X2_pass k1 (3 : Int32) x27 (1 : Int32) v) fun u28 =>
((1 : Int32), u28)) else (
xl (F_X0_isKnown k0 a0 v) fun r30 =>
if r30.toInt = 0 then (
xl (v.1 (k0 + 3) a0.toNatClampNeg) fun x34 =>
xl (x34 - (3 : Int32)) fun x35 =>
(J_103 (3 : Int32) r13 x35)) else (
(J_103 (3 : Int32) r13 (0 : Int32))))) else (
xl ((2 : Int32) * r13) fun x36 =>
xl (x36 + (1 : Int32)) fun x37 =>
xl (F_X2_pass k1 (2 : Int32) x37 (2 : Int32) v) fun u38 =>
((1 : Int32), u38)))))
set_option maxHeartbeats 4000000 in
set_option maxRecDepth 100000 in
theorem c_X0_step (l : Launch) (w : Wp) (g : Nat → Nat → Int32) (v : St) (k0 : Nat) (k1 : Nat) (a0 : Int32) (hq : Inj w) (hw : WF (wk w) g v) (h_k0 : oN w k0) (h_k1 : isK w k1 2) : CTi w l yX0_step (wsy yX0_step prog_2_method_19_code 4 (some .boolean)) (rmL 4) [.ref (wq w k0), .ref (wq w k1), .int a0] v (fun (r : Int32) (u : St) => (WF (wk w) g u ∧ 0 ≤ r.toInt ∧ r.toInt ≤ 1) ∧ ((r, u) = F_X0_step k0 k1 a0 v) ∧ (∀ k j : Nat, ¬ (k = k1) → u.1 k j = v.1 k j)) := by
  generalize hpost : (fun (r : Int32) (u : St) => (WF (wk w) g u ∧ 0 ≤ r.toInt ∧ r.toInt ≤ 1) ∧ ((r, u) = F_X0_step k0 k1 a0 v) ∧ (∀ k j : Nat, ¬ (k = k1) → u.1 k j = v.1 k j)) = post
  refine CTi.of prog_2_method_19_code 4 (some .boolean) "StarWalk$Night" (by decide +kernel) rfl hq hw (Nat.le_of_ble_eq_true rfl) ?_
  intro pg en s m ar bl me cd ls E I hr hlk hl
  have hx := E.1.1
  have hb := E.1.2.1
  have hl : lv_has ls 4 [(0, .ref (wq w k0)), (1, .ref (wq w k1)), (2, .int a0)] := hl
  obtain ⟨res, hres⟩ : ∃ z, z = F_X0_step k0 k1 a0 v := ⟨_, rfl⟩
  have hF := hres.symm
  unfold F_X0_step at hF
  replace hres : res = F_X0_step k0 k1 a0 v := hres
  have rz0 : ∀ k j : Nat, ¬ (k = k1) → v.1 k j = v.1 k j := fun _ _ _ => rfl
  obtain ⟨J_103, eJ_103, hF⟩ := xl_e hF
  have B_103 : ∀ (H : Heap) (lo : List Loc), Wo w g s.heap v H lo → ∀ (z103_1 : Int32) (z103_2 : Int32) (z103_3 : Int32), (3 ≤ z103_1.toInt ∧ z103_1.toInt ≤ 3) → (∀ k j : Nat, ¬ (k = k1) → v.1 k j = v.1 k j) → (J_103 z103_1 z103_2 z103_3 = res) → ∀ (ls : Array Slot), lv_has ls 4 [] → W pg l en (rmL 4) s m ar bl me cd H lo 0 0 (Zi w bl ar s post) (F0 m 103 ls [.int z103_3, .int z103_2, .int z103_1, .ref (wq w k1)]) := by
    intro H lo  I z103_1 z103_2 z103_3 hz103_1 rB103_Z hF ls hl
    replace hF := ap3 eJ_103 hF
    refine lv_iadd hx hb dX0_step_103 ?_
    refine lv_topi (fun x1 ex1 => ?_)
    replace hF := xl_i (ex1) hF
    refine lv_iconst (v := 1) hx hb dX0_step_104 (by decide) ?_
    refine cVv E I (c_X2_pass l w g v k1 z103_1 x1 (1 : Int32) E.2.2.1 I.2.2 h_k1  ) (cwV 3 E.1.2.2.2.2 (gWs (C := "StarWalk$Place") mw_3_186 mw_3_187 mw_3_188 mw_1_4 mw_3_189) rfl rfl rfl (by decide +kernel) ⟨by decide, by decide⟩) h_k1.1 ((ce_o h_k1.2).trans rfl) rfl rfl hl.1 rfl (Nat.le_of_ble_eq_true rfl) dX0_step_105 ⟨Nat.le_refl _, Nat.le_refl _⟩ (fun u2 H lo hp hPS => ?_)
    obtain ⟨hp, hex, hfr⟩ := hp
    replace hF := xl_i hex hF
    obtain ⟨hwf, p3⟩ := hp
    have I : Wo w g s.heap u2 H lo := ⟨hPS.1, hPS.2, hwf⟩
    have rzu2 : ∀ k j : Nat, ¬ (k = k1) → u2.1 k j = v.1 k j := fun k j h => (hfr k j (fun z => h (by omega))).trans (rB103_Z k j h)
    refine lv_goto (tgt := 120) hx hb dX0_step_108 (by decide) ?_
    refine lv_iconst (v := 1) hx hb dX0_step_120 (by decide) ?_
    exact rI E I hr hlk rfl (by rw [← hpost]; exact ⟨⟨I.2.2, by have eL : (1 : Int32).toInt = 1 := rfl; omega⟩, hF.trans hres, rzu2⟩) dX0_step_121
  refine lv_aload_n hx hb dX0_step_0 rfl (lv_at hl 0 rfl) ?_
  refine lv_iload_n hx hb dX0_step_1 rfl (lv_at hl 2 rfl) ?_
  refine cVi E I (c_X0_hasAim l w g v k0 a0 E.2.2.1 I.2.2 h_k0  ) (cwV 1 E.1.2.2.2.2 (gWs (C := "StarWalk$Night") mw_3_180 mw_3_49 mw_3_50 mw_1_3 mw_3_51) rfl rfl rfl (by decide +kernel) ⟨by decide, by decide⟩) h_k0.1.1 ((ce_o h_k0.1.2).trans rfl) rfl rfl hl.1 rfl (Nat.le_of_ble_eq_true rfl) dX0_step_2 ⟨Nat.le_refl _, Nat.le_refl _⟩ (fun r4 u5 H lo hp hPS => ?_)
  obtain ⟨hp, hex, hfr⟩ := hp
  replace hF := xl_i hex hF
  obtain ⟨hu, p6⟩ := hp
  rw [hu] at hPS
  have I : Wo w g s.heap v H lo := ⟨hPS.1, hPS.2, I.2.2⟩
  refine bz_eq E (a := r4.toInt) rfl (tgt := 15) dX0_step_5 (by decide) (fun c7 => ?_) (fun c7 => ?_)
  ·
    replace hF := if_t c7 hF
    refine lv_iconst (v := 0) hx hb dX0_step_15 (by decide) ?_
    exact rI E I hr hlk rfl (by rw [← hpost]; exact ⟨⟨I.2.2, by have eL : (0 : Int32).toInt = 0 := rfl; omega⟩, hF.trans hres, rz0⟩) dX0_step_16
  ·
    replace hF := if_f c7 hF
    refine lv_aload_n hx hb dX0_step_8 rfl (lv_at hl 1 rfl) ?_
    refine cVi E I (c_X2_canStep l w g v k1 E.2.2.1 I.2.2 h_k1  ) (cwV 0 E.1.2.2.2.2 (gWs (C := "StarWalk$Place") mw_3_181 mw_3_182 mw_3_183 mw_1_4 mw_3_184) rfl rfl rfl (by decide +kernel) ⟨by decide, by decide⟩) h_k1.1 ((ce_o h_k1.2).trans rfl) rfl rfl hl.1 rfl (Nat.le_of_ble_eq_true rfl) dX0_step_9 ⟨Nat.le_refl _, Nat.le_refl _⟩ (fun r8 u9 H lo hp hPS => ?_)
    obtain ⟨hp, hex, hfr⟩ := hp
    replace hF := xl_i hex hF
    obtain ⟨hu, p10⟩ := hp
    rw [hu] at hPS
    have I : Wo w g s.heap v H lo := ⟨hPS.1, hPS.2, I.2.2⟩
    refine bz_ne E (a := r8.toInt) rfl (tgt := 17) dX0_step_12 (by decide) (fun c11 => ?_) (fun c11 => ?_)
    ·
      replace hF := if_f c11 hF
      refine lv_aload_n hx hb dX0_step_17 rfl (lv_at hl 0 rfl) ?_
      refine lv_aload_n hx hb dX0_step_18 rfl (lv_at hl 1 rfl) ?_
      refine g_Place_hour E I h_k1 mw_1_44 dX0_step_19 ?_
      refine lv_topi (fun x12 ex12 => ?_)
      replace hF := xl_i (ex12) hF
      refine cVi E I (c_X0_pullOfRow l w g v k0 x12 E.2.2.1 I.2.2 h_k0  ) (cwV 1 E.1.2.2.2.2 (gWs (C := "StarWalk$Night") mw_3_185 mw_3_153 mw_3_154 mw_1_3 mw_3_155) rfl rfl rfl (by decide +kernel) ⟨by decide, by decide⟩) h_k0.1.1 ((ce_o h_k0.1.2).trans rfl) rfl rfl hl.1 rfl (Nat.le_of_ble_eq_true rfl) dX0_step_22 ⟨Nat.le_refl _, Nat.le_refl _⟩ (fun r13 u14 H lo hp hPS => ?_)
      obtain ⟨hp, hex, hfr⟩ := hp
      replace hF := xl_i hex hF
      obtain ⟨hu, p15⟩ := hp
      rw [hu] at hPS
      have I : Wo w g s.heap v H lo := ⟨hPS.1, hPS.2, I.2.2⟩
      refine lv_istore_n (lv' := [(3, .int r13), (0, .ref (wq w k0)), (1, .ref (wq w k1)), (2, .int a0)]) hx hb dX0_step_25 rfl hl (by decide) rfl (fun ls hl => ?_)
      refine lv_iload_n hx hb dX0_step_26 rfl (lv_at hl 3 rfl) ?_
      refine lv_bipush (v := 6) hx hb dX0_step_27 (by decide) ?_
      refine bi_ne E (a := a0.toInt) (b := 6) rfl rfl (tgt := 42) dX0_step_29 (by decide) (fun c16 => ?_) (fun c16 => ?_)
      ·
        replace hF := if_f c16 hF
        refine lv_aload_n hx hb dX0_step_42 rfl (lv_at hl 1 rfl) ?_
        refine lv_iload_n hx hb dX0_step_43 rfl (lv_at hl 3 rfl) ?_
        refine lv_aload_n hx hb dX0_step_44 rfl (lv_at hl 2 rfl) ?_
        refine g_Place_hour E I h_k1 mw_1_44 dX0_step_45 ?_
        refine lv_topi (fun x17 ex17 => ?_)
        replace hF := xl_i (ex17) hF
        refine cVi E I (c_X0_isBlind l w g v k0 a0 x17 E.2.2.1 I.2.2 h_k0  ) (cwV 2 E.1.2.2.2.2 (gWs (C := "StarWalk$Night") mw_3_191 mw_3_192 mw_3_193 mw_1_3 mw_3_194) rfl rfl rfl (by decide +kernel) ⟨by decide, by decide⟩) h_k0.1.1 ((ce_o h_k0.1.2).trans rfl) rfl rfl hl.1 rfl (Nat.le_of_ble_eq_true rfl) dX0_step_48 ⟨Nat.le_refl _, Nat.le_refl _⟩ (fun r18 u19 H lo hp hPS => ?_)
        obtain ⟨hp, hex, hfr⟩ := hp
        replace hF := xl_i hex hF
        obtain ⟨hu, p20⟩ := hp
        rw [hu] at hPS
        have I : Wo w g s.heap v H lo := ⟨hPS.1, hPS.2, I.2.2⟩
        refine bz_eq E (a := r18.toInt) rfl (tgt := 68) dX0_step_51 (by decide) (fun c21 => ?_) (fun c21 => ?_)
        ·
          replace hF := if_t c21 hF
          refine lv_aload_n hx hb dX0_step_68 rfl (lv_at hl 1 rfl) ?_
          refine lv_iload_n hx hb dX0_step_69 rfl (lv_at hl 3 rfl) ?_
          refine lv_aload_n hx hb dX0_step_70 rfl (lv_at hl 2 rfl) ?_
          refine g_Place_hour E I h_k1 mw_1_44 dX0_step_71 ?_
          refine lv_topi (fun x22 ex22 => ?_)
          replace hF := xl_i (ex22) hF
          refine cVi E I (c_X0_isStarUp l w g v k0 a0 x22 E.2.2.1 I.2.2 h_k0  ) (cwV 2 E.1.2.2.2.2 (gWs (C := "StarWalk$Night") mw_3_195 mw_3_168 mw_3_169 mw_1_3 mw_3_170) rfl rfl rfl (by decide +kernel) ⟨by decide, by decide⟩) h_k0.1.1 ((ce_o h_k0.1.2).trans rfl) rfl rfl hl.1 rfl (Nat.le_of_ble_eq_true rfl) dX0_step_74 ⟨Nat.le_refl _, Nat.le_refl _⟩ (fun r23 u24 H lo hp hPS => ?_)
          obtain ⟨hp, hex, hfr⟩ := hp
          replace hF := xl_i hex hF
          obtain ⟨hu, p25⟩ := hp
          rw [hu] at hPS
          have I : Wo w g s.heap v H lo := ⟨hPS.1, hPS.2, I.2.2⟩
          refine bz_eq E (a := r23.toInt) rfl (tgt := 111) dX0_step_77 (by decide) (fun c26 => ?_) (fun c26 => ?_)
          ·
            replace hF := if_t c26 hF
            refine lv_aload_n hx hb dX0_step_111 rfl (lv_at hl 2 rfl) ?_
            refine lv_iconst (v := 3) hx hb dX0_step_112 (by decide) ?_
            refine lv_iload_n hx hb dX0_step_113 rfl (lv_at hl 0 rfl) ?_
            refine lv_iconst (v := 1) hx hb dX0_step_114 (by decide) ?_
            refine lv_iadd hx hb dX0_step_115 ?_
            refine lv_topi (fun x27 ex27 => ?_)
            replace hF := xl_i (ex27) hF
            refine lv_iconst (v := 1) hx hb dX0_step_116 (by decide) ?_
            refine cVv E I (c_X2_pass l w g v k1 (3 : Int32) x27 (1 : Int32) E.2.2.1 I.2.2 h_k1  ) (cwV 3 E.1.2.2.2.2 (gWs (C := "StarWalk$Place") mw_3_186 mw_3_187 mw_3_188 mw_1_4 mw_3_189) rfl rfl rfl (by decide +kernel) ⟨by decide, by decide⟩) h_k1.1 ((ce_o h_k1.2).trans rfl) rfl rfl hl.1 rfl (Nat.le_of_ble_eq_true rfl) dX0_step_117 ⟨Nat.le_refl _, Nat.le_refl _⟩ (fun u28 H lo hp hPS => ?_)
            obtain ⟨hp, hex, hfr⟩ := hp
            replace hF := xl_i hex hF
            obtain ⟨hwf, p29⟩ := hp
            have I : Wo w g s.heap u28 H lo := ⟨hPS.1, hPS.2, hwf⟩
            have rzu28 : ∀ k j : Nat, ¬ (k = k1) → u28.1 k j = v.1 k j := fun k j h => (hfr k j (fun z => h (by omega))).trans (rz0 k j h)
            refine lv_iconst (v := 1) hx hb dX0_step_120 (by decide) ?_
            exact rI E I hr hlk rfl (by rw [← hpost]; exact ⟨⟨I.2.2, by have eL : (1 : Int32).toInt = 1 := rfl; omega⟩, hF.trans hres, rzu28⟩) dX0_step_121
          ·
            replace hF := if_f c26 hF
            refine lv_aload_n hx hb dX0_step_80 rfl (lv_at hl 2 rfl) ?_
            refine lv_iconst (v := 3) hx hb dX0_step_81 (by decide) ?_
            refine lv_iload_n hx hb dX0_step_82 rfl (lv_at hl 0 rfl) ?_
            refine lv_aload_n hx hb dX0_step_83 rfl (lv_at hl 1 rfl) ?_
            refine lv_iload_n hx hb dX0_step_84 rfl (lv_at hl 3 rfl) ?_
            refine cVi E I (c_X0_isKnown l w g v k0 a0 E.2.2.1 I.2.2 h_k0  ) (cwV 1 E.1.2.2.2.2 (gWs (C := "StarWalk$Night") mw_3_196 mw_2_225 mw_2_226 mw_1_3 mw_2_227) rfl rfl rfl (by decide +kernel) ⟨by decide, by decide⟩) h_k0.1.1 ((ce_o h_k0.1.2).trans rfl) rfl rfl hl.1 rfl (Nat.le_of_ble_eq_true rfl) dX0_step_85 ⟨Nat.le_refl _, Nat.le_refl _⟩ (fun r30 u31 H lo hp hPS => ?_)
            obtain ⟨hp, hex, hfr⟩ := hp
            replace hF := xl_i hex hF
            obtain ⟨hu, p32⟩ := hp
            rw [hu] at hPS
            have I : Wo w g s.heap v H lo := ⟨hPS.1, hPS.2, I.2.2⟩
            refine bz_eq E (a := r30.toInt) rfl (tgt := 95) dX0_step_88 (by decide) (fun c33 => ?_) (fun c33 => ?_)
            ·
              replace hF := if_t c33 hF
              refine lv_aload_n hx hb dX0_step_95 rfl (lv_at hl 1 rfl) ?_
              refine g_Night_off E I h_k0.1 mw_1_81 dX0_step_96 ?_
              refine lv_iload_n hx hb dX0_step_99 rfl (lv_at hl 3 rfl) ?_
              refine ga_10 E I h_k0.2.2.2.1 (by omega) dX0_step_100 ?_
              refine lv_topi (fun x34 ex34 => ?_)
              replace hF := xl_i (ex34) hF
              refine lv_iconst (v := 3) hx hb dX0_step_101 (by decide) ?_
              refine lv_isub hx hb dX0_step_102 ?_
              refine lv_topi (fun x35 ex35 => ?_)
              replace hF := xl_i (ex35) hF
              exact B_103 _ _ I (3 : Int32) r13 x35 (by decide) rz0 hF ls (lv_sub hl [] rfl)
            ·
              replace hF := if_f c33 hF
              refine lv_iconst (v := 0) hx hb dX0_step_91 (by decide) ?_
              refine lv_goto (tgt := 103) hx hb dX0_step_92 (by decide) ?_
              exact B_103 _ _ I (3 : Int32) r13 (0 : Int32) (by decide) rz0 hF ls (lv_sub hl [] rfl)
        ·
          replace hF := if_f c21 hF
          refine lv_aload_n hx hb dX0_step_54 rfl (lv_at hl 2 rfl) ?_
          refine lv_iconst (v := 2) hx hb dX0_step_55 (by decide) ?_
          refine lv_iconst (v := 2) hx hb dX0_step_56 (by decide) ?_
          refine lv_iload_n hx hb dX0_step_57 rfl (lv_at hl 0 rfl) ?_
          refine lv_imul hx hb dX0_step_58 ?_
          refine lv_topi (fun x36 ex36 => ?_)
          replace hF := xl_i (ex36) hF
          refine lv_iconst (v := 1) hx hb dX0_step_59 (by decide) ?_
          refine lv_iadd hx hb dX0_step_60 ?_
          refine lv_topi (fun x37 ex37 => ?_)
          replace hF := xl_i (ex37) hF
          refine lv_iconst (v := 2) hx hb dX0_step_61 (by decide) ?_
          refine cVv E I (c_X2_pass l w g v k1 (2 : Int32) x37 (2 : Int32) E.2.2.1 I.2.2 h_k1  ) (cwV 3 E.1.2.2.2.2 (gWs (C := "StarWalk$Place") mw_3_186 mw_3_187 mw_3_188 mw_1_4 mw_3_189) rfl rfl rfl (by decide +kernel) ⟨by decide, by decide⟩) h_k1.1 ((ce_o h_k1.2).trans rfl) rfl rfl hl.1 rfl (Nat.le_of_ble_eq_true rfl) dX0_step_62 ⟨Nat.le_refl _, Nat.le_refl _⟩ (fun u38 H lo hp hPS => ?_)
          obtain ⟨hp, hex, hfr⟩ := hp
          replace hF := xl_i hex hF
          obtain ⟨hwf, p39⟩ := hp
          have I : Wo w g s.heap u38 H lo := ⟨hPS.1, hPS.2, hwf⟩
          have rzu38 : ∀ k j : Nat, ¬ (k = k1) → u38.1 k j = v.1 k j := fun k j h => (hfr k j (fun z => h (by omega))).trans (rz0 k j h)
          refine lv_goto (tgt := 120) hx hb dX0_step_65 (by decide) ?_
          refine lv_iconst (v := 1) hx hb dX0_step_120 (by decide) ?_
          exact rI E I hr hlk rfl (by rw [← hpost]; exact ⟨⟨I.2.2, by have eL : (1 : Int32).toInt = 1 := rfl; omega⟩, hF.trans hres, rzu38⟩) dX0_step_121
      ·
        replace hF := if_t c16 hF
        refine lv_aload_n hx hb dX0_step_32 rfl (lv_at hl 2 rfl) ?_
        refine lv_iconst (v := 0) hx hb dX0_step_33 (by decide) ?_
        refine lv_iconst (v := 0) hx hb dX0_step_34 (by decide) ?_
        refine lv_iconst (v := 1) hx hb dX0_step_35 (by decide) ?_
        refine cVv E I (c_X2_pass l w g v k1 (0 : Int32) (0 : Int32) (1 : Int32) E.2.2.1 I.2.2 h_k1  ) (cwV 3 E.1.2.2.2.2 (gWs (C := "StarWalk$Place") mw_3_186 mw_3_187 mw_3_188 mw_1_4 mw_3_189) rfl rfl rfl (by decide +kernel) ⟨by decide, by decide⟩) h_k1.1 ((ce_o h_k1.2).trans rfl) rfl rfl hl.1 rfl (Nat.le_of_ble_eq_true rfl) dX0_step_36 ⟨Nat.le_refl _, Nat.le_refl _⟩ (fun u40 H lo hp hPS => ?_)
        obtain ⟨hp, hex, hfr⟩ := hp
        replace hF := xl_i hex hF
        obtain ⟨hwf, p41⟩ := hp
        have I : Wo w g s.heap u40 H lo := ⟨hPS.1, hPS.2, hwf⟩
        have rzu40 : ∀ k j : Nat, ¬ (k = k1) → u40.1 k j = v.1 k j := fun k j h => (hfr k j (fun z => h (by omega))).trans (rz0 k j h)
        refine lv_goto (tgt := 120) hx hb dX0_step_39 (by decide) ?_
        refine lv_iconst (v := 1) hx hb dX0_step_120 (by decide) ?_
        exact rI E I hr hlk rfl (by rw [← hpost]; exact ⟨⟨I.2.2, by have eL : (1 : Int32).toInt = 1 := rfl; omega⟩, hF.trans hres, rzu40⟩) dX0_step_121
    ·
      replace hF := if_t c11 hF
      refine lv_iconst (v := 0) hx hb dX0_step_15 (by decide) ?_
      exact rI E I hr hlk rfl (by rw [← hpost]; exact ⟨⟨I.2.2, by have eL : (0 : Int32).toInt = 0 := rfl; omega⟩, hF.trans hres, rz0⟩) dX0_step_16
