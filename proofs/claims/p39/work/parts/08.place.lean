def F_X2_become (k0 : Nat) (k1 : Nat) (v : St) : St :=
xl (v.1 k1 0) fun x1 =>
xl (up1 v k0 0 x1) fun v2 =>
xl (v2.1 k1 1) fun x3 =>
xl (up1 v2 k0 1 x3) fun v4 =>
xl (v4.1 k1 2) fun x5 =>
xl (up1 v4 k0 2 x5) fun v6 =>
xl (v6.1 k1 3) fun x7 =>
xl (up1 v6 k0 3 x7) fun v8 =>
v8
set_option maxHeartbeats 4000000 in
set_option maxRecDepth 100000 in
theorem c_X2_become (l : Launch) (w : Wp) (g : Nat → Nat → Int32) (v : St) (k0 : Nat) (k1 : Nat) (hq : Inj w) (hw : WF (wk w) g v) (h_k0 : isK w k0 2) (h_k1 : isK w k1 2) : CTv w l yX2_become (wsy yX2_become prog_4_method_2_code 2 none) (rmL 1) [.ref (wq w k0), .ref (wq w k1)] v (fun (u : St) => (WF (wk w) g u ∧ True) ∧ (u = F_X2_become k0 k1 v) ∧ (∀ k j : Nat, ¬ (k = k0) → u.1 k j = v.1 k j)) := by
  generalize hpost : (fun (u : St) => (WF (wk w) g u ∧ True) ∧ (u = F_X2_become k0 k1 v) ∧ (∀ k j : Nat, ¬ (k = k0) → u.1 k j = v.1 k j)) = post
  refine CTv.of prog_4_method_2_code 2 none "StarWalk$Place" (by decide +kernel) rfl hq hw (Nat.le_of_ble_eq_true rfl) ?_
  intro pg en s m ar bl me cd ls E I hr hlk hl
  have hx := E.1.1
  have hb := E.1.2.1
  have hl : lv_has ls 2 [(0, .ref (wq w k0)), (1, .ref (wq w k1))] := hl
  obtain ⟨res, hres⟩ : ∃ z, z = F_X2_become k0 k1 v := ⟨_, rfl⟩
  have hF := hres.symm
  unfold F_X2_become at hF
  replace hres : res = F_X2_become k0 k1 v := hres
  have rz0 : ∀ k j : Nat, ¬ (k = k0) → v.1 k j = v.1 k j := fun _ _ _ => rfl
  refine lv_aload_n hx hb dX2_become_0 rfl (lv_at hl 0 rfl) ?_
  refine lv_aload_n hx hb dX2_become_1 rfl (lv_at hl 1 rfl) ?_
  refine g_Place_hour E I h_k1 mw_1_43 dX2_become_2 ?_
  refine lv_topi (fun x1 ex1 => ?_)
  replace hF := xl_i (ex1) hF
  refine p_Place_hour E I h_k0 mw_1_43 dX2_become_5 (fun H lo I => ?_)
  generalize ev2 : up1 v k0 0 x1 = v2 at I
  replace hF := xl_i (ev2.symm) hF
  have rzv2 : ∀ k j : Nat, ¬ (k = k0) → v2.1 k j = v.1 k j := fun k j h => fz_u ev2 (by omega) (rz0 k j h)
  refine lv_aload_n hx hb dX2_become_8 rfl (lv_at hl 0 rfl) ?_
  refine lv_aload_n hx hb dX2_become_9 rfl (lv_at hl 1 rfl) ?_
  refine g_Place_miles E I h_k1 mw_1_48 dX2_become_10 ?_
  refine lv_topi (fun x3 ex3 => ?_)
  replace hF := xl_i (ex3) hF
  refine p_Place_miles E I h_k0 mw_1_48 dX2_become_13 (fun H lo I => ?_)
  generalize ev4 : up1 v2 k0 1 x3 = v4 at I
  replace hF := xl_i (ev4.symm) hF
  have rzv4 : ∀ k j : Nat, ¬ (k = k0) → v4.1 k j = v.1 k j := fun k j h => fz_u ev4 (by omega) (rzv2 k j h)
  refine lv_aload_n hx hb dX2_become_16 rfl (lv_at hl 0 rfl) ?_
  refine lv_aload_n hx hb dX2_become_17 rfl (lv_at hl 1 rfl) ?_
  refine g_Place_side E I h_k1 mw_1_53 dX2_become_18 ?_
  refine lv_topi (fun x5 ex5 => ?_)
  replace hF := xl_i (ex5) hF
  refine p_Place_side E I h_k0 mw_1_53 dX2_become_21 (fun H lo I => ?_)
  generalize ev6 : up1 v4 k0 2 x5 = v6 at I
  replace hF := xl_i (ev6.symm) hF
  have rzv6 : ∀ k j : Nat, ¬ (k = k0) → v6.1 k j = v.1 k j := fun k j h => fz_u ev6 (by omega) (rzv4 k j h)
  refine lv_aload_n hx hb dX2_become_24 rfl (lv_at hl 0 rfl) ?_
  refine lv_aload_n hx hb dX2_become_25 rfl (lv_at hl 1 rfl) ?_
  refine g_Place_water E I h_k1 mw_1_58 dX2_become_26 ?_
  refine lv_topi (fun x7 ex7 => ?_)
  replace hF := xl_i (ex7) hF
  refine p_Place_water E I h_k0 mw_1_58 dX2_become_29 (fun H lo I => ?_)
  generalize ev8 : up1 v6 k0 3 x7 = v8 at I
  replace hF := xl_i (ev8.symm) hF
  have rzv8 : ∀ k j : Nat, ¬ (k = k0) → v8.1 k j = v.1 k j := fun k j h => fz_u ev8 (by omega) (rzv6 k j h)
  exact rV E I hr hlk (by rw [← hpost]; exact ⟨⟨I.2.2, trivial⟩, hF.trans hres, rzv8⟩) dX2_become_32
def F_X2_canStep (k0 : Nat) (v : St) : Int32 :=
xl (v.1 k0 3) fun x1 =>
if 0 < x1.toInt then (
xl (v.1 k0 0) fun x3 =>
if x3.toInt < 10 then (
(1 : Int32)) else (
(0 : Int32))) else (
(0 : Int32))
set_option maxHeartbeats 4000000 in
set_option maxRecDepth 100000 in
theorem c_X2_canStep (l : Launch) (w : Wp) (g : Nat → Nat → Int32) (v : St) (k0 : Nat) (hq : Inj w) (hw : WF (wk w) g v) (h_k0 : isK w k0 2) : CTi w l yX2_canStep (wsy yX2_canStep prog_4_method_3_code 1 (some .boolean)) (rmL 1) [.ref (wq w k0)] v (fun (r : Int32) (u : St) => (u = v ∧ 0 ≤ r.toInt ∧ r.toInt ≤ 1) ∧ (r = F_X2_canStep k0 v) ∧ True) := by
  generalize hpost : (fun (r : Int32) (u : St) => (u = v ∧ 0 ≤ r.toInt ∧ r.toInt ≤ 1) ∧ (r = F_X2_canStep k0 v) ∧ True) = post
  refine CTi.of prog_4_method_3_code 1 (some .boolean) "StarWalk$Place" (by decide +kernel) rfl hq hw (Nat.le_of_ble_eq_true rfl) ?_
  intro pg en s m ar bl me cd ls E I hr hlk hl
  have hx := E.1.1
  have hb := E.1.2.1
  have hl : lv_has ls 1 [(0, .ref (wq w k0))] := hl
  obtain ⟨res, hres⟩ : ∃ z, z = F_X2_canStep k0 v := ⟨_, rfl⟩
  have hF := hres.symm
  unfold F_X2_canStep at hF
  replace hres : res = F_X2_canStep k0 v := hres
  refine lv_aload_n hx hb dX2_canStep_0 rfl (lv_at hl 0 rfl) ?_
  refine g_Place_water E I h_k0 mw_1_58 dX2_canStep_1 ?_
  refine lv_topi (fun x1 ex1 => ?_)
  replace hF := xl_i (ex1) hF
  refine bz_le E (a := x1.toInt) rfl (tgt := 20) dX2_canStep_4 (by decide) (fun c2 => ?_) (fun c2 => ?_)
  ·
    replace hF := if_l c2 hF
    refine lv_iconst (v := 0) hx hb dX2_canStep_20 (by decide) ?_
    exact rI E I hr hlk rfl (by rw [← hpost]; exact ⟨⟨rfl, by have eL : (0 : Int32).toInt = 0 := rfl; omega⟩, hF.trans hres, trivial⟩) dX2_canStep_21
  ·
    replace hF := if_t c2 hF
    refine lv_aload_n hx hb dX2_canStep_7 rfl (lv_at hl 0 rfl) ?_
    refine g_Place_hour E I h_k0 mw_1_43 dX2_canStep_8 ?_
    refine lv_topi (fun x3 ex3 => ?_)
    replace hF := xl_i (ex3) hF
    refine lv_bipush (v := 10) hx hb dX2_canStep_11 (by decide) ?_
    refine bi_ge E (a := x3.toInt) (b := 10) rfl rfl (tgt := 20) dX2_canStep_13 (by decide) (fun c4 => ?_) (fun c4 => ?_)
    ·
      replace hF := if_l c4 hF
      refine lv_iconst (v := 0) hx hb dX2_canStep_20 (by decide) ?_
      exact rI E I hr hlk rfl (by rw [← hpost]; exact ⟨⟨rfl, by have eL : (0 : Int32).toInt = 0 := rfl; omega⟩, hF.trans hres, trivial⟩) dX2_canStep_21
    ·
      replace hF := if_t c4 hF
      refine lv_iconst (v := 1) hx hb dX2_canStep_16 (by decide) ?_
      refine lv_goto (tgt := 21) hx hb dX2_canStep_17 (by decide) ?_
      exact rI E I hr hlk rfl (by rw [← hpost]; exact ⟨⟨rfl, by have eL : (1 : Int32).toInt = 1 := rfl; omega⟩, hF.trans hres, trivial⟩) dX2_canStep_21
def F_X2_pass (k0 : Nat) (a0 : Int32) (a1 : Int32) (a2 : Int32) (v : St) : St :=
xl (v.1 k0 0) fun x1 =>
xl (x1 + (1 : Int32)) fun x2 =>
xl (up1 v k0 0 x2) fun v3 =>
xl (v3.1 k0 1) fun x4 =>
xl (x4 + a0) fun x5 =>
xl (up1 v3 k0 1 x5) fun v6 =>
xl (v6.1 k0 2) fun x7 =>
xl (x7 + a1) fun x8 =>
xl (up1 v6 k0 2 x8) fun v9 =>
xl (v9.1 k0 3) fun x10 =>
xl (x10 - a2) fun x11 =>
xl (if (0 : Int32) < x11 then x11 else (0 : Int32)) fun x12 =>
xl (up1 v9 k0 3 x12) fun v13 =>
v13
set_option maxHeartbeats 4000000 in
set_option maxRecDepth 100000 in
theorem c_X2_pass (l : Launch) (w : Wp) (g : Nat → Nat → Int32) (v : St) (k0 : Nat) (a0 : Int32) (a1 : Int32) (a2 : Int32) (hq : Inj w) (hw : WF (wk w) g v) (h_k0 : isK w k0 2) : CTv w l yX2_pass (wsy yX2_pass prog_4_method_4_code 4 none) (rmL 1) [.ref (wq w k0), .int a0, .int a1, .int a2] v (fun (u : St) => (WF (wk w) g u ∧ True) ∧ (u = F_X2_pass k0 a0 a1 a2 v) ∧ (∀ k j : Nat, ¬ (k = k0) → u.1 k j = v.1 k j)) := by
  generalize hpost : (fun (u : St) => (WF (wk w) g u ∧ True) ∧ (u = F_X2_pass k0 a0 a1 a2 v) ∧ (∀ k j : Nat, ¬ (k = k0) → u.1 k j = v.1 k j)) = post
  refine CTv.of prog_4_method_4_code 4 none "StarWalk$Place" (by decide +kernel) rfl hq hw (Nat.le_of_ble_eq_true rfl) ?_
  intro pg en s m ar bl me cd ls E I hr hlk hl
  have hx := E.1.1
  have hb := E.1.2.1
  have hl : lv_has ls 4 [(0, .ref (wq w k0)), (1, .int a0), (2, .int a1), (3, .int a2)] := hl
  obtain ⟨res, hres⟩ : ∃ z, z = F_X2_pass k0 a0 a1 a2 v := ⟨_, rfl⟩
  have hF := hres.symm
  unfold F_X2_pass at hF
  replace hres : res = F_X2_pass k0 a0 a1 a2 v := hres
  have rz0 : ∀ k j : Nat, ¬ (k = k0) → v.1 k j = v.1 k j := fun _ _ _ => rfl
  refine lv_aload_n hx hb dX2_pass_0 rfl (lv_at hl 0 rfl) ?_
  refine lv_dup hx hb dX2_pass_1 rfl ?_
  refine g_Place_hour E I h_k0 mw_1_43 dX2_pass_2 ?_
  refine lv_topi (fun x1 ex1 => ?_)
  replace hF := xl_i (ex1) hF
  refine lv_iconst (v := 1) hx hb dX2_pass_5 (by decide) ?_
  refine lv_iadd hx hb dX2_pass_6 ?_
  refine lv_topi (fun x2 ex2 => ?_)
  replace hF := xl_i (ex2) hF
  refine p_Place_hour E I h_k0 mw_1_43 dX2_pass_7 (fun H lo I => ?_)
  generalize ev3 : up1 v k0 0 x2 = v3 at I
  replace hF := xl_i (ev3.symm) hF
  have rzv3 : ∀ k j : Nat, ¬ (k = k0) → v3.1 k j = v.1 k j := fun k j h => fz_u ev3 (by omega) (rz0 k j h)
  refine lv_aload_n hx hb dX2_pass_10 rfl (lv_at hl 0 rfl) ?_
  refine lv_dup hx hb dX2_pass_11 rfl ?_
  refine g_Place_miles E I h_k0 mw_1_48 dX2_pass_12 ?_
  refine lv_topi (fun x4 ex4 => ?_)
  replace hF := xl_i (ex4) hF
  refine lv_iload_n hx hb dX2_pass_15 rfl (lv_at hl 1 rfl) ?_
  refine lv_iadd hx hb dX2_pass_16 ?_
  refine lv_topi (fun x5 ex5 => ?_)
  replace hF := xl_i (ex5) hF
  refine p_Place_miles E I h_k0 mw_1_48 dX2_pass_17 (fun H lo I => ?_)
  generalize ev6 : up1 v3 k0 1 x5 = v6 at I
  replace hF := xl_i (ev6.symm) hF
  have rzv6 : ∀ k j : Nat, ¬ (k = k0) → v6.1 k j = v.1 k j := fun k j h => fz_u ev6 (by omega) (rzv3 k j h)
  refine lv_aload_n hx hb dX2_pass_20 rfl (lv_at hl 0 rfl) ?_
  refine lv_dup hx hb dX2_pass_21 rfl ?_
  refine g_Place_side E I h_k0 mw_1_53 dX2_pass_22 ?_
  refine lv_topi (fun x7 ex7 => ?_)
  replace hF := xl_i (ex7) hF
  refine lv_iload_n hx hb dX2_pass_25 rfl (lv_at hl 2 rfl) ?_
  refine lv_iadd hx hb dX2_pass_26 ?_
  refine lv_topi (fun x8 ex8 => ?_)
  replace hF := xl_i (ex8) hF
  refine p_Place_side E I h_k0 mw_1_53 dX2_pass_27 (fun H lo I => ?_)
  generalize ev9 : up1 v6 k0 2 x8 = v9 at I
  replace hF := xl_i (ev9.symm) hF
  have rzv9 : ∀ k j : Nat, ¬ (k = k0) → v9.1 k j = v.1 k j := fun k j h => fz_u ev9 (by omega) (rzv6 k j h)
  refine lv_aload_n hx hb dX2_pass_30 rfl (lv_at hl 0 rfl) ?_
  refine lv_iconst (v := 0) hx hb dX2_pass_31 (by decide) ?_
  refine lv_aload_n hx hb dX2_pass_32 rfl (lv_at hl 0 rfl) ?_
  refine g_Place_water E I h_k0 mw_1_58 dX2_pass_33 ?_
  refine lv_topi (fun x10 ex10 => ?_)
  replace hF := xl_i (ex10) hF
  refine lv_iload_n hx hb dX2_pass_36 rfl (lv_at hl 3 rfl) ?_
  refine lv_isub hx hb dX2_pass_37 ?_
  refine lv_topi (fun x11 ex11 => ?_)
  replace hF := xl_i (ex11) hF
  refine va_mmax hx hb (E.1.2.2.1.trans hl.1.symm) E.1.2.2.2.1 (Ew E mw_3_190 rfl) (Ew E mw_3_161 rfl) (Ew E mw_1_15 rfl) (Ew E mw_3_162 rfl) (by decide) (Nat.le_of_ble_eq_true rfl) (Nat.le_refl _) (Nat.le_refl _) dX2_pass_38 ?_
  refine lv_topi (fun x12 ex12 => ?_)
  replace hF := xl_i (ex12) hF
  have hx12 : 0 ≤ x12.toInt := by have cL0 : (0 : Int32).toInt = 0 := rfl; rw [ex12]; split <;> simp only [Int32.lt_iff_toInt_lt] at * <;> omega
  refine p_Place_water E I h_k0 mw_1_58 dX2_pass_41 (fun H lo I => ?_)
  generalize ev13 : up1 v9 k0 3 x12 = v13 at I
  replace hF := xl_i (ev13.symm) hF
  have rzv13 : ∀ k j : Nat, ¬ (k = k0) → v13.1 k j = v.1 k j := fun k j h => fz_u ev13 (by omega) (rzv9 k j h)
  exact rV E I hr hlk (by rw [← hpost]; exact ⟨⟨I.2.2, trivial⟩, hF.trans hres, rzv13⟩) dX2_pass_44
def F_X2_isBetterThan (k0 : Nat) (a0 : Int32) (a1 : Int32) (v : St) : Int32 :=
xl (v.1 k0 2) fun x1 =>
xl (if 0 ≤ x1 then x1 else 0 - x1) fun x2 =>
xl (if 0 ≤ a0 then a0 else 0 - a0) fun x3 =>
if x2.toInt < x3.toInt then (
(1 : Int32)) else (
if x2.toInt = x3.toInt then (
xl (v.1 k0 1) fun x6 =>
if a1.toInt < x6.toInt then (
(1 : Int32)) else (
(0 : Int32))) else (
(0 : Int32)))
set_option maxHeartbeats 4000000 in
set_option maxRecDepth 100000 in
theorem c_X2_isBetterThan (l : Launch) (w : Wp) (g : Nat → Nat → Int32) (v : St) (k0 : Nat) (a0 : Int32) (a1 : Int32) (hq : Inj w) (hw : WF (wk w) g v) (h_k0 : isK w k0 2) : CTi w l yX2_isBetterThan (wsy yX2_isBetterThan prog_4_method_5_code 5 (some .boolean)) (rmL 1) [.ref (wq w k0), .int a0, .int a1] v (fun (r : Int32) (u : St) => (u = v ∧ 0 ≤ r.toInt ∧ r.toInt ≤ 1) ∧ (r = F_X2_isBetterThan k0 a0 a1 v) ∧ True) := by
  generalize hpost : (fun (r : Int32) (u : St) => (u = v ∧ 0 ≤ r.toInt ∧ r.toInt ≤ 1) ∧ (r = F_X2_isBetterThan k0 a0 a1 v) ∧ True) = post
  refine CTi.of prog_4_method_5_code 5 (some .boolean) "StarWalk$Place" (by decide +kernel) rfl hq hw (Nat.le_of_ble_eq_true rfl) ?_
  intro pg en s m ar bl me cd ls E I hr hlk hl
  have hx := E.1.1
  have hb := E.1.2.1
  have hl : lv_has ls 5 [(0, .ref (wq w k0)), (1, .int a0), (2, .int a1)] := hl
  obtain ⟨res, hres⟩ : ∃ z, z = F_X2_isBetterThan k0 a0 a1 v := ⟨_, rfl⟩
  have hF := hres.symm
  unfold F_X2_isBetterThan at hF
  replace hres : res = F_X2_isBetterThan k0 a0 a1 v := hres
  refine lv_aload_n hx hb dX2_isBetterThan_0 rfl (lv_at hl 0 rfl) ?_
  refine g_Place_side E I h_k0 mw_1_53 dX2_isBetterThan_1 ?_
  refine lv_topi (fun x1 ex1 => ?_)
  replace hF := xl_i (ex1) hF
  refine va_mabs hx hb (E.1.2.2.1.trans hl.1.symm) E.1.2.2.2.1 (Ew E mw_3_223 rfl) (Ew E mw_3_84 rfl) (Ew E mw_1_15 rfl) (Ew E mw_3_85 rfl) (by decide) (Nat.le_of_ble_eq_true rfl) (Nat.le_refl _) (Nat.le_refl _) dX2_isBetterThan_4 ?_
  refine lv_topi (fun x2 ex2 => ?_)
  replace hF := xl_i (ex2) hF
  refine lv_istore_n (lv' := [(3, .int x2), (0, .ref (wq w k0)), (1, .int a0), (2, .int a1)]) hx hb dX2_isBetterThan_7 rfl hl (by decide) rfl (fun ls hl => ?_)
  refine lv_iload_n hx hb dX2_isBetterThan_8 rfl (lv_at hl 2 rfl) ?_
  refine va_mabs hx hb (E.1.2.2.1.trans hl.1.symm) E.1.2.2.2.1 (Ew E mw_3_223 rfl) (Ew E mw_3_84 rfl) (Ew E mw_1_15 rfl) (Ew E mw_3_85 rfl) (by decide) (Nat.le_of_ble_eq_true rfl) (Nat.le_refl _) (Nat.le_refl _) dX2_isBetterThan_9 ?_
  refine lv_topi (fun x3 ex3 => ?_)
  replace hF := xl_i (ex3) hF
  refine lv_istore (lv' := [(4, .int x3), (3, .int x2), (0, .ref (wq w k0)), (1, .int a0), (2, .int a1)]) hx hb dX2_isBetterThan_12 hl (by decide) rfl (fun ls hl => ?_)
  refine lv_iload_n hx hb dX2_isBetterThan_14 rfl (lv_at hl 1 rfl) ?_
  refine lv_iload hx hb dX2_isBetterThan_15 (lv_at hl 0 rfl) ?_
  refine bi_lt E (a := x2.toInt) (b := x3.toInt) rfl rfl (tgt := 34) dX2_isBetterThan_17 (by decide) (fun c4 => ?_) (fun c4 => ?_)
  ·
    have rgx2 := i32_rng x2
    have rgx3 := i32_rng x3
    replace hF := if_t c4 hF
    refine lv_iconst (v := 1) hx hb dX2_isBetterThan_34 (by decide) ?_
    refine lv_goto (tgt := 39) hx hb dX2_isBetterThan_35 (by decide) ?_
    exact rI E I hr hlk rfl (by rw [← hpost]; exact ⟨⟨rfl, by have eL : (1 : Int32).toInt = 1 := rfl; omega⟩, hF.trans hres, trivial⟩) dX2_isBetterThan_39
  ·
    have rgx2 := i32_rng x2
    have rgx3 := i32_rng x3
    replace hF := if_l c4 hF
    refine lv_iload_n hx hb dX2_isBetterThan_20 rfl (lv_at hl 1 rfl) ?_
    refine lv_iload hx hb dX2_isBetterThan_21 (lv_at hl 0 rfl) ?_
    refine bi_ne E (a := x2.toInt) (b := x3.toInt) rfl rfl (tgt := 38) dX2_isBetterThan_23 (by decide) (fun c5 => ?_) (fun c5 => ?_)
    ·
      replace hF := if_f c5 hF
      refine lv_iconst (v := 0) hx hb dX2_isBetterThan_38 (by decide) ?_
      exact rI E I hr hlk rfl (by rw [← hpost]; exact ⟨⟨rfl, by have eL : (0 : Int32).toInt = 0 := rfl; omega⟩, hF.trans hres, trivial⟩) dX2_isBetterThan_39
    ·
      replace hF := if_t c5 hF
      refine lv_aload_n hx hb dX2_isBetterThan_26 rfl (lv_at hl 2 rfl) ?_
      refine g_Place_miles E I h_k0 mw_1_48 dX2_isBetterThan_27 ?_
      refine lv_topi (fun x6 ex6 => ?_)
      replace hF := xl_i (ex6) hF
      refine lv_iload_n hx hb dX2_isBetterThan_30 rfl (lv_at hl 4 rfl) ?_
      refine bi_le E (a := x6.toInt) (b := a1.toInt) rfl rfl (tgt := 38) dX2_isBetterThan_31 (by decide) (fun c7 => ?_) (fun c7 => ?_)
      ·
        have rgx6 := i32_rng x6
        have rga1 := i32_rng a1
        replace hF := if_l c7 hF
        refine lv_iconst (v := 0) hx hb dX2_isBetterThan_38 (by decide) ?_
        exact rI E I hr hlk rfl (by rw [← hpost]; exact ⟨⟨rfl, by have eL : (0 : Int32).toInt = 0 := rfl; omega⟩, hF.trans hres, trivial⟩) dX2_isBetterThan_39
      ·
        have rgx6 := i32_rng x6
        have rga1 := i32_rng a1
        replace hF := if_t c7 hF
        refine lv_iconst (v := 1) hx hb dX2_isBetterThan_34 (by decide) ?_
        refine lv_goto (tgt := 39) hx hb dX2_isBetterThan_35 (by decide) ?_
        exact rI E I hr hlk rfl (by rw [← hpost]; exact ⟨⟨rfl, by have eL : (1 : Int32).toInt = 1 := rfl; omega⟩, hF.trans hres, trivial⟩) dX2_isBetterThan_39
