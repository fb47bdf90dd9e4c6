def F_X8_in (a0 : Int64) (a1 : Int64) (a2 : Int64) (v : St) : Int32 :=
xl (lg_cmp a0 a1) fun x1 =>
if x1.toInt < 0 then (
(0 : Int32)) else (
xl (lg_cmp a0 a2) fun x3 =>
if 0 < x3.toInt then (
(0 : Int32)) else (
(1 : Int32)))
set_option maxHeartbeats 4000000 in
set_option maxRecDepth 100000 in
theorem c_X8_in (l : Launch) (w : Wp) (g : Nat → Nat → Int32) (v : St) (a0 : Int64) (a1 : Int64) (a2 : Int64) (hq : Inj w) (hw : WF (wk w) g v) : CTi w l yX8_in (wsy yX8_in prog_10_method_3_code 6 (some .boolean)) (rmL 1) [.long a0, .long a1, .long a2] v (fun (r : Int32) (u : St) => (u = v ∧ 0 ≤ r.toInt ∧ r.toInt ≤ 1 ∧ (¬ r.toInt = 0 ↔ a1.toInt ≤ a0.toInt ∧ a0.toInt ≤ a2.toInt)) ∧ (r = F_X8_in a0 a1 a2 v) ∧ True) := by
  generalize hpost : (fun (r : Int32) (u : St) => (u = v ∧ 0 ≤ r.toInt ∧ r.toInt ≤ 1 ∧ (¬ r.toInt = 0 ↔ a1.toInt ≤ a0.toInt ∧ a0.toInt ≤ a2.toInt)) ∧ (r = F_X8_in a0 a1 a2 v) ∧ True) = post
  refine CTi.of prog_10_method_3_code 6 (some .boolean) "StarWalkModel" (by decide +kernel) rfl hq hw (Nat.le_of_ble_eq_true rfl) ?_
  intro pg en s m ar bl me cd ls E I hr hlk hl
  have hx := E.1.1
  have hb := E.1.2.1
  have hl : lv_has ls 6 [(0, .long a0), (2, .long a1), (4, .long a2)] := hl
  obtain ⟨res, hres⟩ : ∃ z, z = F_X8_in a0 a1 a2 v := ⟨_, rfl⟩
  have hF := hres.symm
  unfold F_X8_in at hF
  replace hres : res = F_X8_in a0 a1 a2 v := hres
  refine lv_lload_n hx hb dX8_in_0 rfl (lv_at hl 0 rfl) ?_
  refine lv_lload_n hx hb dX8_in_1 rfl (lv_at hl 1 rfl) ?_
  refine W.lcmp hx hb dX8_in_2 ?_
  refine lv_topi (fun x1 ex1 => ?_)
  replace hF := xl_i (ex1) hF
  have hx1 := lcB a0 a1
  rw [← ex1] at hx1
  refine bz_lt E (a := x1.toInt) rfl (tgt := 17) dX8_in_3 (by decide) (fun c2 => ?_) (fun c2 => ?_)
  ·
    replace hF := if_t c2 hF
    refine lv_iconst (v := 0) hx hb dX8_in_17 (by decide) ?_
    exact rI E I hr hlk rfl (by rw [← hpost]; exact ⟨⟨rfl, by have eL : (0 : Int32).toInt = 0 := rfl; omega⟩, hF.trans hres, trivial⟩) dX8_in_18
  ·
    replace hF := if_l c2 hF
    refine lv_lload_n hx hb dX8_in_6 rfl (lv_at hl 0 rfl) ?_
    refine lv_lload hx hb dX8_in_7 (lv_at hl 2 rfl) ?_
    refine W.lcmp hx hb dX8_in_9 ?_
    refine lv_topi (fun x3 ex3 => ?_)
    replace hF := xl_i (ex3) hF
    have hx3 := lcB a0 a2
    rw [← ex3] at hx3
    refine bz_gt E (a := x3.toInt) rfl (tgt := 17) dX8_in_10 (by decide) (fun c4 => ?_) (fun c4 => ?_)
    ·
      replace hF := if_t c4 hF
      refine lv_iconst (v := 0) hx hb dX8_in_17 (by decide) ?_
      exact rI E I hr hlk rfl (by rw [← hpost]; exact ⟨⟨rfl, by have eL : (0 : Int32).toInt = 0 := rfl; omega⟩, hF.trans hres, trivial⟩) dX8_in_18
    ·
      replace hF := if_l c4 hF
      refine lv_iconst (v := 1) hx hb dX8_in_13 (by decide) ?_
      refine lv_goto (tgt := 18) hx hb dX8_in_14 (by decide) ?_
      exact rI E I hr hlk rfl (by rw [← hpost]; exact ⟨⟨rfl, by have eL : (1 : Int32).toInt = 1 := rfl; omega⟩, hF.trans hres, trivial⟩) dX8_in_18
def F_X8_flag (a0 : Int32) (v : St) : Int32 :=
if a0.toInt = 0 then (
(0 : Int32)) else (
(1 : Int32))
set_option maxHeartbeats 4000000 in
set_option maxRecDepth 100000 in
theorem c_X8_flag (l : Launch) (w : Wp) (g : Nat → Nat → Int32) (v : St) (a0 : Int32) (hq : Inj w) (hw : WF (wk w) g v) : CTi w l yX8_flag (wsy yX8_flag prog_10_method_4_code 1 (some .int)) (rmL 1) [.int a0] v (fun (r : Int32) (u : St) => (u = v ∧ 0 ≤ r.toInt ∧ r.toInt ≤ 1) ∧ (r = F_X8_flag a0 v) ∧ True) := by
  generalize hpost : (fun (r : Int32) (u : St) => (u = v ∧ 0 ≤ r.toInt ∧ r.toInt ≤ 1) ∧ (r = F_X8_flag a0 v) ∧ True) = post
  refine CTi.of prog_10_method_4_code 1 (some .int) "StarWalkModel" (by decide +kernel) rfl hq hw (Nat.le_of_ble_eq_true rfl) ?_
  intro pg en s m ar bl me cd ls E I hr hlk hl
  have hx := E.1.1
  have hb := E.1.2.1
  have hl : lv_has ls 1 [(0, .int a0)] := hl
  obtain ⟨res, hres⟩ : ∃ z, z = F_X8_flag a0 v := ⟨_, rfl⟩
  have hF := hres.symm
  unfold F_X8_flag at hF
  replace hres : res = F_X8_flag a0 v := hres
  refine lv_iload_n hx hb dX8_flag_0 rfl (lv_at hl 0 rfl) ?_
  refine bz_eq E (a := a0.toInt) rfl (tgt := 8) dX8_flag_1 (by decide) (fun c1 => ?_) (fun c1 => ?_)
  ·
    replace hF := if_t c1 hF
    refine lv_iconst (v := 0) hx hb dX8_flag_8 (by decide) ?_
    exact rI E I hr hlk rfl (by rw [← hpost]; exact ⟨⟨rfl, by have eL : (0 : Int32).toInt = 0 := rfl; omega⟩, hF.trans hres, trivial⟩) dX8_flag_9
  ·
    replace hF := if_f c1 hF
    refine lv_iconst (v := 1) hx hb dX8_flag_4 (by decide) ?_
    refine lv_goto (tgt := 9) hx hb dX8_flag_5 (by decide) ?_
    exact rI E I hr hlk rfl (by rw [← hpost]; exact ⟨⟨rfl, by have eL : (1 : Int32).toInt = 1 := rfl; omega⟩, hF.trans hres, trivial⟩) dX8_flag_9
def F_X8_firstDraft (k0 : Nat) (v : St) : St :=
xl (fun (self_2 : Int32 → St → St) (y2_1 : Int32) (v_2 : St) =>
if y2_1.toInt < 54 then (
xl (up1 v_2 (k0 + 4) y2_1.toNatClampNeg (0 : Int32)) fun v11 =>
xl (y2_1 + 1) fun x12 =>
(self_2 x12 v11)) else (
xl (up1 v_2 (k0 + 4) (24 : Int32).toNatClampNeg (20 : Int32)) fun v2 =>
xl (up1 v2 (k0 + 4) (25 : Int32).toNatClampNeg (2 : Int32)) fun v3 =>
xl (up1 v3 (k0 + 4) (26 : Int32).toNatClampNeg (3 : Int32)) fun v4 =>
xl (up1 v4 (k0 + 4) (27 : Int32).toNatClampNeg (20 : Int32)) fun v5 =>
xl (up1 v5 k0 6 (0 : Int32)) fun v6 =>
xl (up1 v6 k0 7 (0 : Int32)) fun v7 =>
xl (up1 v7 k0 8 (0 : Int32)) fun v8 =>
xl (up1 v8 k0 9 (0 : Int32)) fun v9 =>
xl (up1 v9 k0 10 (-4 : Int32)) fun v10 =>
v10)) fun P_2 =>
(lp P_2 (fun _ _ => v) ((2147483647 - (0 : Int32).toInt).toNat + 1) (0 : Int32) v)
set_option maxHeartbeats 4000000 in
set_option maxRecDepth 100000 in
theorem c_X8_firstDraft (l : Launch) (w : Wp) (g : Nat → Nat → Int32) (v : St) (k0 : Nat) (hq : Inj w) (hw : WF (wk w) g v) (h_k0 : oM w k0) : CTv w l yX8_firstDraft (wsy yX8_firstDraft prog_10_method_5_code 2 none) (rmL 1) [.ref (wq w k0)] v (fun (u : St) => (WF (wk w) g u ∧ True) ∧ (u = F_X8_firstDraft k0 v) ∧ (∀ k j : Nat, ¬ ((k = k0 ∧ 6 ≤ j ∧ j ≤ 10) ∨ k = k0 + 4) → u.1 k j = v.1 k j)) := by
  generalize hpost : (fun (u : St) => (WF (wk w) g u ∧ True) ∧ (u = F_X8_firstDraft k0 v) ∧ (∀ k j : Nat, ¬ ((k = k0 ∧ 6 ≤ j ∧ j ≤ 10) ∨ k = k0 + 4) → u.1 k j = v.1 k j)) = post
  refine CTv.of prog_10_method_5_code 2 none "StarWalkModel" (by decide +kernel) rfl hq hw (Nat.le_of_ble_eq_true rfl) ?_
  intro pg en s m ar bl me cd ls E I hr hlk hl
  have hx := E.1.1
  have hb := E.1.2.1
  have hl : lv_has ls 2 [(0, .ref (wq w k0))] := hl
  obtain ⟨res, hres⟩ : ∃ z, z = F_X8_firstDraft k0 v := ⟨_, rfl⟩
  have hF := hres.symm
  unfold F_X8_firstDraft at hF
  replace hres : res = F_X8_firstDraft k0 v := hres
  have rz0 : ∀ k j : Nat, ¬ ((k = k0 ∧ 6 ≤ j ∧ j ≤ 10) ∨ k = k0 + 4) → v.1 k j = v.1 k j := fun _ _ _ => rfl
  obtain ⟨P_2, eP_2, hF⟩ := xl_e hF
  have L_2 : ∀ (n : Nat), ∀ (H : Heap) (lo : List Loc) (v_2 : St), Wo w g s.heap v_2 H lo → ∀ (y2_1 : Int32), (0 ≤ y2_1.toInt ∧ y2_1.toInt ≤ 54) → (∀ k j : Nat, ¬ ((k = k0 ∧ 6 ≤ j ∧ j ≤ 10) ∨ k = k0 + 4) → v_2.1 k j = v.1 k j) → (lp P_2 (fun _ _ => v) n y2_1 v_2 = res) → (2147483647 - y2_1.toInt).toNat < n → ∀ (ls : Array Slot), lv_has ls 2 [(0, .ref (wq w k0)), (1, .int y2_1)] → W pg l en (rmL 1) s m ar bl me cd H lo 0 0 (Zv w bl ar s post) (F0 m 2 ls []) := by
    intro n
    induction n with
    | zero => intro H lo v_2 I y2_1 hy2_1 rB2_Z hF hm; exact absurd hm (Nat.not_lt_zero _)
    | succ n ih_2 =>
      intro H lo v_2 I y2_1 hy2_1 rB2_Z hF hm ls hl
      replace hF := lpa2 eP_2 hF
      refine lv_iload_n hx hb dX8_firstDraft_2 rfl (lv_at hl 1 rfl) ?_
      refine lv_bipush (v := 54) hx hb dX8_firstDraft_3 (by decide) ?_
      refine bi_ge E (a := y2_1.toInt) (b := 54) rfl rfl (tgt := 21) dX8_firstDraft_5 (by decide) (fun c1 => ?_) (fun c1 => ?_)
      ·
        replace hF := if_l c1 hF
        refine lv_aload_n hx hb dX8_firstDraft_21 rfl (lv_at hl 0 rfl) ?_
        refine g_StarWalkModel_draft E I h_k0.1 mw_4_175 dX8_firstDraft_22 ?_
        refine lv_bipush (v := 24) hx hb dX8_firstDraft_25 (by decide) ?_
        refine lv_bipush (v := 20) hx hb dX8_firstDraft_27 (by decide) ?_
        refine pa_33 E I h_k0.2.2.2.2.1 (by decide) (by simp only [okk]; decide) dX8_firstDraft_29 (fun H lo I => ?_)
        generalize ev2 : up1 v_2 (k0 + 4) (24 : Int32).toNatClampNeg (20 : Int32) = v2 at I
        replace hF := xl_i (ev2.symm) hF
        have rzv2 : ∀ k j : Nat, ¬ ((k = k0 ∧ 6 ≤ j ∧ j ≤ 10) ∨ k = k0 + 4) → v2.1 k j = v.1 k j := fun k j h => fz_u ev2 (by have cl24 : (24 : Int32).toNatClampNeg = 24 := rfl; omega) (rB2_Z k j h)
        refine lv_aload_n hx hb dX8_firstDraft_30 rfl (lv_at hl 0 rfl) ?_
        refine g_StarWalkModel_draft E I h_k0.1 mw_4_175 dX8_firstDraft_31 ?_
        refine lv_bipush (v := 25) hx hb dX8_firstDraft_34 (by decide) ?_
        refine lv_iconst (v := 2) hx hb dX8_firstDraft_36 (by decide) ?_
        refine pa_33 E I h_k0.2.2.2.2.1 (by decide) (by simp only [okk]; decide) dX8_firstDraft_37 (fun H lo I => ?_)
        generalize ev3 : up1 v2 (k0 + 4) (25 : Int32).toNatClampNeg (2 : Int32) = v3 at I
        replace hF := xl_i (ev3.symm) hF
        have rzv3 : ∀ k j : Nat, ¬ ((k = k0 ∧ 6 ≤ j ∧ j ≤ 10) ∨ k = k0 + 4) → v3.1 k j = v.1 k j := fun k j h => fz_u ev3 (by have cl25 : (25 : Int32).toNatClampNeg = 25 := rfl; omega) (rzv2 k j h)
        refine lv_aload_n hx hb dX8_firstDraft_38 rfl (lv_at hl 0 rfl) ?_
        refine g_StarWalkModel_draft E I h_k0.1 mw_4_175 dX8_firstDraft_39 ?_
        refine lv_bipush (v := 26) hx hb dX8_firstDraft_42 (by decide) ?_
        refine lv_iconst (v := 3) hx hb dX8_firstDraft_44 (by decide) ?_
        refine pa_33 E I h_k0.2.2.2.2.1 (by decide) (by simp only [okk]; decide) dX8_firstDraft_45 (fun H lo I => ?_)
        generalize ev4 : up1 v3 (k0 + 4) (26 : Int32).toNatClampNeg (3 : Int32) = v4 at I
        replace hF := xl_i (ev4.symm) hF
        have rzv4 : ∀ k j : Nat, ¬ ((k = k0 ∧ 6 ≤ j ∧ j ≤ 10) ∨ k = k0 + 4) → v4.1 k j = v.1 k j := fun k j h => fz_u ev4 (by have cl26 : (26 : Int32).toNatClampNeg = 26 := rfl; omega) (rzv3 k j h)
        refine lv_aload_n hx hb dX8_firstDraft_46 rfl (lv_at hl 0 rfl) ?_
        refine g_StarWalkModel_draft E I h_k0.1 mw_4_175 dX8_firstDraft_47 ?_
        refine lv_bipush (v := 27) hx hb dX8_firstDraft_50 (by decide) ?_
        refine lv_bipush (v := 20) hx hb dX8_firstDraft_52 (by decide) ?_
        refine pa_33 E I h_k0.2.2.2.2.1 (by decide) (by simp only [okk]; decide) dX8_firstDraft_54 (fun H lo I => ?_)
        generalize ev5 : up1 v4 (k0 + 4) (27 : Int32).toNatClampNeg (20 : Int32) = v5 at I
        replace hF := xl_i (ev5.symm) hF
        have rzv5 : ∀ k j : Nat, ¬ ((k = k0 ∧ 6 ≤ j ∧ j ≤ 10) ∨ k = k0 + 4) → v5.1 k j = v.1 k j := fun k j h => fz_u ev5 (by have cl27 : (27 : Int32).toNatClampNeg = 27 := rfl; omega) (rzv4 k j h)
        refine lv_aload_n hx hb dX8_firstDraft_55 rfl (lv_at hl 0 rfl) ?_
        refine lv_iconst (v := 0) hx hb dX8_firstDraft_56 (by decide) ?_
        refine p_StarWalkModel_dStars E I h_k0.1 mw_4_176 (by decide) dX8_firstDraft_57 (fun H lo I => ?_)
        generalize ev6 : up1 v5 k0 6 (0 : Int32) = v6 at I
        replace hF := xl_i (ev6.symm) hF
        have rzv6 : ∀ k j : Nat, ¬ ((k = k0 ∧ 6 ≤ j ∧ j ≤ 10) ∨ k = k0 + 4) → v6.1 k j = v.1 k j := fun k j h => fz_u ev6 (by omega) (rzv5 k j h)
        refine lv_aload_n hx hb dX8_firstDraft_60 rfl (lv_at hl 0 rfl) ?_
        refine lv_iconst (v := 0) hx hb dX8_firstDraft_61 (by decide) ?_
        refine p_StarWalkModel_dWalkers E I h_k0.1 mw_4_177 (by decide) dX8_firstDraft_62 (fun H lo I => ?_)
        generalize ev7 : up1 v6 k0 7 (0 : Int32) = v7 at I
        replace hF := xl_i (ev7.symm) hF
        have rzv7 : ∀ k j : Nat, ¬ ((k = k0 ∧ 6 ≤ j ∧ j ≤ 10) ∨ k = k0 + 4) → v7.1 k j = v.1 k j := fun k j h => fz_u ev7 (by omega) (rzv6 k j h)
        refine lv_aload_n hx hb dX8_firstDraft_65 rfl (lv_at hl 0 rfl) ?_
        refine lv_iconst (v := 0) hx hb dX8_firstDraft_66 (by decide) ?_
        refine p_StarWalkModel_knownOnes E I h_k0.1 mw_4_178 dX8_firstDraft_67 (fun H lo I => ?_)
        generalize ev8 : up1 v7 k0 8 (0 : Int32) = v8 at I
        replace hF := xl_i (ev8.symm) hF
        have rzv8 : ∀ k j : Nat, ¬ ((k = k0 ∧ 6 ≤ j ∧ j ≤ 10) ∨ k = k0 + 4) → v8.1 k j = v.1 k j := fun k j h => fz_u ev8 (by omega) (rzv7 k j h)
        refine lv_aload_n hx hb dX8_firstDraft_70 rfl (lv_at hl 0 rfl) ?_
        refine lv_iconst (v := 0) hx hb dX8_firstDraft_71 (by decide) ?_
        refine p_StarWalkModel_toldLines E I h_k0.1 mw_4_179 dX8_firstDraft_72 (fun H lo I => ?_)
        generalize ev9 : up1 v8 k0 9 (0 : Int32) = v9 at I
        replace hF := xl_i (ev9.symm) hF
        have rzv9 : ∀ k j : Nat, ¬ ((k = k0 ∧ 6 ≤ j ∧ j ≤ 10) ∨ k = k0 + 4) → v9.1 k j = v.1 k j := fun k j h => fz_u ev9 (by omega) (rzv8 k j h)
        refine lv_aload_n hx hb dX8_firstDraft_75 rfl (lv_at hl 0 rfl) ?_
        refine lv_bipush (v := (-4)) hx hb dX8_firstDraft_76 (by decide) ?_
        refine p_StarWalkModel_highest E I h_k0.1 mw_4_180 dX8_firstDraft_78 (fun H lo I => ?_)
        generalize ev10 : up1 v9 k0 10 (-4 : Int32) = v10 at I
        replace hF := xl_i (ev10.symm) hF
        have rzv10 : ∀ k j : Nat, ¬ ((k = k0 ∧ 6 ≤ j ∧ j ≤ 10) ∨ k = k0 + 4) → v10.1 k j = v.1 k j := fun k j h => fz_u ev10 (by omega) (rzv9 k j h)
        exact rV E I hr hlk (by rw [← hpost]; exact ⟨⟨I.2.2, trivial⟩, hF.trans hres, rzv10⟩) dX8_firstDraft_81
      ·
        replace hF := if_t c1 hF
        refine lv_aload_n hx hb dX8_firstDraft_8 rfl (lv_at hl 0 rfl) ?_
        refine g_StarWalkModel_draft E I h_k0.1 mw_4_175 dX8_firstDraft_9 ?_
        refine lv_iload_n hx hb dX8_firstDraft_12 rfl (lv_at hl 1 rfl) ?_
        refine lv_iconst (v := 0) hx hb dX8_firstDraft_13 (by decide) ?_
        refine pa_33 E I h_k0.2.2.2.2.1 (by omega) (by have ci := cnI (x := y2_1) (by omega); have cx : (0 : Int32).toInt = 0 := rfl; simp only [okk]; omega) dX8_firstDraft_14 (fun H lo I => ?_)
        generalize ev11 : up1 v_2 (k0 + 4) y2_1.toNatClampNeg (0 : Int32) = v11 at I
        replace hF := xl_i (ev11.symm) hF
        have rzv11 : ∀ k j : Nat, ¬ ((k = k0 ∧ 6 ≤ j ∧ j ≤ 10) ∨ k = k0 + 4) → v11.1 k j = v.1 k j := fun k j h => fz_u ev11 (by have czy2_1 := cnI (x := y2_1) (by omega); omega) (rB2_Z k j h)
        obtain ⟨x12, ex12⟩ : ∃ z : Int32, z = y2_1 + 1 := ⟨_, rfl⟩
        replace hF := xl_i (ex12) hF
        have hx12 : x12.toInt = y2_1.toInt + (1) := by rw [ex12]; exact adI (a := y2_1.toInt) (b := 1) rfl rfl (by omega) (by omega)
        refine lv_iinc (v := x12) (lv' := [(1, .int x12), (0, .ref (wq w k0))]) hx hb dX8_firstDraft_15 hl (k := 1) rfl (by rw [ex12]; rfl) (by decide) rfl (fun ls hl => ?_)
        refine lv_goto (tgt := 2) hx hb dX8_firstDraft_18 (by decide) ?_
        exact ih_2 _ _ v11 I x12 (by omega) rzv11 hF (by omega) ls (lv_sub hl [1, 0] rfl)
  refine lv_iconst (v := 0) hx hb dX8_firstDraft_0 (by decide) ?_
  refine lv_istore_n (lv' := [(1, .int 0), (0, .ref (wq w k0))]) hx hb dX8_firstDraft_1 rfl hl (by decide) rfl (fun ls hl => ?_)
  exact L_2 ((2147483647 - (0 : Int32).toInt).toNat + 1) _ _ v I (0 : Int32) (by decide) rz0 hF (Nat.lt_succ_self _) ls (lv_sub hl [1, 0] rfl)
def F_X8_keepDraft (k0 : Nat) (v : St) : St :=
xl (fun (self_44 : Int32 → St → St) (y44_1 : Int32) (v_44 : St) =>
xl (v_44.1 k0 3) fun x1 =>
if y44_1.toInt < x1.toInt then (
xl ((4 : Int32) * y44_1) fun x5 =>
xl (x5 + (3 : Int32)) fun x6 =>
xl (v_44.1 k0 8) fun x7 =>
xl (x7 >>> (y44_1 &&& 31)) fun x8 =>
xl (x8 &&& (1 : Int32)) fun x9 =>
xl (up1 v_44 (k0 + 1) x6.toNatClampNeg x9) fun v10 =>
xl (y44_1 + 1) fun x11 =>
(self_44 x11 v10)) else (
xl (up1 v_44 (k0 + 3) (0 : Int32).toNatClampNeg (vp_nar .boolean (0 : Int32))) fun v3 =>
xl (up1 v3 (k0 + 3) (1 : Int32).toNatClampNeg (vp_nar .boolean (0 : Int32))) fun v4 =>
v4)) fun P_44 =>
xl (fun (self_2 : Int32 → St → St) (y2_1 : Int32) (v_2 : St) =>
if y2_1.toInt < 54 then (
xl (v_2.1 (k0 + 4) y2_1.toNatClampNeg) fun x17 =>
xl (up1 v_2 (k0 + 1) y2_1.toNatClampNeg x17) fun v18 =>
xl (y2_1 + 1) fun x19 =>
(self_2 x19 v18)) else (
xl (v_2.1 k0 6) fun x13 =>
xl (up1 v_2 k0 3 x13) fun v14 =>
xl (v14.1 k0 7) fun x15 =>
xl (up1 v14 k0 4 x15) fun v16 =>
(lp P_44 (fun _ _ => v) ((2147483647 - (0 : Int32).toInt).toNat + 1) (0 : Int32) v16))) fun P_2 =>
(lp P_2 (fun _ _ => v) ((2147483647 - (0 : Int32).toInt).toNat + 1) (0 : Int32) v)
set_option maxHeartbeats 4000000 in
set_option maxRecDepth 100000 in
theorem c_X8_keepDraft (l : Launch) (w : Wp) (g : Nat → Nat → Int32) (v : St) (k0 : Nat) (hq : Inj w) (hw : WF (wk w) g v) (h_k0 : oM w k0) : CTv w l yX8_keepDraft (wsy yX8_keepDraft prog_10_method_6_code 2 none) (rmL 1) [.ref (wq w k0)] v (fun (u : St) => (WF (wk w) g u ∧ True) ∧ (u = F_X8_keepDraft k0 v) ∧ (∀ k j : Nat, ¬ ((k = k0 ∧ 3 ≤ j ∧ j ≤ 4) ∨ k = k0 + 1 ∨ k = k0 + 3) → u.1 k j = v.1 k j)) := by
  generalize hpost : (fun (u : St) => (WF (wk w) g u ∧ True) ∧ (u = F_X8_keepDraft k0 v) ∧ (∀ k j : Nat, ¬ ((k = k0 ∧ 3 ≤ j ∧ j ≤ 4) ∨ k = k0 + 1 ∨ k = k0 + 3) → u.1 k j = v.1 k j)) = post
  refine CTv.of prog_10_method_6_code 2 none "StarWalkModel" (by decide +kernel) rfl hq hw (Nat.le_of_ble_eq_true rfl) ?_
  intro pg en s m ar bl me cd ls E I hr hlk hl
  have hx := E.1.1
  have hb := E.1.2.1
  have hl : lv_has ls 2 [(0, .ref (wq w k0))] := hl
  obtain ⟨res, hres⟩ : ∃ z, z = F_X8_keepDraft k0 v := ⟨_, rfl⟩
  have hF := hres.symm
  unfold F_X8_keepDraft at hF
  replace hres : res = F_X8_keepDraft k0 v := hres
  have rz0 : ∀ k j : Nat, ¬ ((k = k0 ∧ 3 ≤ j ∧ j ≤ 4) ∨ k = k0 + 1 ∨ k = k0 + 3) → v.1 k j = v.1 k j := fun _ _ _ => rfl
  obtain ⟨P_44, eP_44, hF⟩ := xl_e hF
  have L_44 : ∀ (n : Nat), ∀ (H : Heap) (lo : List Loc) (v_44 : St), Wo w g s.heap v_44 H lo → ∀ (y44_1 : Int32), (0 ≤ y44_1.toInt ∧ y44_1.toInt ≤ 5) → (∀ k j : Nat, ¬ ((k = k0 ∧ 3 ≤ j ∧ j ≤ 4) ∨ k = k0 + 1 ∨ k = k0 + 3) → v_44.1 k j = v.1 k j) → (lp P_44 (fun _ _ => v) n y44_1 v_44 = res) → (2147483647 - y44_1.toInt).toNat < n → ∀ (ls : Array Slot), lv_has ls 2 [(0, .ref (wq w k0)), (1, .int y44_1)] → W pg l en (rmL 1) s m ar bl me cd H lo 0 0 (Zv w bl ar s post) (F0 m 44 ls []) := by
    intro n
    induction n with
    | zero => intro H lo v_44 I y44_1 hy44_1 rB44_Z hF hm; exact absurd hm (Nat.not_lt_zero _)
    | succ n ih_44 =>
      intro H lo v_44 I y44_1 hy44_1 rB44_Z hF hm ls hl
      replace hF := lpa2 eP_44 hF
      refine lv_iload_n hx hb dX8_keepDraft_44 rfl (lv_at hl 1 rfl) ?_
      refine lv_aload_n hx hb dX8_keepDraft_45 rfl (lv_at hl 0 rfl) ?_
      refine g_StarWalkModel_stars E I h_k0.1 mw_4_173 dX8_keepDraft_46 ?_
      refine lv_topi (fun x1 ex1 => ?_)
      replace hF := xl_i (ex1) hF
      have hx1 := r_StarWalkModel_stars I h_k0.1
      rw [← ex1] at hx1
      refine bi_ge E (a := y44_1.toInt) (b := x1.toInt) rfl rfl (tgt := 76) dX8_keepDraft_49 (by decide) (fun c2 => ?_) (fun c2 => ?_)
      ·
        replace hF := if_l c2 hF
        refine lv_aload_n hx hb dX8_keepDraft_76 rfl (lv_at hl 0 rfl) ?_
        refine g_StarWalkModel_isKept E I h_k0.1 mw_4_172 dX8_keepDraft_77 ?_
        refine lv_iconst (v := 0) hx hb dX8_keepDraft_80 (by decide) ?_
        refine lv_iconst (v := 0) hx hb dX8_keepDraft_81 (by decide) ?_
        refine pa_32 E I h_k0.2.2.2.1 (by decide) dX8_keepDraft_82 (fun H lo I => ?_)
        generalize ev3 : up1 v_44 (k0 + 3) (0 : Int32).toNatClampNeg (vp_nar .boolean (0 : Int32)) = v3 at I
        replace hF := xl_i (ev3.symm) hF
        have rzv3 : ∀ k j : Nat, ¬ ((k = k0 ∧ 3 ≤ j ∧ j ≤ 4) ∨ k = k0 + 1 ∨ k = k0 + 3) → v3.1 k j = v.1 k j := fun k j h => fz_u ev3 (by have cl0 : (0 : Int32).toNatClampNeg = 0 := rfl; omega) (rB44_Z k j h)
        refine lv_aload_n hx hb dX8_keepDraft_83 rfl (lv_at hl 0 rfl) ?_
        refine g_StarWalkModel_isKept E I h_k0.1 mw_4_172 dX8_keepDraft_84 ?_
        refine lv_iconst (v := 1) hx hb dX8_keepDraft_87 (by decide) ?_
        refine lv_iconst (v := 0) hx hb dX8_keepDraft_88 (by decide) ?_
        refine pa_32 E I h_k0.2.2.2.1 (by decide) dX8_keepDraft_89 (fun H lo I => ?_)
        generalize ev4 : up1 v3 (k0 + 3) (1 : Int32).toNatClampNeg (vp_nar .boolean (0 : Int32)) = v4 at I
        replace hF := xl_i (ev4.symm) hF
        have rzv4 : ∀ k j : Nat, ¬ ((k = k0 ∧ 3 ≤ j ∧ j ≤ 4) ∨ k = k0 + 1 ∨ k = k0 + 3) → v4.1 k j = v.1 k j := fun k j h => fz_u ev4 (by have cl1 : (1 : Int32).toNatClampNeg = 1 := rfl; omega) (rzv3 k j h)
        exact rV E I hr hlk (by rw [← hpost]; exact ⟨⟨I.2.2, trivial⟩, hF.trans hres, rzv4⟩) dX8_keepDraft_90
      ·
        replace hF := if_t c2 hF
        refine lv_aload_n hx hb dX8_keepDraft_52 rfl (lv_at hl 0 rfl) ?_
        refine g_StarWalkModel_st E I h_k0.1 mw_4_170 dX8_keepDraft_53 ?_
        refine lv_iconst (v := 4) hx hb dX8_keepDraft_56 (by decide) ?_
        refine lv_iload_n hx hb dX8_keepDraft_57 rfl (lv_at hl 1 rfl) ?_
        refine lv_imul hx hb dX8_keepDraft_58 ?_
        refine lv_topi (fun x5 ex5 => ?_)
        replace hF := xl_i (ex5) hF
        have hx5 : x5.toInt = 4 * y44_1.toInt := by rw [ex5]; exact mlI (a := 4) (b := y44_1.toInt) rfl rfl (by omega) (by omega)
        refine lv_iconst (v := 3) hx hb dX8_keepDraft_59 (by decide) ?_
        refine lv_iadd hx hb dX8_keepDraft_60 ?_
        refine lv_topi (fun x6 ex6 => ?_)
        replace hF := xl_i (ex6) hF
        have hx6 : x6.toInt = x5.toInt + 3 := by rw [ex6]; exact adI (a := x5.toInt) (b := 3) rfl rfl (by omega) (by omega)
        refine lv_aload_n hx hb dX8_keepDraft_61 rfl (lv_at hl 0 rfl) ?_
        refine g_StarWalkModel_knownOnes E I h_k0.1 mw_4_178 dX8_keepDraft_62 ?_
        refine lv_topi (fun x7 ex7 => ?_)
        replace hF := xl_i (ex7) hF
        refine lv_iload_n hx hb dX8_keepDraft_65 rfl (lv_at hl 1 rfl) ?_
        refine lv_ishr hx hb dX8_keepDraft_66 ?_
        refine lv_topi (fun x8 ex8 => ?_)
        replace hF := xl_i (ex8) hF
        refine lv_iconst (v := 1) hx hb dX8_keepDraft_67 (by decide) ?_
        refine lv_iand hx hb dX8_keepDraft_68 ?_
        refine lv_topi (fun x9 ex9 => ?_)
        replace hF := xl_i (ex9) hF
        have hx9 := anI (x := x8) (y := (1 : Int32)) (b := 1) rfl (by decide)
        rw [← ex9] at hx9
        refine pa_30 E I h_k0.2.1 (by omega) (by have ci := cnI (x := x6) (by omega); simp only [okk]; omega) dX8_keepDraft_69 (fun H lo I => ?_)
        generalize ev10 : up1 v_44 (k0 + 1) x6.toNatClampNeg x9 = v10 at I
        replace hF := xl_i (ev10.symm) hF
        have rzv10 : ∀ k j : Nat, ¬ ((k = k0 ∧ 3 ≤ j ∧ j ≤ 4) ∨ k = k0 + 1 ∨ k = k0 + 3) → v10.1 k j = v.1 k j := fun k j h => fz_u ev10 (by have czx6 := cnI (x := x6) (by omega); omega) (rB44_Z k j h)
        obtain ⟨x11, ex11⟩ : ∃ z : Int32, z = y44_1 + 1 := ⟨_, rfl⟩
        replace hF := xl_i (ex11) hF
        have hx11 : x11.toInt = y44_1.toInt + (1) := by rw [ex11]; exact adI (a := y44_1.toInt) (b := 1) rfl rfl (by omega) (by omega)
        refine lv_iinc (v := x11) (lv' := [(1, .int x11), (0, .ref (wq w k0))]) hx hb dX8_keepDraft_70 hl (k := 1) rfl (by rw [ex11]; rfl) (by decide) rfl (fun ls hl => ?_)
        refine lv_goto (tgt := 44) hx hb dX8_keepDraft_73 (by decide) ?_
        exact ih_44 _ _ v10 I x11 (by omega) rzv10 hF (by omega) ls (lv_sub hl [1, 0] rfl)
  obtain ⟨P_2, eP_2, hF⟩ := xl_e hF
  have L_2 : ∀ (n : Nat), ∀ (H : Heap) (lo : List Loc) (v_2 : St), Wo w g s.heap v_2 H lo → ∀ (y2_1 : Int32), (0 ≤ y2_1.toInt ∧ y2_1.toInt ≤ 54) → (∀ k j : Nat, ¬ ((k = k0 ∧ 3 ≤ j ∧ j ≤ 4) ∨ k = k0 + 1 ∨ k = k0 + 3) → v_2.1 k j = v.1 k j) → (lp P_2 (fun _ _ => v) n y2_1 v_2 = res) → (2147483647 - y2_1.toInt).toNat < n → ∀ (ls : Array Slot), lv_has ls 2 [(0, .ref (wq w k0)), (1, .int y2_1)] → W pg l en (rmL 1) s m ar bl me cd H lo 0 0 (Zv w bl ar s post) (F0 m 2 ls []) := by
    intro n
    induction n with
    | zero => intro H lo v_2 I y2_1 hy2_1 rB2_Z hF hm; exact absurd hm (Nat.not_lt_zero _)
    | succ n ih_2 =>
      intro H lo v_2 I y2_1 hy2_1 rB2_Z hF hm ls hl
      replace hF := lpa2 eP_2 hF
      refine lv_iload_n hx hb dX8_keepDraft_2 rfl (lv_at hl 1 rfl) ?_
      refine lv_bipush (v := 54) hx hb dX8_keepDraft_3 (by decide) ?_
      refine bi_ge E (a := y2_1.toInt) (b := 54) rfl rfl (tgt := 26) dX8_keepDraft_5 (by decide) (fun c12 => ?_) (fun c12 => ?_)
      ·
        replace hF := if_l c12 hF
        refine lv_aload_n hx hb dX8_keepDraft_26 rfl (lv_at hl 0 rfl) ?_
        refine lv_aload_n hx hb dX8_keepDraft_27 rfl (lv_at hl 0 rfl) ?_
        refine g_StarWalkModel_dStars E I h_k0.1 mw_4_176 dX8_keepDraft_28 ?_
        refine lv_topi (fun x13 ex13 => ?_)
        replace hF := xl_i (ex13) hF
        have hx13 := r_StarWalkModel_dStars I h_k0.1
        rw [← ex13] at hx13
        refine p_StarWalkModel_stars E I h_k0.1 mw_4_173 (by omega) dX8_keepDraft_31 (fun H lo I => ?_)
        generalize ev14 : up1 v_2 k0 3 x13 = v14 at I
        replace hF := xl_i (ev14.symm) hF
        have rzv14 : ∀ k j : Nat, ¬ ((k = k0 ∧ 3 ≤ j ∧ j ≤ 4) ∨ k = k0 + 1 ∨ k = k0 + 3) → v14.1 k j = v.1 k j := fun k j h => fz_u ev14 (by omega) (rB2_Z k j h)
        refine lv_aload_n hx hb dX8_keepDraft_34 rfl (lv_at hl 0 rfl) ?_
        refine lv_aload_n hx hb dX8_keepDraft_35 rfl (lv_at hl 0 rfl) ?_
        refine g_StarWalkModel_dWalkers E I h_k0.1 mw_4_177 dX8_keepDraft_36 ?_
        refine lv_topi (fun x15 ex15 => ?_)
        replace hF := xl_i (ex15) hF
        have hx15 := r_StarWalkModel_dWalkers I h_k0.1
        rw [← ex15] at hx15
        refine p_StarWalkModel_walkers E I h_k0.1 mw_4_174 (by omega) dX8_keepDraft_39 (fun H lo I => ?_)
        generalize ev16 : up1 v14 k0 4 x15 = v16 at I
        replace hF := xl_i (ev16.symm) hF
        have rzv16 : ∀ k j : Nat, ¬ ((k = k0 ∧ 3 ≤ j ∧ j ≤ 4) ∨ k = k0 + 1 ∨ k = k0 + 3) → v16.1 k j = v.1 k j := fun k j h => fz_u ev16 (by omega) (rzv14 k j h)
        refine lv_iconst (v := 0) hx hb dX8_keepDraft_42 (by decide) ?_
        refine lv_istore_n (lv' := [(1, .int 0), (0, .ref (wq w k0))]) hx hb dX8_keepDraft_43 rfl hl (by decide) rfl (fun ls hl => ?_)
        exact L_44 ((2147483647 - (0 : Int32).toInt).toNat + 1) _ _ v16 I (0 : Int32) (by decide) rzv16 hF (Nat.lt_succ_self _) ls (lv_sub hl [1, 0] rfl)
      ·
        replace hF := if_t c12 hF
        refine lv_aload_n hx hb dX8_keepDraft_8 rfl (lv_at hl 0 rfl) ?_
        refine g_StarWalkModel_st E I h_k0.1 mw_4_170 dX8_keepDraft_9 ?_
        refine lv_iload_n hx hb dX8_keepDraft_12 rfl (lv_at hl 1 rfl) ?_
        refine lv_aload_n hx hb dX8_keepDraft_13 rfl (lv_at hl 0 rfl) ?_
        refine g_StarWalkModel_draft E I h_k0.1 mw_4_175 dX8_keepDraft_14 ?_
        refine lv_iload_n hx hb dX8_keepDraft_17 rfl (lv_at hl 1 rfl) ?_
        refine ga_33 E I h_k0.2.2.2.2.1 (by omega) dX8_keepDraft_18 ?_
        refine lv_topi (fun x17 ex17 => ?_)
        replace hF := xl_i (ex17) hF
        have hx17 := ra_33 I h_k0.2.2.2.2.1 y2_1.toNatClampNeg
        rw [← ex17] at hx17
        have cix17 := cnI (x := y2_1) (by omega)
        simp only [okk] at hx17
        refine pa_30 E I h_k0.2.1 (by omega) (by have ci := cnI (x := y2_1) (by omega); simp only [okk]; omega) dX8_keepDraft_19 (fun H lo I => ?_)
        generalize ev18 : up1 v_2 (k0 + 1) y2_1.toNatClampNeg x17 = v18 at I
        replace hF := xl_i (ev18.symm) hF
        have rzv18 : ∀ k j : Nat, ¬ ((k = k0 ∧ 3 ≤ j ∧ j ≤ 4) ∨ k = k0 + 1 ∨ k = k0 + 3) → v18.1 k j = v.1 k j := fun k j h => fz_u ev18 (by have czy2_1 := cnI (x := y2_1) (by omega); omega) (rB2_Z k j h)
        obtain ⟨x19, ex19⟩ : ∃ z : Int32, z = y2_1 + 1 := ⟨_, rfl⟩
        replace hF := xl_i (ex19) hF
        have hx19 : x19.toInt = y2_1.toInt + (1) := by rw [ex19]; exact adI (a := y2_1.toInt) (b := 1) rfl rfl (by omega) (by omega)
        refine lv_iinc (v := x19) (lv' := [(1, .int x19), (0, .ref (wq w k0))]) hx hb dX8_keepDraft_20 hl (k := 1) rfl (by rw [ex19]; rfl) (by decide) rfl (fun ls hl => ?_)
        refine lv_goto (tgt := 2) hx hb dX8_keepDraft_23 (by decide) ?_
        exact ih_2 _ _ v18 I x19 (by omega) rzv18 hF (by omega) ls (lv_sub hl [1, 0] rfl)
  refine lv_iconst (v := 0) hx hb dX8_keepDraft_0 (by decide) ?_
  refine lv_istore_n (lv' := [(1, .int 0), (0, .ref (wq w k0))]) hx hb dX8_keepDraft_1 rfl hl (by decide) rfl (fun ls hl => ?_)
  exact L_2 ((2147483647 - (0 : Int32).toInt).toNat + 1) _ _ v I (0 : Int32) (by decide) rz0 hF (Nat.lt_succ_self _) ls (lv_sub hl [1, 0] rfl)
def F_X8_byteAt (k0 : Nat) (a0 : Int32) (v : St) : Int32 :=
xl (v.1 k0 12) fun x1 =>
if a0.toInt < x1.toInt then (
xl (v.1 (k0 + 5) a0.toNatClampNeg) fun x3 =>
x3) else (
(-1 : Int32))
set_option maxHeartbeats 4000000 in
set_option maxRecDepth 100000 in
theorem c_X8_byteAt (l : Launch) (w : Wp) (g : Nat → Nat → Int32) (v : St) (k0 : Nat) (a0 : Int32) (hq : Inj w) (hw : WF (wk w) g v) (h_k0 : oM w k0) (h_a0 : 0 ≤ a0.toInt) : CTi w l yX8_byteAt (wsy yX8_byteAt prog_10_method_10_code 2 (some .int)) (rmL 1) [.ref (wq w k0), .int a0] v (fun (r : Int32) (u : St) => (u = v ∧ (0 ≤ r.toInt → a0.toInt ≤ 159) ∧ (a0.toInt < (v.1 k0 12).toInt → r = v.1 (k0 + 5) a0.toNatClampNeg) ∧ (¬ a0.toInt < (v.1 k0 12).toInt → r.toInt = -1)) ∧ (r = F_X8_byteAt k0 a0 v) ∧ True) := by
  generalize hpost : (fun (r : Int32) (u : St) => (u = v ∧ (0 ≤ r.toInt → a0.toInt ≤ 159) ∧ (a0.toInt < (v.1 k0 12).toInt → r = v.1 (k0 + 5) a0.toNatClampNeg) ∧ (¬ a0.toInt < (v.1 k0 12).toInt → r.toInt = -1)) ∧ (r = F_X8_byteAt k0 a0 v) ∧ True) = post
  refine CTi.of prog_10_method_10_code 2 (some .int) "StarWalkModel" (by decide +kernel) rfl hq hw (Nat.le_of_ble_eq_true rfl) ?_
  intro pg en s m ar bl me cd ls E I hr hlk hl
  have hx := E.1.1
  have hb := E.1.2.1
  have hl : lv_has ls 2 [(0, .ref (wq w k0)), (1, .int a0)] := hl
  obtain ⟨res, hres⟩ : ∃ z, z = F_X8_byteAt k0 a0 v := ⟨_, rfl⟩
  have hF := hres.symm
  unfold F_X8_byteAt at hF
  replace hres : res = F_X8_byteAt k0 a0 v := hres
  refine lv_iload_n hx hb dX8_byteAt_0 rfl (lv_at hl 1 rfl) ?_
  refine lv_aload_n hx hb dX8_byteAt_1 rfl (lv_at hl 0 rfl) ?_
  refine g_StarWalkModel_taped E I h_k0.1 mw_4_182 dX8_byteAt_2 ?_
  refine lv_topi (fun x1 ex1 => ?_)
  replace hF := xl_i (ex1) hF
  have twx1 : x1.toInt = (v.1 k0 12).toInt := congrArg Int32.toInt ex1
  have hx1 := r_StarWalkModel_taped I h_k0.1
  rw [← ex1] at hx1
  refine bi_ge E (a := a0.toInt) (b := x1.toInt) rfl rfl (tgt := 17) dX8_byteAt_5 (by decide) (fun c2 => ?_) (fun c2 => ?_)
  ·
    have rga0 := i32_rng a0
    replace hF := if_l c2 hF
    refine lv_iconst (v := (-1)) hx hb dX8_byteAt_17 (by decide) ?_
    exact rI E I hr hlk rfl (by rw [← hpost]; exact ⟨⟨rfl, by have eL : (-1 : Int32).toInt = -1 := rfl; omega, fun h => by omega, fun _ => rfl⟩, hF.trans hres, trivial⟩) dX8_byteAt_18
  ·
    have rga0 := i32_rng a0
    replace hF := if_t c2 hF
    refine lv_aload_n hx hb dX8_byteAt_8 rfl (lv_at hl 0 rfl) ?_
    refine g_StarWalkModel_tape E I h_k0.1 mw_4_181 dX8_byteAt_9 ?_
    refine lv_iload_n hx hb dX8_byteAt_12 rfl (lv_at hl 1 rfl) ?_
    refine ga_34 E I h_k0.2.2.2.2.2.1 (by omega) dX8_byteAt_13 ?_
    refine lv_topi (fun x3 ex3 => ?_)
    replace hF := xl_i (ex3) hF
    refine lv_goto (tgt := 18) hx hb dX8_byteAt_14 (by decide) ?_
    exact rI E I hr hlk rfl (by rw [← hpost]; exact ⟨⟨rfl, by omega, fun _ => ex3, fun h => by omega⟩, hF.trans hres, trivial⟩) dX8_byteAt_18
def F_X8_is (k0 : Nat) (a0 : Int32) (a1 : Int32) (a2 : Int32) (a3 : Int32) (v : St) : Int32 :=
xl (v.1 k0 13) fun x1 =>
xl (v.1 k0 14) fun x2 =>
xl (x1 - x2) fun x3 =>
if x3.toInt = a0.toInt then (
xl (v.1 k0 14) fun x5 =>
xl (F_X8_byteAt k0 x5 v) fun r6 =>
if r6.toInt = a1.toInt then (
xl (v.1 k0 14) fun x10 =>
xl (x10 + (1 : Int32)) fun x11 =>
xl (F_X8_byteAt k0 x11 v) fun r12 =>
if r12.toInt = a2.toInt then (
xl (v.1 k0 14) fun x16 =>
xl (x16 + (2 : Int32)) fun x17 =>
xl (F_X8_byteAt k0 x17 v) fun r18 =>
if r18.toInt = a3.toInt then (
(1 : Int32)) else (
(0 : Int32))) else (
(0 : Int32))) else (
(0 : Int32))) else (
(0 : Int32))
set_option maxHeartbeats 4000000 in
set_option maxRecDepth 100000 in
theorem c_X8_is (l : Launch) (w : Wp) (g : Nat → Nat → Int32) (v : St) (k0 : Nat) (a0 : Int32) (a1 : Int32) (a2 : Int32) (a3 : Int32) (hq : Inj w) (hw : WF (wk w) g v) (h_k0 : oM w k0) : CTi w l yX8_is (wsy yX8_is prog_10_method_11_code 5 (some .boolean)) (rmL 2) [.ref (wq w k0), .int a0, .int a1, .int a2, .int a3] v (fun (r : Int32) (u : St) => (u = v ∧ 0 ≤ r.toInt ∧ r.toInt ≤ 1) ∧ (r = F_X8_is k0 a0 a1 a2 a3 v) ∧ True) := by
  generalize hpost : (fun (r : Int32) (u : St) => (u = v ∧ 0 ≤ r.toInt ∧ r.toInt ≤ 1) ∧ (r = F_X8_is k0 a0 a1 a2 a3 v) ∧ True) = post
  refine CTi.of prog_10_method_11_code 5 (some .boolean) "StarWalkModel" (by decide +kernel) rfl hq hw (Nat.le_of_ble_eq_true rfl) ?_
  intro pg en s m ar bl me cd ls E I hr hlk hl
  have hx := E.1.1
  have hb := E.1.2.1
  have hl : lv_has ls 5 [(0, .ref (wq w k0)), (1, .int a0), (2, .int a1), (3, .int a2), (4, .int a3)] := hl
  obtain ⟨res, hres⟩ : ∃ z, z = F_X8_is k0 a0 a1 a2 a3 v := ⟨_, rfl⟩
  have hF := hres.symm
  unfold F_X8_is at hF
  replace hres : res = F_X8_is k0 a0 a1 a2 a3 v := hres
  refine lv_aload_n hx hb dX8_is_0 rfl (lv_at hl 0 rfl) ?_
  refine g_StarWalkModel_pos E I h_k0.1 mw_4_183 dX8_is_1 ?_
  refine lv_topi (fun x1 ex1 => ?_)
  replace hF := xl_i (ex1) hF
  have hx1 := r_StarWalkModel_pos I h_k0.1
  rw [← ex1] at hx1
  refine lv_aload_n hx hb dX8_is_4 rfl (lv_at hl 0 rfl) ?_
  refine g_StarWalkModel_from E I h_k0.1 mw_4_184 dX8_is_5 ?_
  refine lv_topi (fun x2 ex2 => ?_)
  replace hF := xl_i (ex2) hF
  have hx2 := r_StarWalkModel_from I h_k0.1
  rw [← ex2] at hx2
  refine lv_isub hx hb dX8_is_8 ?_
  refine lv_topi (fun x3 ex3 => ?_)
  replace hF := xl_i (ex3) hF
  have hx3 : x3.toInt = x1.toInt - x2.toInt := by rw [ex3]; exact sbI (a := x1.toInt) (b := x2.toInt) rfl rfl (by omega) (by omega)
  refine lv_iload_n hx hb dX8_is_9 rfl (lv_at hl 1 rfl) ?_
  refine bi_ne E (a := x3.toInt) (b := a0.toInt) rfl rfl (tgt := 58) dX8_is_10 (by decide) (fun c4 => ?_) (fun c4 => ?_)
  ·
    replace hF := if_f c4 hF
    refine lv_iconst (v := 0) hx hb dX8_is_58 (by decide) ?_
    exact rI E I hr hlk rfl (by rw [← hpost]; exact ⟨⟨rfl, by have eL : (0 : Int32).toInt = 0 := rfl; omega⟩, hF.trans hres, trivial⟩) dX8_is_59
  ·
    replace hF := if_t c4 hF
    refine lv_aload_n hx hb dX8_is_13 rfl (lv_at hl 0 rfl) ?_
    refine lv_aload_n hx hb dX8_is_14 rfl (lv_at hl 0 rfl) ?_
    refine g_StarWalkModel_from E I h_k0.1 mw_4_184 dX8_is_15 ?_
    refine lv_topi (fun x5 ex5 => ?_)
    replace hF := xl_i (ex5) hF
    have hx5 := r_StarWalkModel_from I h_k0.1
    rw [← ex5] at hx5
    refine cVi E I (c_X8_byteAt l w g v k0 x5 E.2.2.1 I.2.2 h_k0 (by omega) ) (cwV 1 E.1.2.2.2.2 (gWs (C := "StarWalkModel") mw_5_44 mw_5_46 mw_s_29 mw_1_9 mw_5_47) rfl rfl rfl (by decide +kernel) ⟨by decide, by decide⟩) h_k0.1.1 ((ce_o h_k0.1.2).trans rfl) rfl rfl hl.1 rfl (Nat.le_of_ble_eq_true rfl) dX8_is_18 ⟨Nat.le_refl _, Nat.le_refl _⟩ (fun r6 u7 H lo hp hPS => ?_)
    obtain ⟨hp, hex, hfr⟩ := hp
    replace hF := xl_i hex hF
    obtain ⟨hu, p8⟩ := hp
    rw [hu] at hPS
    have I : Wo w g s.heap v H lo := ⟨hPS.1, hPS.2, I.2.2⟩
    refine lv_iload_n hx hb dX8_is_21 rfl (lv_at hl 2 rfl) ?_
    refine bi_ne E (a := r6.toInt) (b := a1.toInt) rfl rfl (tgt := 58) dX8_is_22 (by decide) (fun c9 => ?_) (fun c9 => ?_)
    ·
      replace hF := if_f c9 hF
      refine lv_iconst (v := 0) hx hb dX8_is_58 (by decide) ?_
      exact rI E I hr hlk rfl (by rw [← hpost]; exact ⟨⟨rfl, by have eL : (0 : Int32).toInt = 0 := rfl; omega⟩, hF.trans hres, trivial⟩) dX8_is_59
    ·
      replace hF := if_t c9 hF
      refine lv_aload_n hx hb dX8_is_25 rfl (lv_at hl 0 rfl) ?_
      refine lv_aload_n hx hb dX8_is_26 rfl (lv_at hl 0 rfl) ?_
      refine g_StarWalkModel_from E I h_k0.1 mw_4_184 dX8_is_27 ?_
      refine lv_topi (fun x10 ex10 => ?_)
      replace hF := xl_i (ex10) hF
      have hx10 := r_StarWalkModel_from I h_k0.1
      rw [← ex10] at hx10
      refine lv_iconst (v := 1) hx hb dX8_is_30 (by decide) ?_
      refine lv_iadd hx hb dX8_is_31 ?_
      refine lv_topi (fun x11 ex11 => ?_)
      replace hF := xl_i (ex11) hF
      have hx11 : x11.toInt = x10.toInt + 1 := by rw [ex11]; exact adI (a := x10.toInt) (b := 1) rfl rfl (by omega) (by omega)
      refine cVi E I (c_X8_byteAt l w g v k0 x11 E.2.2.1 I.2.2 h_k0 (by omega) ) (cwV 1 E.1.2.2.2.2 (gWs (C := "StarWalkModel") mw_5_44 mw_5_46 mw_s_29 mw_1_9 mw_5_47) rfl rfl rfl (by decide +kernel) ⟨by decide, by decide⟩) h_k0.1.1 ((ce_o h_k0.1.2).trans rfl) rfl rfl hl.1 rfl (Nat.le_of_ble_eq_true rfl) dX8_is_32 ⟨Nat.le_refl _, Nat.le_refl _⟩ (fun r12 u13 H lo hp hPS => ?_)
      obtain ⟨hp, hex, hfr⟩ := hp
      replace hF := xl_i hex hF
      obtain ⟨hu, p14⟩ := hp
      rw [hu] at hPS
      have I : Wo w g s.heap v H lo := ⟨hPS.1, hPS.2, I.2.2⟩
      refine lv_iload_n hx hb dX8_is_35 rfl (lv_at hl 3 rfl) ?_
      refine bi_ne E (a := r12.toInt) (b := a2.toInt) rfl rfl (tgt := 58) dX8_is_36 (by decide) (fun c15 => ?_) (fun c15 => ?_)
      ·
        replace hF := if_f c15 hF
        refine lv_iconst (v := 0) hx hb dX8_is_58 (by decide) ?_
        exact rI E I hr hlk rfl (by rw [← hpost]; exact ⟨⟨rfl, by have eL : (0 : Int32).toInt = 0 := rfl; omega⟩, hF.trans hres, trivial⟩) dX8_is_59
      ·
        replace hF := if_t c15 hF
        refine lv_aload_n hx hb dX8_is_39 rfl (lv_at hl 0 rfl) ?_
        refine lv_aload_n hx hb dX8_is_40 rfl (lv_at hl 0 rfl) ?_
        refine g_StarWalkModel_from E I h_k0.1 mw_4_184 dX8_is_41 ?_
        refine lv_topi (fun x16 ex16 => ?_)
        replace hF := xl_i (ex16) hF
        have hx16 := r_StarWalkModel_from I h_k0.1
        rw [← ex16] at hx16
        refine lv_iconst (v := 2) hx hb dX8_is_44 (by decide) ?_
        refine lv_iadd hx hb dX8_is_45 ?_
        refine lv_topi (fun x17 ex17 => ?_)
        replace hF := xl_i (ex17) hF
        have hx17 : x17.toInt = x16.toInt + 2 := by rw [ex17]; exact adI (a := x16.toInt) (b := 2) rfl rfl (by omega) (by omega)
        refine cVi E I (c_X8_byteAt l w g v k0 x17 E.2.2.1 I.2.2 h_k0 (by omega) ) (cwV 1 E.1.2.2.2.2 (gWs (C := "StarWalkModel") mw_5_44 mw_5_46 mw_s_29 mw_1_9 mw_5_47) rfl rfl rfl (by decide +kernel) ⟨by decide, by decide⟩) h_k0.1.1 ((ce_o h_k0.1.2).trans rfl) rfl rfl hl.1 rfl (Nat.le_of_ble_eq_true rfl) dX8_is_46 ⟨Nat.le_refl _, Nat.le_refl _⟩ (fun r18 u19 H lo hp hPS => ?_)
        obtain ⟨hp, hex, hfr⟩ := hp
        replace hF := xl_i hex hF
        obtain ⟨hu, p20⟩ := hp
        rw [hu] at hPS
        have I : Wo w g s.heap v H lo := ⟨hPS.1, hPS.2, I.2.2⟩
        refine lv_iload hx hb dX8_is_49 (lv_at hl 4 rfl) ?_
        refine bi_ne E (a := r18.toInt) (b := a3.toInt) rfl rfl (tgt := 58) dX8_is_51 (by decide) (fun c21 => ?_) (fun c21 => ?_)
        ·
          replace hF := if_f c21 hF
          refine lv_iconst (v := 0) hx hb dX8_is_58 (by decide) ?_
          exact rI E I hr hlk rfl (by rw [← hpost]; exact ⟨⟨rfl, by have eL : (0 : Int32).toInt = 0 := rfl; omega⟩, hF.trans hres, trivial⟩) dX8_is_59
        ·
          replace hF := if_t c21 hF
          refine lv_iconst (v := 1) hx hb dX8_is_54 (by decide) ?_
          refine lv_goto (tgt := 59) hx hb dX8_is_55 (by decide) ?_
          exact rI E I hr hlk rfl (by rw [← hpost]; exact ⟨⟨rfl, by have eL : (1 : Int32).toInt = 1 := rfl; omega⟩, hF.trans hres, trivial⟩) dX8_is_59
def F_X8_ends (k0 : Nat) (a0 : Int32) (a1 : Int32) (v : St) : Int32 :=
xl (v.1 k0 14) fun x1 =>
xl (x1 + (3 : Int32)) fun x2 =>
xl (F_X8_byteAt k0 x2 v) fun r3 =>
if r3.toInt = a0.toInt then (
if a1.toInt = 0 then (
(1 : Int32)) else (
xl (v.1 k0 14) fun x8 =>
xl (x8 + (4 : Int32)) fun x9 =>
xl (F_X8_byteAt k0 x9 v) fun r10 =>
if r10.toInt = a1.toInt then (
(1 : Int32)) else (
(0 : Int32)))) else (
(0 : Int32))
set_option maxHeartbeats 4000000 in
set_option maxRecDepth 100000 in
theorem c_X8_ends (l : Launch) (w : Wp) (g : Nat → Nat → Int32) (v : St) (k0 : Nat) (a0 : Int32) (a1 : Int32) (hq : Inj w) (hw : WF (wk w) g v) (h_k0 : oM w k0) : CTi w l yX8_ends (wsy yX8_ends prog_10_method_12_code 3 (some .boolean)) (rmL 2) [.ref (wq w k0), .int a0, .int a1] v (fun (r : Int32) (u : St) => (u = v ∧ 0 ≤ r.toInt ∧ r.toInt ≤ 1) ∧ (r = F_X8_ends k0 a0 a1 v) ∧ True) := by
  generalize hpost : (fun (r : Int32) (u : St) => (u = v ∧ 0 ≤ r.toInt ∧ r.toInt ≤ 1) ∧ (r = F_X8_ends k0 a0 a1 v) ∧ True) = post
  refine CTi.of prog_10_method_12_code 3 (some .boolean) "StarWalkModel" (by decide +kernel) rfl hq hw (Nat.le_of_ble_eq_true rfl) ?_
  intro pg en s m ar bl me cd ls E I hr hlk hl
  have hx := E.1.1
  have hb := E.1.2.1
  have hl : lv_has ls 3 [(0, .ref (wq w k0)), (1, .int a0), (2, .int a1)] := hl
  obtain ⟨res, hres⟩ : ∃ z, z = F_X8_ends k0 a0 a1 v := ⟨_, rfl⟩
  have hF := hres.symm
  unfold F_X8_ends at hF
  replace hres : res = F_X8_ends k0 a0 a1 v := hres
  refine lv_aload_n hx hb dX8_ends_0 rfl (lv_at hl 0 rfl) ?_
  refine lv_aload_n hx hb dX8_ends_1 rfl (lv_at hl 0 rfl) ?_
  refine g_StarWalkModel_from E I h_k0.1 mw_4_184 dX8_ends_2 ?_
  refine lv_topi (fun x1 ex1 => ?_)
  replace hF := xl_i (ex1) hF
  have hx1 := r_StarWalkModel_from I h_k0.1
  rw [← ex1] at hx1
  refine lv_iconst (v := 3) hx hb dX8_ends_5 (by decide) ?_
  refine lv_iadd hx hb dX8_ends_6 ?_
  refine lv_topi (fun x2 ex2 => ?_)
  replace hF := xl_i (ex2) hF
  have hx2 : x2.toInt = x1.toInt + 3 := by rw [ex2]; exact adI (a := x1.toInt) (b := 3) rfl rfl (by omega) (by omega)
  refine cVi E I (c_X8_byteAt l w g v k0 x2 E.2.2.1 I.2.2 h_k0 (by omega) ) (cwV 1 E.1.2.2.2.2 (gWs (C := "StarWalkModel") mw_5_44 mw_5_46 mw_s_29 mw_1_9 mw_5_47) rfl rfl rfl (by decide +kernel) ⟨by decide, by decide⟩) h_k0.1.1 ((ce_o h_k0.1.2).trans rfl) rfl rfl hl.1 rfl (Nat.le_of_ble_eq_true rfl) dX8_ends_7 ⟨Nat.le_refl _, Nat.le_refl _⟩ (fun r3 u4 H lo hp hPS => ?_)
  obtain ⟨hp, hex, hfr⟩ := hp
  replace hF := xl_i hex hF
  obtain ⟨hu, p5⟩ := hp
  rw [hu] at hPS
  have I : Wo w g s.heap v H lo := ⟨hPS.1, hPS.2, I.2.2⟩
  refine lv_iload_n hx hb dX8_ends_10 rfl (lv_at hl 1 rfl) ?_
  refine bi_ne E (a := r3.toInt) (b := a0.toInt) rfl rfl (tgt := 36) dX8_ends_11 (by decide) (fun c6 => ?_) (fun c6 => ?_)
  ·
    replace hF := if_f c6 hF
    refine lv_iconst (v := 0) hx hb dX8_ends_36 (by decide) ?_
    exact rI E I hr hlk rfl (by rw [← hpost]; exact ⟨⟨rfl, by have eL : (0 : Int32).toInt = 0 := rfl; omega⟩, hF.trans hres, trivial⟩) dX8_ends_37
  ·
    replace hF := if_t c6 hF
    refine lv_iload_n hx hb dX8_ends_14 rfl (lv_at hl 2 rfl) ?_
    refine bz_eq E (a := a1.toInt) rfl (tgt := 32) dX8_ends_15 (by decide) (fun c7 => ?_) (fun c7 => ?_)
    ·
      replace hF := if_t c7 hF
      refine lv_iconst (v := 1) hx hb dX8_ends_32 (by decide) ?_
      refine lv_goto (tgt := 37) hx hb dX8_ends_33 (by decide) ?_
      exact rI E I hr hlk rfl (by rw [← hpost]; exact ⟨⟨rfl, by have eL : (1 : Int32).toInt = 1 := rfl; omega⟩, hF.trans hres, trivial⟩) dX8_ends_37
    ·
      replace hF := if_f c7 hF
      refine lv_aload_n hx hb dX8_ends_18 rfl (lv_at hl 0 rfl) ?_
      refine lv_aload_n hx hb dX8_ends_19 rfl (lv_at hl 0 rfl) ?_
      refine g_StarWalkModel_from E I h_k0.1 mw_4_184 dX8_ends_20 ?_
      refine lv_topi (fun x8 ex8 => ?_)
      replace hF := xl_i (ex8) hF
      have hx8 := r_StarWalkModel_from I h_k0.1
      rw [← ex8] at hx8
      refine lv_iconst (v := 4) hx hb dX8_ends_23 (by decide) ?_
      refine lv_iadd hx hb dX8_ends_24 ?_
      refine lv_topi (fun x9 ex9 => ?_)
      replace hF := xl_i (ex9) hF
      have hx9 : x9.toInt = x8.toInt + 4 := by rw [ex9]; exact adI (a := x8.toInt) (b := 4) rfl rfl (by omega) (by omega)
      refine cVi E I (c_X8_byteAt l w g v k0 x9 E.2.2.1 I.2.2 h_k0 (by omega) ) (cwV 1 E.1.2.2.2.2 (gWs (C := "StarWalkModel") mw_5_44 mw_5_46 mw_s_29 mw_1_9 mw_5_47) rfl rfl rfl (by decide +kernel) ⟨by decide, by decide⟩) h_k0.1.1 ((ce_o h_k0.1.2).trans rfl) rfl rfl hl.1 rfl (Nat.le_of_ble_eq_true rfl) dX8_ends_25 ⟨Nat.le_refl _, Nat.le_refl _⟩ (fun r10 u11 H lo hp hPS => ?_)
      obtain ⟨hp, hex, hfr⟩ := hp
      replace hF := xl_i hex hF
      obtain ⟨hu, p12⟩ := hp
      rw [hu] at hPS
      have I : Wo w g s.heap v H lo := ⟨hPS.1, hPS.2, I.2.2⟩
      refine lv_iload_n hx hb dX8_ends_28 rfl (lv_at hl 2 rfl) ?_
      refine bi_ne E (a := r10.toInt) (b := a1.toInt) rfl rfl (tgt := 36) dX8_ends_29 (by decide) (fun c13 => ?_) (fun c13 => ?_)
      ·
        replace hF := if_f c13 hF
        refine lv_iconst (v := 0) hx hb dX8_ends_36 (by decide) ?_
        exact rI E I hr hlk rfl (by rw [← hpost]; exact ⟨⟨rfl, by have eL : (0 : Int32).toInt = 0 := rfl; omega⟩, hF.trans hres, trivial⟩) dX8_ends_37
      ·
        replace hF := if_t c13 hF
        refine lv_iconst (v := 1) hx hb dX8_ends_32 (by decide) ?_
        refine lv_goto (tgt := 37) hx hb dX8_ends_33 (by decide) ?_
        exact rI E I hr hlk rfl (by rw [← hpost]; exact ⟨⟨rfl, by have eL : (1 : Int32).toInt = 1 := rfl; omega⟩, hF.trans hres, trivial⟩) dX8_ends_37
def F_X8_lineNow (k0 : Nat) (v : St) : Int32 :=
xl (xl (F_X8_is k0 (4 : Int32) (112 : Int32) (108 : Int32) (97 : Int32) v) fun r1 =>
if r1.toInt = 0 then (
(-4 : Int32)) else (
xl (F_X8_ends k0 (110 : Int32) (0 : Int32) v) fun r5 =>
if r5.toInt = 0 then (
(-4 : Int32)) else (
(10 : Int32)))) fun J_272 =>
xl (xl (F_X8_is k0 (5 : Int32) (119 : Int32) (97 : Int32) (116 : Int32) v) fun r9 =>
if r9.toInt = 0 then (
(J_272 )) else (
xl (F_X8_ends k0 (101 : Int32) (114 : Int32) v) fun r13 =>
if r13.toInt = 0 then (
(J_272 )) else (
(9 : Int32)))) fun J_242 =>
xl (xl (F_X8_is k0 (4 : Int32) (119 : Int32) (105 : Int32) (110 : Int32) v) fun r17 =>
if r17.toInt = 0 then (
(J_242 )) else (
xl (F_X8_ends k0 (100 : Int32) (0 : Int32) v) fun r21 =>
if r21.toInt = 0 then (
(J_242 )) else (
(8 : Int32)))) fun J_215 =>
xl (xl (F_X8_is k0 (4 : Int32) (119 : Int32) (101 : Int32) (108 : Int32) v) fun r25 =>
if r25.toInt = 0 then (
(J_215 )) else (
xl (F_X8_ends k0 (108 : Int32) (0 : Int32) v) fun r29 =>
if r29.toInt = 0 then (
(J_215 )) else (
(7 : Int32)))) fun J_188 =>
xl (xl (F_X8_is k0 (5 : Int32) (99 : Int32) (108 : Int32) (111 : Int32) v) fun r33 =>
if r33.toInt = 0 then (
(J_188 )) else (
xl (F_X8_ends k0 (117 : Int32) (100 : Int32) v) fun r37 =>
if r37.toInt = 0 then (
(J_188 )) else (
(6 : Int32)))) fun J_160 =>
xl (xl (F_X8_is k0 (5 : Int32) (107 : Int32) (110 : Int32) (111 : Int32) v) fun r41 =>
if r41.toInt = 0 then (
(J_160 )) else (
xl (F_X8_ends k0 (119 : Int32) (110 : Int32) v) fun r45 =>
if r45.toInt = 0 then (
(J_160 )) else (
(5 : Int32)))) fun J_133 =>
xl (xl (F_X8_is k0 (4 : Int32) (115 : Int32) (116 : Int32) (97 : Int32) v) fun r49 =>
if r49.toInt = 0 then (
(J_133 )) else (
xl (F_X8_ends k0 (114 : Int32) (0 : Int32) v) fun r53 =>
if r53.toInt = 0 then (
(J_133 )) else (
(4 : Int32)))) fun J_107 =>
xl (xl (F_X8_is k0 (5 : Int32) (103 : Int32) (117 : Int32) (105 : Int32) v) fun r57 =>
if r57.toInt = 0 then (
(J_107 )) else (
xl (F_X8_ends k0 (100 : Int32) (101 : Int32) v) fun r61 =>
if r61.toInt = 0 then (
(J_107 )) else (
(3 : Int32)))) fun J_80 =>
xl (xl (F_X8_is k0 (5 : Int32) (116 : Int32) (105 : Int32) (114 : Int32) v) fun r65 =>
if r65.toInt = 0 then (
(J_80 )) else (
xl (F_X8_ends k0 (101 : Int32) (100 : Int32) v) fun r69 =>
if r69.toInt = 0 then (
(J_80 )) else (
(2 : Int32)))) fun J_53 =>
xl (xl (F_X8_is k0 (4 : Int32) (108 : Int32) (97 : Int32) (109 : Int32) v) fun r73 =>
if r73.toInt = 0 then (
(J_53 )) else (
xl (F_X8_ends k0 (101 : Int32) (0 : Int32) v) fun r77 =>
if r77.toInt = 0 then (
(J_53 )) else (
(1 : Int32)))) fun J_27 =>
xl (F_X8_is k0 (5 : Int32) (112 : Int32) (108 : Int32) (97 : Int32) v) fun r81 =>
if r81.toInt = 0 then (
(J_27 )) else (
xl (F_X8_ends k0 (105 : Int32) (110 : Int32) v) fun r85 =>
if r85.toInt = 0 then (
(J_27 )) else (
(0 : Int32)))
set_option maxHeartbeats 4000000 in
set_option maxRecDepth 100000 in
theorem c_X8_lineNow (l : Launch) (w : Wp) (g : Nat → Nat → Int32) (v : St) (k0 : Nat) (hq : Inj w) (hw : WF (wk w) g v) (h_k0 : oM w k0) : CTi w l yX8_lineNow (wsy yX8_lineNow prog_10_method_13_code 1 (some .int)) (rmL 3) [.ref (wq w k0)] v (fun (r : Int32) (u : St) => (u = v ∧ (r.toInt = -4 ∨ 0 ≤ r.toInt) ∧ -4 ≤ r.toInt ∧ r.toInt ≤ 10) ∧ (r = F_X8_lineNow k0 v) ∧ True) := by
  generalize hpost : (fun (r : Int32) (u : St) => (u = v ∧ (r.toInt = -4 ∨ 0 ≤ r.toInt) ∧ -4 ≤ r.toInt ∧ r.toInt ≤ 10) ∧ (r = F_X8_lineNow k0 v) ∧ True) = post
  refine CTi.of prog_10_method_13_code 1 (some .int) "StarWalkModel" (by decide +kernel) rfl hq hw (Nat.le_of_ble_eq_true rfl) ?_
  intro pg en s m ar bl me cd ls E I hr hlk hl
  have hx := E.1.1
  have hb := E.1.2.1
  have hl : lv_has ls 1 [(0, .ref (wq w k0))] := hl
  obtain ⟨res, hres⟩ : ∃ z, z = F_X8_lineNow k0 v := ⟨_, rfl⟩
  have hF := hres.symm
  unfold F_X8_lineNow at hF
  replace hres : res = F_X8_lineNow k0 v := hres
  obtain ⟨J_272, eJ_272, hF⟩ := xl_e hF
  have B_272 : ∀ (H : Heap) (lo : List Loc), Wo w g s.heap v H lo → (J_272  = res) → ∀ (ls : Array Slot), lv_has ls 1 [(0, .ref (wq w k0))] → W pg l en (rmL 3) s m ar bl me cd H lo 0 0 (Zi w bl ar s post) (F0 m 272 ls []) := by
    intro H lo  I  hF ls hl
    replace hF := ap0 eJ_272 hF
    refine lv_aload_n hx hb dX8_lineNow_272 rfl (lv_at hl 0 rfl) ?_
    refine lv_iconst (v := 4) hx hb dX8_lineNow_273 (by decide) ?_
    refine lv_bipush (v := 112) hx hb dX8_lineNow_274 (by decide) ?_
    refine lv_bipush (v := 108) hx hb dX8_lineNow_276 (by decide) ?_
    refine lv_bipush (v := 97) hx hb dX8_lineNow_278 (by decide) ?_
    refine cVi E I (c_X8_is l w g v k0 (4 : Int32) (112 : Int32) (108 : Int32) (97 : Int32) E.2.2.1 I.2.2 h_k0  ) (cwV 4 E.1.2.2.2.2 (gWs (C := "StarWalkModel") mw_5_64 mw_5_66 mw_s_33 mw_1_9 mw_5_67) rfl rfl rfl (by decide +kernel) ⟨by decide, by decide⟩) h_k0.1.1 ((ce_o h_k0.1.2).trans rfl) rfl rfl hl.1 rfl (Nat.le_of_ble_eq_true rfl) dX8_lineNow_280 ⟨Nat.le_refl _, Nat.le_refl _⟩ (fun r1 u2 H lo hp hPS => ?_)
    obtain ⟨hp, hex, hfr⟩ := hp
    replace hF := xl_i hex hF
    obtain ⟨hu, p3⟩ := hp
    rw [hu] at hPS
    have I : Wo w g s.heap v H lo := ⟨hPS.1, hPS.2, I.2.2⟩
    refine bz_eq E (a := r1.toInt) rfl (tgt := 301) dX8_lineNow_283 (by decide) (fun c4 => ?_) (fun c4 => ?_)
    ·
      replace hF := if_t c4 hF
      refine lv_bipush (v := (-4)) hx hb dX8_lineNow_301 (by decide) ?_
      exact rI E I hr hlk rfl (by rw [← hpost]; exact ⟨⟨rfl, by have eL : (-4 : Int32).toInt = (-4) := rfl; omega⟩, hF.trans hres, trivial⟩) dX8_lineNow_303
    ·
      replace hF := if_f c4 hF
      refine lv_aload_n hx hb dX8_lineNow_286 rfl (lv_at hl 0 rfl) ?_
      refine lv_bipush (v := 110) hx hb dX8_lineNow_287 (by decide) ?_
      refine lv_iconst (v := 0) hx hb dX8_lineNow_289 (by decide) ?_
      refine cVi E I (c_X8_ends l w g v k0 (110 : Int32) (0 : Int32) E.2.2.1 I.2.2 h_k0  ) (cwV 2 E.1.2.2.2.2 (gWs (C := "StarWalkModel") mw_5_68 mw_5_70 mw_s_34 mw_1_9 mw_5_71) rfl rfl rfl (by decide +kernel) ⟨by decide, by decide⟩) h_k0.1.1 ((ce_o h_k0.1.2).trans rfl) rfl rfl hl.1 rfl (Nat.le_of_ble_eq_true rfl) dX8_lineNow_290 ⟨Nat.le_refl _, Nat.le_refl _⟩ (fun r5 u6 H lo hp hPS => ?_)
      obtain ⟨hp, hex, hfr⟩ := hp
      replace hF := xl_i hex hF
      obtain ⟨hu, p7⟩ := hp
      rw [hu] at hPS
      have I : Wo w g s.heap v H lo := ⟨hPS.1, hPS.2, I.2.2⟩
      refine bz_eq E (a := r5.toInt) rfl (tgt := 301) dX8_lineNow_293 (by decide) (fun c8 => ?_) (fun c8 => ?_)
      ·
        replace hF := if_t c8 hF
        refine lv_bipush (v := (-4)) hx hb dX8_lineNow_301 (by decide) ?_
        exact rI E I hr hlk rfl (by rw [← hpost]; exact ⟨⟨rfl, by have eL : (-4 : Int32).toInt = (-4) := rfl; omega⟩, hF.trans hres, trivial⟩) dX8_lineNow_303
      ·
        replace hF := if_f c8 hF
        refine lv_bipush (v := 10) hx hb dX8_lineNow_296 (by decide) ?_
        refine lv_goto (tgt := 303) hx hb dX8_lineNow_298 (by decide) ?_
        exact rI E I hr hlk rfl (by rw [← hpost]; exact ⟨⟨rfl, by have eL : (10 : Int32).toInt = 10 := rfl; omega⟩, hF.trans hres, trivial⟩) dX8_lineNow_303
  obtain ⟨J_242, eJ_242, hF⟩ := xl_e hF
  have B_242 : ∀ (H : Heap) (lo : List Loc), Wo w g s.heap v H lo → (J_242  = res) → ∀ (ls : Array Slot), lv_has ls 1 [(0, .ref (wq w k0))] → W pg l en (rmL 3) s m ar bl me cd H lo 0 0 (Zi w bl ar s post) (F0 m 242 ls []) := by
    intro H lo  I  hF ls hl
    replace hF := ap0 eJ_242 hF
    refine lv_aload_n hx hb dX8_lineNow_242 rfl (lv_at hl 0 rfl) ?_
    refine lv_iconst (v := 5) hx hb dX8_lineNow_243 (by decide) ?_
    refine lv_bipush (v := 119) hx hb dX8_lineNow_244 (by decide) ?_
    refine lv_bipush (v := 97) hx hb dX8_lineNow_246 (by decide) ?_
    refine lv_bipush (v := 116) hx hb dX8_lineNow_248 (by decide) ?_
    refine cVi E I (c_X8_is l w g v k0 (5 : Int32) (119 : Int32) (97 : Int32) (116 : Int32) E.2.2.1 I.2.2 h_k0  ) (cwV 4 E.1.2.2.2.2 (gWs (C := "StarWalkModel") mw_5_64 mw_5_66 mw_s_33 mw_1_9 mw_5_67) rfl rfl rfl (by decide +kernel) ⟨by decide, by decide⟩) h_k0.1.1 ((ce_o h_k0.1.2).trans rfl) rfl rfl hl.1 rfl (Nat.le_of_ble_eq_true rfl) dX8_lineNow_250 ⟨Nat.le_refl _, Nat.le_refl _⟩ (fun r9 u10 H lo hp hPS => ?_)
    obtain ⟨hp, hex, hfr⟩ := hp
    replace hF := xl_i hex hF
    obtain ⟨hu, p11⟩ := hp
    rw [hu] at hPS
    have I : Wo w g s.heap v H lo := ⟨hPS.1, hPS.2, I.2.2⟩
    refine bz_eq E (a := r9.toInt) rfl (tgt := 272) dX8_lineNow_253 (by decide) (fun c12 => ?_) (fun c12 => ?_)
    ·
      replace hF := if_t c12 hF
      exact B_272 _ _ I   hF ls (lv_sub hl [0] rfl)
    ·
      replace hF := if_f c12 hF
      refine lv_aload_n hx hb dX8_lineNow_256 rfl (lv_at hl 0 rfl) ?_
      refine lv_bipush (v := 101) hx hb dX8_lineNow_257 (by decide) ?_
      refine lv_bipush (v := 114) hx hb dX8_lineNow_259 (by decide) ?_
      refine cVi E I (c_X8_ends l w g v k0 (101 : Int32) (114 : Int32) E.2.2.1 I.2.2 h_k0  ) (cwV 2 E.1.2.2.2.2 (gWs (C := "StarWalkModel") mw_5_68 mw_5_70 mw_s_34 mw_1_9 mw_5_71) rfl rfl rfl (by decide +kernel) ⟨by decide, by decide⟩) h_k0.1.1 ((ce_o h_k0.1.2).trans rfl) rfl rfl hl.1 rfl (Nat.le_of_ble_eq_true rfl) dX8_lineNow_261 ⟨Nat.le_refl _, Nat.le_refl _⟩ (fun r13 u14 H lo hp hPS => ?_)
      obtain ⟨hp, hex, hfr⟩ := hp
      replace hF := xl_i hex hF
      obtain ⟨hu, p15⟩ := hp
      rw [hu] at hPS
      have I : Wo w g s.heap v H lo := ⟨hPS.1, hPS.2, I.2.2⟩
      refine bz_eq E (a := r13.toInt) rfl (tgt := 272) dX8_lineNow_264 (by decide) (fun c16 => ?_) (fun c16 => ?_)
      ·
        replace hF := if_t c16 hF
        exact B_272 _ _ I   hF ls (lv_sub hl [0] rfl)
      ·
        replace hF := if_f c16 hF
        refine lv_bipush (v := 9) hx hb dX8_lineNow_267 (by decide) ?_
        refine lv_goto (tgt := 303) hx hb dX8_lineNow_269 (by decide) ?_
        exact rI E I hr hlk rfl (by rw [← hpost]; exact ⟨⟨rfl, by have eL : (9 : Int32).toInt = 9 := rfl; omega⟩, hF.trans hres, trivial⟩) dX8_lineNow_303
  obtain ⟨J_215, eJ_215, hF⟩ := xl_e hF
  have B_215 : ∀ (H : Heap) (lo : List Loc), Wo w g s.heap v H lo → (J_215  = res) → ∀ (ls : Array Slot), lv_has ls 1 [(0, .ref (wq w k0))] → W pg l en (rmL 3) s m ar bl me cd H lo 0 0 (Zi w bl ar s post) (F0 m 215 ls []) := by
    intro H lo  I  hF ls hl
    replace hF := ap0 eJ_215 hF
    refine lv_aload_n hx hb dX8_lineNow_215 rfl (lv_at hl 0 rfl) ?_
    refine lv_iconst (v := 4) hx hb dX8_lineNow_216 (by decide) ?_
    refine lv_bipush (v := 119) hx hb dX8_lineNow_217 (by decide) ?_
    refine lv_bipush (v := 105) hx hb dX8_lineNow_219 (by decide) ?_
    refine lv_bipush (v := 110) hx hb dX8_lineNow_221 (by decide) ?_
    refine cVi E I (c_X8_is l w g v k0 (4 : Int32) (119 : Int32) (105 : Int32) (110 : Int32) E.2.2.1 I.2.2 h_k0  ) (cwV 4 E.1.2.2.2.2 (gWs (C := "StarWalkModel") mw_5_64 mw_5_66 mw_s_33 mw_1_9 mw_5_67) rfl rfl rfl (by decide +kernel) ⟨by decide, by decide⟩) h_k0.1.1 ((ce_o h_k0.1.2).trans rfl) rfl rfl hl.1 rfl (Nat.le_of_ble_eq_true rfl) dX8_lineNow_223 ⟨Nat.le_refl _, Nat.le_refl _⟩ (fun r17 u18 H lo hp hPS => ?_)
    obtain ⟨hp, hex, hfr⟩ := hp
    replace hF := xl_i hex hF
    obtain ⟨hu, p19⟩ := hp
    rw [hu] at hPS
    have I : Wo w g s.heap v H lo := ⟨hPS.1, hPS.2, I.2.2⟩
    refine bz_eq E (a := r17.toInt) rfl (tgt := 242) dX8_lineNow_226 (by decide) (fun c20 => ?_) (fun c20 => ?_)
    ·
      replace hF := if_t c20 hF
      exact B_242 _ _ I   hF ls (lv_sub hl [0] rfl)
    ·
      replace hF := if_f c20 hF
      refine lv_aload_n hx hb dX8_lineNow_229 rfl (lv_at hl 0 rfl) ?_
      refine lv_bipush (v := 100) hx hb dX8_lineNow_230 (by decide) ?_
      refine lv_iconst (v := 0) hx hb dX8_lineNow_232 (by decide) ?_
      refine cVi E I (c_X8_ends l w g v k0 (100 : Int32) (0 : Int32) E.2.2.1 I.2.2 h_k0  ) (cwV 2 E.1.2.2.2.2 (gWs (C := "StarWalkModel") mw_5_68 mw_5_70 mw_s_34 mw_1_9 mw_5_71) rfl rfl rfl (by decide +kernel) ⟨by decide, by decide⟩) h_k0.1.1 ((ce_o h_k0.1.2).trans rfl) rfl rfl hl.1 rfl (Nat.le_of_ble_eq_true rfl) dX8_lineNow_233 ⟨Nat.le_refl _, Nat.le_refl _⟩ (fun r21 u22 H lo hp hPS => ?_)
      obtain ⟨hp, hex, hfr⟩ := hp
      replace hF := xl_i hex hF
      obtain ⟨hu, p23⟩ := hp
      rw [hu] at hPS
      have I : Wo w g s.heap v H lo := ⟨hPS.1, hPS.2, I.2.2⟩
      refine bz_eq E (a := r21.toInt) rfl (tgt := 242) dX8_lineNow_236 (by decide) (fun c24 => ?_) (fun c24 => ?_)
      ·
        replace hF := if_t c24 hF
        exact B_242 _ _ I   hF ls (lv_sub hl [0] rfl)
      ·
        replace hF := if_f c24 hF
        refine lv_bipush (v := 8) hx hb dX8_lineNow_239 (by decide) ?_
        exact rI E I hr hlk rfl (by rw [← hpost]; exact ⟨⟨rfl, by have eL : (8 : Int32).toInt = 8 := rfl; omega⟩, hF.trans hres, trivial⟩) dX8_lineNow_241
  obtain ⟨J_188, eJ_188, hF⟩ := xl_e hF
  have B_188 : ∀ (H : Heap) (lo : List Loc), Wo w g s.heap v H lo → (J_188  = res) → ∀ (ls : Array Slot), lv_has ls 1 [(0, .ref (wq w k0))] → W pg l en (rmL 3) s m ar bl me cd H lo 0 0 (Zi w bl ar s post) (F0 m 188 ls []) := by
    intro H lo  I  hF ls hl
    replace hF := ap0 eJ_188 hF
    refine lv_aload_n hx hb dX8_lineNow_188 rfl (lv_at hl 0 rfl) ?_
    refine lv_iconst (v := 4) hx hb dX8_lineNow_189 (by decide) ?_
    refine lv_bipush (v := 119) hx hb dX8_lineNow_190 (by decide) ?_
    refine lv_bipush (v := 101) hx hb dX8_lineNow_192 (by decide) ?_
    refine lv_bipush (v := 108) hx hb dX8_lineNow_194 (by decide) ?_
    refine cVi E I (c_X8_is l w g v k0 (4 : Int32) (119 : Int32) (101 : Int32) (108 : Int32) E.2.2.1 I.2.2 h_k0  ) (cwV 4 E.1.2.2.2.2 (gWs (C := "StarWalkModel") mw_5_64 mw_5_66 mw_s_33 mw_1_9 mw_5_67) rfl rfl rfl (by decide +kernel) ⟨by decide, by decide⟩) h_k0.1.1 ((ce_o h_k0.1.2).trans rfl) rfl rfl hl.1 rfl (Nat.le_of_ble_eq_true rfl) dX8_lineNow_196 ⟨Nat.le_refl _, Nat.le_refl _⟩ (fun r25 u26 H lo hp hPS => ?_)
    obtain ⟨hp, hex, hfr⟩ := hp
    replace hF := xl_i hex hF
    obtain ⟨hu, p27⟩ := hp
    rw [hu] at hPS
    have I : Wo w g s.heap v H lo := ⟨hPS.1, hPS.2, I.2.2⟩
    refine bz_eq E (a := r25.toInt) rfl (tgt := 215) dX8_lineNow_199 (by decide) (fun c28 => ?_) (fun c28 => ?_)
    ·
      replace hF := if_t c28 hF
      exact B_215 _ _ I   hF ls (lv_sub hl [0] rfl)
    ·
      replace hF := if_f c28 hF
      refine lv_aload_n hx hb dX8_lineNow_202 rfl (lv_at hl 0 rfl) ?_
      refine lv_bipush (v := 108) hx hb dX8_lineNow_203 (by decide) ?_
      refine lv_iconst (v := 0) hx hb dX8_lineNow_205 (by decide) ?_
      refine cVi E I (c_X8_ends l w g v k0 (108 : Int32) (0 : Int32) E.2.2.1 I.2.2 h_k0  ) (cwV 2 E.1.2.2.2.2 (gWs (C := "StarWalkModel") mw_5_68 mw_5_70 mw_s_34 mw_1_9 mw_5_71) rfl rfl rfl (by decide +kernel) ⟨by decide, by decide⟩) h_k0.1.1 ((ce_o h_k0.1.2).trans rfl) rfl rfl hl.1 rfl (Nat.le_of_ble_eq_true rfl) dX8_lineNow_206 ⟨Nat.le_refl _, Nat.le_refl _⟩ (fun r29 u30 H lo hp hPS => ?_)
      obtain ⟨hp, hex, hfr⟩ := hp
      replace hF := xl_i hex hF
      obtain ⟨hu, p31⟩ := hp
      rw [hu] at hPS
      have I : Wo w g s.heap v H lo := ⟨hPS.1, hPS.2, I.2.2⟩
      refine bz_eq E (a := r29.toInt) rfl (tgt := 215) dX8_lineNow_209 (by decide) (fun c32 => ?_) (fun c32 => ?_)
      ·
        replace hF := if_t c32 hF
        exact B_215 _ _ I   hF ls (lv_sub hl [0] rfl)
      ·
        replace hF := if_f c32 hF
        refine lv_bipush (v := 7) hx hb dX8_lineNow_212 (by decide) ?_
        exact rI E I hr hlk rfl (by rw [← hpost]; exact ⟨⟨rfl, by have eL : (7 : Int32).toInt = 7 := rfl; omega⟩, hF.trans hres, trivial⟩) dX8_lineNow_214
  obtain ⟨J_160, eJ_160, hF⟩ := xl_e hF
  have B_160 : ∀ (H : Heap) (lo : List Loc), Wo w g s.heap v H lo → (J_160  = res) → ∀ (ls : Array Slot), lv_has ls 1 [(0, .ref (wq w k0))] → W pg l en (rmL 3) s m ar bl me cd H lo 0 0 (Zi w bl ar s post) (F0 m 160 ls []) := by
    intro H lo  I  hF ls hl
    replace hF := ap0 eJ_160 hF
    refine lv_aload_n hx hb dX8_lineNow_160 rfl (lv_at hl 0 rfl) ?_
    refine lv_iconst (v := 5) hx hb dX8_lineNow_161 (by decide) ?_
    refine lv_bipush (v := 99) hx hb dX8_lineNow_162 (by decide) ?_
    refine lv_bipush (v := 108) hx hb dX8_lineNow_164 (by decide) ?_
    refine lv_bipush (v := 111) hx hb dX8_lineNow_166 (by decide) ?_
    refine cVi E I (c_X8_is l w g v k0 (5 : Int32) (99 : Int32) (108 : Int32) (111 : Int32) E.2.2.1 I.2.2 h_k0  ) (cwV 4 E.1.2.2.2.2 (gWs (C := "StarWalkModel") mw_5_64 mw_5_66 mw_s_33 mw_1_9 mw_5_67) rfl rfl rfl (by decide +kernel) ⟨by decide, by decide⟩) h_k0.1.1 ((ce_o h_k0.1.2).trans rfl) rfl rfl hl.1 rfl (Nat.le_of_ble_eq_true rfl) dX8_lineNow_168 ⟨Nat.le_refl _, Nat.le_refl _⟩ (fun r33 u34 H lo hp hPS => ?_)
    obtain ⟨hp, hex, hfr⟩ := hp
    replace hF := xl_i hex hF
    obtain ⟨hu, p35⟩ := hp
    rw [hu] at hPS
    have I : Wo w g s.heap v H lo := ⟨hPS.1, hPS.2, I.2.2⟩
    refine bz_eq E (a := r33.toInt) rfl (tgt := 188) dX8_lineNow_171 (by decide) (fun c36 => ?_) (fun c36 => ?_)
    ·
      replace hF := if_t c36 hF
      exact B_188 _ _ I   hF ls (lv_sub hl [0] rfl)
    ·
      replace hF := if_f c36 hF
      refine lv_aload_n hx hb dX8_lineNow_174 rfl (lv_at hl 0 rfl) ?_
      refine lv_bipush (v := 117) hx hb dX8_lineNow_175 (by decide) ?_
      refine lv_bipush (v := 100) hx hb dX8_lineNow_177 (by decide) ?_
      refine cVi E I (c_X8_ends l w g v k0 (117 : Int32) (100 : Int32) E.2.2.1 I.2.2 h_k0  ) (cwV 2 E.1.2.2.2.2 (gWs (C := "StarWalkModel") mw_5_68 mw_5_70 mw_s_34 mw_1_9 mw_5_71) rfl rfl rfl (by decide +kernel) ⟨by decide, by decide⟩) h_k0.1.1 ((ce_o h_k0.1.2).trans rfl) rfl rfl hl.1 rfl (Nat.le_of_ble_eq_true rfl) dX8_lineNow_179 ⟨Nat.le_refl _, Nat.le_refl _⟩ (fun r37 u38 H lo hp hPS => ?_)
      obtain ⟨hp, hex, hfr⟩ := hp
      replace hF := xl_i hex hF
      obtain ⟨hu, p39⟩ := hp
      rw [hu] at hPS
      have I : Wo w g s.heap v H lo := ⟨hPS.1, hPS.2, I.2.2⟩
      refine bz_eq E (a := r37.toInt) rfl (tgt := 188) dX8_lineNow_182 (by decide) (fun c40 => ?_) (fun c40 => ?_)
      ·
        replace hF := if_t c40 hF
        exact B_188 _ _ I   hF ls (lv_sub hl [0] rfl)
      ·
        replace hF := if_f c40 hF
        refine lv_bipush (v := 6) hx hb dX8_lineNow_185 (by decide) ?_
        exact rI E I hr hlk rfl (by rw [← hpost]; exact ⟨⟨rfl, by have eL : (6 : Int32).toInt = 6 := rfl; omega⟩, hF.trans hres, trivial⟩) dX8_lineNow_187
  obtain ⟨J_133, eJ_133, hF⟩ := xl_e hF
  have B_133 : ∀ (H : Heap) (lo : List Loc), Wo w g s.heap v H lo → (J_133  = res) → ∀ (ls : Array Slot), lv_has ls 1 [(0, .ref (wq w k0))] → W pg l en (rmL 3) s m ar bl me cd H lo 0 0 (Zi w bl ar s post) (F0 m 133 ls []) := by
    intro H lo  I  hF ls hl
    replace hF := ap0 eJ_133 hF
    refine lv_aload_n hx hb dX8_lineNow_133 rfl (lv_at hl 0 rfl) ?_
    refine lv_iconst (v := 5) hx hb dX8_lineNow_134 (by decide) ?_
    refine lv_bipush (v := 107) hx hb dX8_lineNow_135 (by decide) ?_
    refine lv_bipush (v := 110) hx hb dX8_lineNow_137 (by decide) ?_
    refine lv_bipush (v := 111) hx hb dX8_lineNow_139 (by decide) ?_
    refine cVi E I (c_X8_is l w g v k0 (5 : Int32) (107 : Int32) (110 : Int32) (111 : Int32) E.2.2.1 I.2.2 h_k0  ) (cwV 4 E.1.2.2.2.2 (gWs (C := "StarWalkModel") mw_5_64 mw_5_66 mw_s_33 mw_1_9 mw_5_67) rfl rfl rfl (by decide +kernel) ⟨by decide, by decide⟩) h_k0.1.1 ((ce_o h_k0.1.2).trans rfl) rfl rfl hl.1 rfl (Nat.le_of_ble_eq_true rfl) dX8_lineNow_141 ⟨Nat.le_refl _, Nat.le_refl _⟩ (fun r41 u42 H lo hp hPS => ?_)
    obtain ⟨hp, hex, hfr⟩ := hp
    replace hF := xl_i hex hF
    obtain ⟨hu, p43⟩ := hp
    rw [hu] at hPS
    have I : Wo w g s.heap v H lo := ⟨hPS.1, hPS.2, I.2.2⟩
    refine bz_eq E (a := r41.toInt) rfl (tgt := 160) dX8_lineNow_144 (by decide) (fun c44 => ?_) (fun c44 => ?_)
    ·
      replace hF := if_t c44 hF
      exact B_160 _ _ I   hF ls (lv_sub hl [0] rfl)
    ·
      replace hF := if_f c44 hF
      refine lv_aload_n hx hb dX8_lineNow_147 rfl (lv_at hl 0 rfl) ?_
      refine lv_bipush (v := 119) hx hb dX8_lineNow_148 (by decide) ?_
      refine lv_bipush (v := 110) hx hb dX8_lineNow_150 (by decide) ?_
      refine cVi E I (c_X8_ends l w g v k0 (119 : Int32) (110 : Int32) E.2.2.1 I.2.2 h_k0  ) (cwV 2 E.1.2.2.2.2 (gWs (C := "StarWalkModel") mw_5_68 mw_5_70 mw_s_34 mw_1_9 mw_5_71) rfl rfl rfl (by decide +kernel) ⟨by decide, by decide⟩) h_k0.1.1 ((ce_o h_k0.1.2).trans rfl) rfl rfl hl.1 rfl (Nat.le_of_ble_eq_true rfl) dX8_lineNow_152 ⟨Nat.le_refl _, Nat.le_refl _⟩ (fun r45 u46 H lo hp hPS => ?_)
      obtain ⟨hp, hex, hfr⟩ := hp
      replace hF := xl_i hex hF
      obtain ⟨hu, p47⟩ := hp
      rw [hu] at hPS
      have I : Wo w g s.heap v H lo := ⟨hPS.1, hPS.2, I.2.2⟩
      refine bz_eq E (a := r45.toInt) rfl (tgt := 160) dX8_lineNow_155 (by decide) (fun c48 => ?_) (fun c48 => ?_)
      ·
        replace hF := if_t c48 hF
        exact B_160 _ _ I   hF ls (lv_sub hl [0] rfl)
      ·
        replace hF := if_f c48 hF
        refine lv_iconst (v := 5) hx hb dX8_lineNow_158 (by decide) ?_
        exact rI E I hr hlk rfl (by rw [← hpost]; exact ⟨⟨rfl, by have eL : (5 : Int32).toInt = 5 := rfl; omega⟩, hF.trans hres, trivial⟩) dX8_lineNow_159
  obtain ⟨J_107, eJ_107, hF⟩ := xl_e hF
  have B_107 : ∀ (H : Heap) (lo : List Loc), Wo w g s.heap v H lo → (J_107  = res) → ∀ (ls : Array Slot), lv_has ls 1 [(0, .ref (wq w k0))] → W pg l en (rmL 3) s m ar bl me cd H lo 0 0 (Zi w bl ar s post) (F0 m 107 ls []) := by
    intro H lo  I  hF ls hl
    replace hF := ap0 eJ_107 hF
    refine lv_aload_n hx hb dX8_lineNow_107 rfl (lv_at hl 0 rfl) ?_
    refine lv_iconst (v := 4) hx hb dX8_lineNow_108 (by decide) ?_
    refine lv_bipush (v := 115) hx hb dX8_lineNow_109 (by decide) ?_
    refine lv_bipush (v := 116) hx hb dX8_lineNow_111 (by decide) ?_
    refine lv_bipush (v := 97) hx hb dX8_lineNow_113 (by decide) ?_
    refine cVi E I (c_X8_is l w g v k0 (4 : Int32) (115 : Int32) (116 : Int32) (97 : Int32) E.2.2.1 I.2.2 h_k0  ) (cwV 4 E.1.2.2.2.2 (gWs (C := "StarWalkModel") mw_5_64 mw_5_66 mw_s_33 mw_1_9 mw_5_67) rfl rfl rfl (by decide +kernel) ⟨by decide, by decide⟩) h_k0.1.1 ((ce_o h_k0.1.2).trans rfl) rfl rfl hl.1 rfl (Nat.le_of_ble_eq_true rfl) dX8_lineNow_115 ⟨Nat.le_refl _, Nat.le_refl _⟩ (fun r49 u50 H lo hp hPS => ?_)
    obtain ⟨hp, hex, hfr⟩ := hp
    replace hF := xl_i hex hF
    obtain ⟨hu, p51⟩ := hp
    rw [hu] at hPS
    have I : Wo w g s.heap v H lo := ⟨hPS.1, hPS.2, I.2.2⟩
    refine bz_eq E (a := r49.toInt) rfl (tgt := 133) dX8_lineNow_118 (by decide) (fun c52 => ?_) (fun c52 => ?_)
    ·
      replace hF := if_t c52 hF
      exact B_133 _ _ I   hF ls (lv_sub hl [0] rfl)
    ·
      replace hF := if_f c52 hF
      refine lv_aload_n hx hb dX8_lineNow_121 rfl (lv_at hl 0 rfl) ?_
      refine lv_bipush (v := 114) hx hb dX8_lineNow_122 (by decide) ?_
      refine lv_iconst (v := 0) hx hb dX8_lineNow_124 (by decide) ?_
      refine cVi E I (c_X8_ends l w g v k0 (114 : Int32) (0 : Int32) E.2.2.1 I.2.2 h_k0  ) (cwV 2 E.1.2.2.2.2 (gWs (C := "StarWalkModel") mw_5_68 mw_5_70 mw_s_34 mw_1_9 mw_5_71) rfl rfl rfl (by decide +kernel) ⟨by decide, by decide⟩) h_k0.1.1 ((ce_o h_k0.1.2).trans rfl) rfl rfl hl.1 rfl (Nat.le_of_ble_eq_true rfl) dX8_lineNow_125 ⟨Nat.le_refl _, Nat.le_refl _⟩ (fun r53 u54 H lo hp hPS => ?_)
      obtain ⟨hp, hex, hfr⟩ := hp
      replace hF := xl_i hex hF
      obtain ⟨hu, p55⟩ := hp
      rw [hu] at hPS
      have I : Wo w g s.heap v H lo := ⟨hPS.1, hPS.2, I.2.2⟩
      refine bz_eq E (a := r53.toInt) rfl (tgt := 133) dX8_lineNow_128 (by decide) (fun c56 => ?_) (fun c56 => ?_)
      ·
        replace hF := if_t c56 hF
        exact B_133 _ _ I   hF ls (lv_sub hl [0] rfl)
      ·
        replace hF := if_f c56 hF
        refine lv_iconst (v := 4) hx hb dX8_lineNow_131 (by decide) ?_
        exact rI E I hr hlk rfl (by rw [← hpost]; exact ⟨⟨rfl, by have eL : (4 : Int32).toInt = 4 := rfl; omega⟩, hF.trans hres, trivial⟩) dX8_lineNow_132
  obtain ⟨J_80, eJ_80, hF⟩ := xl_e hF
  have B_80 : ∀ (H : Heap) (lo : List Loc), Wo w g s.heap v H lo → (J_80  = res) → ∀ (ls : Array Slot), lv_has ls 1 [(0, .ref (wq w k0))] → W pg l en (rmL 3) s m ar bl me cd H lo 0 0 (Zi w bl ar s post) (F0 m 80 ls []) := by
    intro H lo  I  hF ls hl
    replace hF := ap0 eJ_80 hF
    refine lv_aload_n hx hb dX8_lineNow_80 rfl (lv_at hl 0 rfl) ?_
    refine lv_iconst (v := 5) hx hb dX8_lineNow_81 (by decide) ?_
    refine lv_bipush (v := 103) hx hb dX8_lineNow_82 (by decide) ?_
    refine lv_bipush (v := 117) hx hb dX8_lineNow_84 (by decide) ?_
    refine lv_bipush (v := 105) hx hb dX8_lineNow_86 (by decide) ?_
    refine cVi E I (c_X8_is l w g v k0 (5 : Int32) (103 : Int32) (117 : Int32) (105 : Int32) E.2.2.1 I.2.2 h_k0  ) (cwV 4 E.1.2.2.2.2 (gWs (C := "StarWalkModel") mw_5_64 mw_5_66 mw_s_33 mw_1_9 mw_5_67) rfl rfl rfl (by decide +kernel) ⟨by decide, by decide⟩) h_k0.1.1 ((ce_o h_k0.1.2).trans rfl) rfl rfl hl.1 rfl (Nat.le_of_ble_eq_true rfl) dX8_lineNow_88 ⟨Nat.le_refl _, Nat.le_refl _⟩ (fun r57 u58 H lo hp hPS => ?_)
    obtain ⟨hp, hex, hfr⟩ := hp
    replace hF := xl_i hex hF
    obtain ⟨hu, p59⟩ := hp
    rw [hu] at hPS
    have I : Wo w g s.heap v H lo := ⟨hPS.1, hPS.2, I.2.2⟩
    refine bz_eq E (a := r57.toInt) rfl (tgt := 107) dX8_lineNow_91 (by decide) (fun c60 => ?_) (fun c60 => ?_)
    ·
      replace hF := if_t c60 hF
      exact B_107 _ _ I   hF ls (lv_sub hl [0] rfl)
    ·
      replace hF := if_f c60 hF
      refine lv_aload_n hx hb dX8_lineNow_94 rfl (lv_at hl 0 rfl) ?_
      refine lv_bipush (v := 100) hx hb dX8_lineNow_95 (by decide) ?_
      refine lv_bipush (v := 101) hx hb dX8_lineNow_97 (by decide) ?_
      refine cVi E I (c_X8_ends l w g v k0 (100 : Int32) (101 : Int32) E.2.2.1 I.2.2 h_k0  ) (cwV 2 E.1.2.2.2.2 (gWs (C := "StarWalkModel") mw_5_68 mw_5_70 mw_s_34 mw_1_9 mw_5_71) rfl rfl rfl (by decide +kernel) ⟨by decide, by decide⟩) h_k0.1.1 ((ce_o h_k0.1.2).trans rfl) rfl rfl hl.1 rfl (Nat.le_of_ble_eq_true rfl) dX8_lineNow_99 ⟨Nat.le_refl _, Nat.le_refl _⟩ (fun r61 u62 H lo hp hPS => ?_)
      obtain ⟨hp, hex, hfr⟩ := hp
      replace hF := xl_i hex hF
      obtain ⟨hu, p63⟩ := hp
      rw [hu] at hPS
      have I : Wo w g s.heap v H lo := ⟨hPS.1, hPS.2, I.2.2⟩
      refine bz_eq E (a := r61.toInt) rfl (tgt := 107) dX8_lineNow_102 (by decide) (fun c64 => ?_) (fun c64 => ?_)
      ·
        replace hF := if_t c64 hF
        exact B_107 _ _ I   hF ls (lv_sub hl [0] rfl)
      ·
        replace hF := if_f c64 hF
        refine lv_iconst (v := 3) hx hb dX8_lineNow_105 (by decide) ?_
        exact rI E I hr hlk rfl (by rw [← hpost]; exact ⟨⟨rfl, by have eL : (3 : Int32).toInt = 3 := rfl; omega⟩, hF.trans hres, trivial⟩) dX8_lineNow_106
  obtain ⟨J_53, eJ_53, hF⟩ := xl_e hF
  have B_53 : ∀ (H : Heap) (lo : List Loc), Wo w g s.heap v H lo → (J_53  = res) → ∀ (ls : Array Slot), lv_has ls 1 [(0, .ref (wq w k0))] → W pg l en (rmL 3) s m ar bl me cd H lo 0 0 (Zi w bl ar s post) (F0 m 53 ls []) := by
    intro H lo  I  hF ls hl
    replace hF := ap0 eJ_53 hF
    refine lv_aload_n hx hb dX8_lineNow_53 rfl (lv_at hl 0 rfl) ?_
    refine lv_iconst (v := 5) hx hb dX8_lineNow_54 (by decide) ?_
    refine lv_bipush (v := 116) hx hb dX8_lineNow_55 (by decide) ?_
    refine lv_bipush (v := 105) hx hb dX8_lineNow_57 (by decide) ?_
    refine lv_bipush (v := 114) hx hb dX8_lineNow_59 (by decide) ?_
    refine cVi E I (c_X8_is l w g v k0 (5 : Int32) (116 : Int32) (105 : Int32) (114 : Int32) E.2.2.1 I.2.2 h_k0  ) (cwV 4 E.1.2.2.2.2 (gWs (C := "StarWalkModel") mw_5_64 mw_5_66 mw_s_33 mw_1_9 mw_5_67) rfl rfl rfl (by decide +kernel) ⟨by decide, by decide⟩) h_k0.1.1 ((ce_o h_k0.1.2).trans rfl) rfl rfl hl.1 rfl (Nat.le_of_ble_eq_true rfl) dX8_lineNow_61 ⟨Nat.le_refl _, Nat.le_refl _⟩ (fun r65 u66 H lo hp hPS => ?_)
    obtain ⟨hp, hex, hfr⟩ := hp
    replace hF := xl_i hex hF
    obtain ⟨hu, p67⟩ := hp
    rw [hu] at hPS
    have I : Wo w g s.heap v H lo := ⟨hPS.1, hPS.2, I.2.2⟩
    refine bz_eq E (a := r65.toInt) rfl (tgt := 80) dX8_lineNow_64 (by decide) (fun c68 => ?_) (fun c68 => ?_)
    ·
      replace hF := if_t c68 hF
      exact B_80 _ _ I   hF ls (lv_sub hl [0] rfl)
    ·
      replace hF := if_f c68 hF
      refine lv_aload_n hx hb dX8_lineNow_67 rfl (lv_at hl 0 rfl) ?_
      refine lv_bipush (v := 101) hx hb dX8_lineNow_68 (by decide) ?_
      refine lv_bipush (v := 100) hx hb dX8_lineNow_70 (by decide) ?_
      refine cVi E I (c_X8_ends l w g v k0 (101 : Int32) (100 : Int32) E.2.2.1 I.2.2 h_k0  ) (cwV 2 E.1.2.2.2.2 (gWs (C := "StarWalkModel") mw_5_68 mw_5_70 mw_s_34 mw_1_9 mw_5_71) rfl rfl rfl (by decide +kernel) ⟨by decide, by decide⟩) h_k0.1.1 ((ce_o h_k0.1.2).trans rfl) rfl rfl hl.1 rfl (Nat.le_of_ble_eq_true rfl) dX8_lineNow_72 ⟨Nat.le_refl _, Nat.le_refl _⟩ (fun r69 u70 H lo hp hPS => ?_)
      obtain ⟨hp, hex, hfr⟩ := hp
      replace hF := xl_i hex hF
      obtain ⟨hu, p71⟩ := hp
      rw [hu] at hPS
      have I : Wo w g s.heap v H lo := ⟨hPS.1, hPS.2, I.2.2⟩
      refine bz_eq E (a := r69.toInt) rfl (tgt := 80) dX8_lineNow_75 (by decide) (fun c72 => ?_) (fun c72 => ?_)
      ·
        replace hF := if_t c72 hF
        exact B_80 _ _ I   hF ls (lv_sub hl [0] rfl)
      ·
        replace hF := if_f c72 hF
        refine lv_iconst (v := 2) hx hb dX8_lineNow_78 (by decide) ?_
        exact rI E I hr hlk rfl (by rw [← hpost]; exact ⟨⟨rfl, by have eL : (2 : Int32).toInt = 2 := rfl; omega⟩, hF.trans hres, trivial⟩) dX8_lineNow_79
  obtain ⟨J_27, eJ_27, hF⟩ := xl_e hF
  have B_27 : ∀ (H : Heap) (lo : List Loc), Wo w g s.heap v H lo → (J_27  = res) → ∀ (ls : Array Slot), lv_has ls 1 [(0, .ref (wq w k0))] → W pg l en (rmL 3) s m ar bl me cd H lo 0 0 (Zi w bl ar s post) (F0 m 27 ls []) := by
    intro H lo  I  hF ls hl
    replace hF := ap0 eJ_27 hF
    refine lv_aload_n hx hb dX8_lineNow_27 rfl (lv_at hl 0 rfl) ?_
    refine lv_iconst (v := 4) hx hb dX8_lineNow_28 (by decide) ?_
    refine lv_bipush (v := 108) hx hb dX8_lineNow_29 (by decide) ?_
    refine lv_bipush (v := 97) hx hb dX8_lineNow_31 (by decide) ?_
    refine lv_bipush (v := 109) hx hb dX8_lineNow_33 (by decide) ?_
    refine cVi E I (c_X8_is l w g v k0 (4 : Int32) (108 : Int32) (97 : Int32) (109 : Int32) E.2.2.1 I.2.2 h_k0  ) (cwV 4 E.1.2.2.2.2 (gWs (C := "StarWalkModel") mw_5_64 mw_5_66 mw_s_33 mw_1_9 mw_5_67) rfl rfl rfl (by decide +kernel) ⟨by decide, by decide⟩) h_k0.1.1 ((ce_o h_k0.1.2).trans rfl) rfl rfl hl.1 rfl (Nat.le_of_ble_eq_true rfl) dX8_lineNow_35 ⟨Nat.le_refl _, Nat.le_refl _⟩ (fun r73 u74 H lo hp hPS => ?_)
    obtain ⟨hp, hex, hfr⟩ := hp
    replace hF := xl_i hex hF
    obtain ⟨hu, p75⟩ := hp
    rw [hu] at hPS
    have I : Wo w g s.heap v H lo := ⟨hPS.1, hPS.2, I.2.2⟩
    refine bz_eq E (a := r73.toInt) rfl (tgt := 53) dX8_lineNow_38 (by decide) (fun c76 => ?_) (fun c76 => ?_)
    ·
      replace hF := if_t c76 hF
      exact B_53 _ _ I   hF ls (lv_sub hl [0] rfl)
    ·
      replace hF := if_f c76 hF
      refine lv_aload_n hx hb dX8_lineNow_41 rfl (lv_at hl 0 rfl) ?_
      refine lv_bipush (v := 101) hx hb dX8_lineNow_42 (by decide) ?_
      refine lv_iconst (v := 0) hx hb dX8_lineNow_44 (by decide) ?_
      refine cVi E I (c_X8_ends l w g v k0 (101 : Int32) (0 : Int32) E.2.2.1 I.2.2 h_k0  ) (cwV 2 E.1.2.2.2.2 (gWs (C := "StarWalkModel") mw_5_68 mw_5_70 mw_s_34 mw_1_9 mw_5_71) rfl rfl rfl (by decide +kernel) ⟨by decide, by decide⟩) h_k0.1.1 ((ce_o h_k0.1.2).trans rfl) rfl rfl hl.1 rfl (Nat.le_of_ble_eq_true rfl) dX8_lineNow_45 ⟨Nat.le_refl _, Nat.le_refl _⟩ (fun r77 u78 H lo hp hPS => ?_)
      obtain ⟨hp, hex, hfr⟩ := hp
      replace hF := xl_i hex hF
      obtain ⟨hu, p79⟩ := hp
      rw [hu] at hPS
      have I : Wo w g s.heap v H lo := ⟨hPS.1, hPS.2, I.2.2⟩
      refine bz_eq E (a := r77.toInt) rfl (tgt := 53) dX8_lineNow_48 (by decide) (fun c80 => ?_) (fun c80 => ?_)
      ·
        replace hF := if_t c80 hF
        exact B_53 _ _ I   hF ls (lv_sub hl [0] rfl)
      ·
        replace hF := if_f c80 hF
        refine lv_iconst (v := 1) hx hb dX8_lineNow_51 (by decide) ?_
        exact rI E I hr hlk rfl (by rw [← hpost]; exact ⟨⟨rfl, by have eL : (1 : Int32).toInt = 1 := rfl; omega⟩, hF.trans hres, trivial⟩) dX8_lineNow_52
  refine lv_aload_n hx hb dX8_lineNow_0 rfl (lv_at hl 0 rfl) ?_
  refine lv_iconst (v := 5) hx hb dX8_lineNow_1 (by decide) ?_
  refine lv_bipush (v := 112) hx hb dX8_lineNow_2 (by decide) ?_
  refine lv_bipush (v := 108) hx hb dX8_lineNow_4 (by decide) ?_
  refine lv_bipush (v := 97) hx hb dX8_lineNow_6 (by decide) ?_
  refine cVi E I (c_X8_is l w g v k0 (5 : Int32) (112 : Int32) (108 : Int32) (97 : Int32) E.2.2.1 I.2.2 h_k0  ) (cwV 4 E.1.2.2.2.2 (gWs (C := "StarWalkModel") mw_5_64 mw_5_66 mw_s_33 mw_1_9 mw_5_67) rfl rfl rfl (by decide +kernel) ⟨by decide, by decide⟩) h_k0.1.1 ((ce_o h_k0.1.2).trans rfl) rfl rfl hl.1 rfl (Nat.le_of_ble_eq_true rfl) dX8_lineNow_8 ⟨Nat.le_refl _, Nat.le_refl _⟩ (fun r81 u82 H lo hp hPS => ?_)
  obtain ⟨hp, hex, hfr⟩ := hp
  replace hF := xl_i hex hF
  obtain ⟨hu, p83⟩ := hp
  rw [hu] at hPS
  have I : Wo w g s.heap v H lo := ⟨hPS.1, hPS.2, I.2.2⟩
  refine bz_eq E (a := r81.toInt) rfl (tgt := 27) dX8_lineNow_11 (by decide) (fun c84 => ?_) (fun c84 => ?_)
  ·
    replace hF := if_t c84 hF
    exact B_27 _ _ I   hF ls (lv_sub hl [0] rfl)
  ·
    replace hF := if_f c84 hF
    refine lv_aload_n hx hb dX8_lineNow_14 rfl (lv_at hl 0 rfl) ?_
    refine lv_bipush (v := 105) hx hb dX8_lineNow_15 (by decide) ?_
    refine lv_bipush (v := 110) hx hb dX8_lineNow_17 (by decide) ?_
    refine cVi E I (c_X8_ends l w g v k0 (105 : Int32) (110 : Int32) E.2.2.1 I.2.2 h_k0  ) (cwV 2 E.1.2.2.2.2 (gWs (C := "StarWalkModel") mw_5_68 mw_5_70 mw_s_34 mw_1_9 mw_5_71) rfl rfl rfl (by decide +kernel) ⟨by decide, by decide⟩) h_k0.1.1 ((ce_o h_k0.1.2).trans rfl) rfl rfl hl.1 rfl (Nat.le_of_ble_eq_true rfl) dX8_lineNow_19 ⟨Nat.le_refl _, Nat.le_refl _⟩ (fun r85 u86 H lo hp hPS => ?_)
    obtain ⟨hp, hex, hfr⟩ := hp
    replace hF := xl_i hex hF
    obtain ⟨hu, p87⟩ := hp
    rw [hu] at hPS
    have I : Wo w g s.heap v H lo := ⟨hPS.1, hPS.2, I.2.2⟩
    refine bz_eq E (a := r85.toInt) rfl (tgt := 27) dX8_lineNow_22 (by decide) (fun c88 => ?_) (fun c88 => ?_)
    ·
      replace hF := if_t c88 hF
      exact B_27 _ _ I   hF ls (lv_sub hl [0] rfl)
    ·
      replace hF := if_f c88 hF
      refine lv_iconst (v := 0) hx hb dX8_lineNow_25 (by decide) ?_
      exact rI E I hr hlk rfl (by rw [← hpost]; exact ⟨⟨rfl, by have eL : (0 : Int32).toInt = 0 := rfl; omega⟩, hF.trans hres, trivial⟩) dX8_lineNow_26
def F_X8_fault (k0 : Nat) (v : St) : Int32 :=
xl (v.1 k0 17) fun x1 =>
x1
set_option maxHeartbeats 4000000 in
set_option maxRecDepth 100000 in
theorem c_X8_fault (l : Launch) (w : Wp) (g : Nat → Nat → Int32) (v : St) (k0 : Nat) (hq : Inj w) (hw : WF (wk w) g v) (h_k0 : oM w k0) : CTi w l yX8_fault (wsy yX8_fault prog_10_method_24_code 1 (some .int)) (rmL 1) [.ref (wq w k0)] v (fun (r : Int32) (u : St) => (u = v ∧ True) ∧ (r = F_X8_fault k0 v) ∧ True) := by
  generalize hpost : (fun (r : Int32) (u : St) => (u = v ∧ True) ∧ (r = F_X8_fault k0 v) ∧ True) = post
  refine CTi.of prog_10_method_24_code 1 (some .int) "StarWalkModel" (by decide +kernel) rfl hq hw (Nat.le_of_ble_eq_true rfl) ?_
  intro pg en s m ar bl me cd ls E I hr hlk hl
  have hx := E.1.1
  have hb := E.1.2.1
  have hl : lv_has ls 1 [(0, .ref (wq w k0))] := hl
  obtain ⟨res, hres⟩ : ∃ z, z = F_X8_fault k0 v := ⟨_, rfl⟩
  have hF := hres.symm
  unfold F_X8_fault at hF
  replace hres : res = F_X8_fault k0 v := hres
  refine lv_aload_n hx hb dX8_fault_0 rfl (lv_at hl 0 rfl) ?_
  refine g_StarWalkModel_fault E I h_k0.1 mw_4_187 dX8_fault_1 ?_
  refine lv_topi (fun x1 ex1 => ?_)
  replace hF := xl_i (ex1) hF
  have hx1 := r_StarWalkModel_fault I h_k0.1
  rw [← ex1] at hx1
  exact rI E I hr hlk rfl (by rw [← hpost]; exact ⟨⟨rfl, trivial⟩, hF.trans hres, trivial⟩) dX8_fault_4
def F_X8_isStar (k0 : Nat) (a0 : Int32) (v : St) : Int32 :=
xl (v.1 k0 3) fun x2 =>
xl (x2 - (1 : Int32)) fun x3 =>
xl (F_X8_in a0.toInt64 (0 : Int64) x3.toInt64 v) fun r5 =>
r5
set_option maxHeartbeats 4000000 in
set_option maxRecDepth 100000 in
theorem c_X8_isStar (l : Launch) (w : Wp) (g : Nat → Nat → Int32) (v : St) (k0 : Nat) (a0 : Int32) (hq : Inj w) (hw : WF (wk w) g v) (h_k0 : oM w k0) : CTi w l yX8_isStar (wsy yX8_isStar prog_10_method_25_code 2 (some .boolean)) (rmL 2) [.ref (wq w k0), .int a0] v (fun (r : Int32) (u : St) => (u = v ∧ 0 ≤ r.toInt ∧ r.toInt ≤ 1 ∧ (¬ r.toInt = 0 → 0 ≤ a0.toInt ∧ a0.toInt ≤ 4)) ∧ (r = F_X8_isStar k0 a0 v) ∧ True) := by
  generalize hpost : (fun (r : Int32) (u : St) => (u = v ∧ 0 ≤ r.toInt ∧ r.toInt ≤ 1 ∧ (¬ r.toInt = 0 → 0 ≤ a0.toInt ∧ a0.toInt ≤ 4)) ∧ (r = F_X8_isStar k0 a0 v) ∧ True) = post
  refine CTi.of prog_10_method_25_code 2 (some .boolean) "StarWalkModel" (by decide +kernel) rfl hq hw (Nat.le_of_ble_eq_true rfl) ?_
  intro pg en s m ar bl me cd ls E I hr hlk hl
  have hx := E.1.1
  have hb := E.1.2.1
  have hl : lv_has ls 2 [(0, .ref (wq w k0)), (1, .int a0)] := hl
  obtain ⟨res, hres⟩ : ∃ z, z = F_X8_isStar k0 a0 v := ⟨_, rfl⟩
  have hF := hres.symm
  unfold F_X8_isStar at hF
  replace hres : res = F_X8_isStar k0 a0 v := hres
  refine lv_iload_n hx hb dX8_isStar_0 rfl (lv_at hl 1 rfl) ?_
  refine lv_i2l (v := a0.toInt64) hx hb dX8_isStar_1 rfl ?_
  refine lv_lconst (v := 0) hx hb dX8_isStar_2 (by decide) ?_
  refine lv_aload_n hx hb dX8_isStar_3 rfl (lv_at hl 0 rfl) ?_
  refine g_StarWalkModel_stars E I h_k0.1 mw_4_173 dX8_isStar_4 ?_
  refine lv_topi (fun x2 ex2 => ?_)
  replace hF := xl_i (ex2) hF
  have hx2 := r_StarWalkModel_stars I h_k0.1
  rw [← ex2] at hx2
  refine lv_iconst (v := 1) hx hb dX8_isStar_7 (by decide) ?_
  refine lv_isub hx hb dX8_isStar_8 ?_
  refine lv_topi (fun x3 ex3 => ?_)
  replace hF := xl_i (ex3) hF
  have hx3 : x3.toInt = x2.toInt - 1 := by rw [ex3]; exact sbI (a := x2.toInt) (b := 1) rfl rfl (by omega) (by omega)
  refine lv_i2l (v := x3.toInt64) hx hb dX8_isStar_9 rfl ?_
  refine cSi E I (c_X8_in l w g v a0.toInt64 (0 : Int64) x3.toInt64 E.2.2.1 I.2.2   ) (va_cwS 3 E.1.2.2.2.2 (gSs mw_5_29 mw_5_30 mw_1_9 mw_5_31) rfl rfl rfl (by decide +kernel) ⟨by decide, by decide⟩) rfl hl.1 rfl (Nat.le_of_ble_eq_true rfl) dX8_isStar_10 ⟨Nat.le_refl _, Nat.le_refl _⟩ (fun r5 u6 H lo hp hPS => ?_)
  have iz7 := i64_of a0
  have iz8 : (0 : Int64).toInt = 0 := rfl
  have iz9 := i64_of x3
  obtain ⟨hp, hex, hfr⟩ := hp
  replace hF := xl_i hex hF
  obtain ⟨hu, p10⟩ := hp
  rw [hu] at hPS
  have I : Wo w g s.heap v H lo := ⟨hPS.1, hPS.2, I.2.2⟩
  exact rI E I hr hlk (nbI (by omega)) (by rw [← hpost]; exact ⟨⟨rfl, by omega⟩, hF.trans hres, trivial⟩) dX8_isStar_13
def F_X8_isWalker (k0 : Nat) (a0 : Int32) (v : St) : Int32 :=
xl (v.1 k0 4) fun x2 =>
xl (x2 - (1 : Int32)) fun x3 =>
xl (F_X8_in a0.toInt64 (0 : Int64) x3.toInt64 v) fun r5 =>
r5
set_option maxHeartbeats 4000000 in
set_option maxRecDepth 100000 in
theorem c_X8_isWalker (l : Launch) (w : Wp) (g : Nat → Nat → Int32) (v : St) (k0 : Nat) (a0 : Int32) (hq : Inj w) (hw : WF (wk w) g v) (h_k0 : oM w k0) : CTi w l yX8_isWalker (wsy yX8_isWalker prog_10_method_26_code 2 (some .boolean)) (rmL 2) [.ref (wq w k0), .int a0] v (fun (r : Int32) (u : St) => (u = v ∧ 0 ≤ r.toInt ∧ r.toInt ≤ 1 ∧ (¬ r.toInt = 0 → 0 ≤ a0.toInt ∧ a0.toInt ≤ 2)) ∧ (r = F_X8_isWalker k0 a0 v) ∧ True) := by
  generalize hpost : (fun (r : Int32) (u : St) => (u = v ∧ 0 ≤ r.toInt ∧ r.toInt ≤ 1 ∧ (¬ r.toInt = 0 → 0 ≤ a0.toInt ∧ a0.toInt ≤ 2)) ∧ (r = F_X8_isWalker k0 a0 v) ∧ True) = post
  refine CTi.of prog_10_method_26_code 2 (some .boolean) "StarWalkModel" (by decide +kernel) rfl hq hw (Nat.le_of_ble_eq_true rfl) ?_
  intro pg en s m ar bl me cd ls E I hr hlk hl
  have hx := E.1.1
  have hb := E.1.2.1
  have hl : lv_has ls 2 [(0, .ref (wq w k0)), (1, .int a0)] := hl
  obtain ⟨res, hres⟩ : ∃ z, z = F_X8_isWalker k0 a0 v := ⟨_, rfl⟩
  have hF := hres.symm
  unfold F_X8_isWalker at hF
  replace hres : res = F_X8_isWalker k0 a0 v := hres
  refine lv_iload_n hx hb dX8_isWalker_0 rfl (lv_at hl 1 rfl) ?_
  refine lv_i2l (v := a0.toInt64) hx hb dX8_isWalker_1 rfl ?_
  refine lv_lconst (v := 0) hx hb dX8_isWalker_2 (by decide) ?_
  refine lv_aload_n hx hb dX8_isWalker_3 rfl (lv_at hl 0 rfl) ?_
  refine g_StarWalkModel_walkers E I h_k0.1 mw_4_174 dX8_isWalker_4 ?_
  refine lv_topi (fun x2 ex2 => ?_)
  replace hF := xl_i (ex2) hF
  have hx2 := r_StarWalkModel_walkers I h_k0.1
  rw [← ex2] at hx2
  refine lv_iconst (v := 1) hx hb dX8_isWalker_7 (by decide) ?_
  refine lv_isub hx hb dX8_isWalker_8 ?_
  refine lv_topi (fun x3 ex3 => ?_)
  replace hF := xl_i (ex3) hF
  have hx3 : x3.toInt = x2.toInt - 1 := by rw [ex3]; exact sbI (a := x2.toInt) (b := 1) rfl rfl (by omega) (by omega)
  refine lv_i2l (v := x3.toInt64) hx hb dX8_isWalker_9 rfl ?_
  refine cSi E I (c_X8_in l w g v a0.toInt64 (0 : Int64) x3.toInt64 E.2.2.1 I.2.2   ) (va_cwS 3 E.1.2.2.2.2 (gSs mw_5_29 mw_5_30 mw_1_9 mw_5_31) rfl rfl rfl (by decide +kernel) ⟨by decide, by decide⟩) rfl hl.1 rfl (Nat.le_of_ble_eq_true rfl) dX8_isWalker_10 ⟨Nat.le_refl _, Nat.le_refl _⟩ (fun r5 u6 H lo hp hPS => ?_)
  have iz7 := i64_of a0
  have iz8 : (0 : Int64).toInt = 0 := rfl
  have iz9 := i64_of x3
  obtain ⟨hp, hex, hfr⟩ := hp
  replace hF := xl_i hex hF
  obtain ⟨hu, p10⟩ := hp
  rw [hu] at hPS
  have I : Wo w g s.heap v H lo := ⟨hPS.1, hPS.2, I.2.2⟩
  exact rI E I hr hlk (nbI (by omega)) (by rw [← hpost]; exact ⟨⟨rfl, by omega⟩, hF.trans hres, trivial⟩) dX8_isWalker_13
def F_X8_isAim (k0 : Nat) (a0 : Int32) (v : St) : Int32 :=
xl (F_X8_isStar k0 a0 v) fun r1 =>
if r1.toInt = 0 then (
xl (F_X8_in a0.toInt64 (5 : Int64) (6 : Int64) v) fun r6 =>
if r6.toInt = 0 then (
(0 : Int32)) else (
(1 : Int32))) else (
(1 : Int32))
set_option maxHeartbeats 4000000 in
set_option maxRecDepth 100000 in
theorem c_X8_isAim (l : Launch) (w : Wp) (g : Nat → Nat → Int32) (v : St) (k0 : Nat) (a0 : Int32) (hq : Inj w) (hw : WF (wk w) g v) (h_k0 : oM w k0) : CTi w l yX8_isAim (wsy yX8_isAim prog_10_method_27_code 2 (some .boolean)) (rmL 3) [.ref (wq w k0), .int a0] v (fun (r : Int32) (u : St) => (u = v ∧ 0 ≤ r.toInt ∧ r.toInt ≤ 1 ∧ (¬ r.toInt = 0 → 0 ≤ a0.toInt ∧ a0.toInt ≤ 6)) ∧ (r = F_X8_isAim k0 a0 v) ∧ True) := by
  generalize hpost : (fun (r : Int32) (u : St) => (u = v ∧ 0 ≤ r.toInt ∧ r.toInt ≤ 1 ∧ (¬ r.toInt = 0 → 0 ≤ a0.toInt ∧ a0.toInt ≤ 6)) ∧ (r = F_X8_isAim k0 a0 v) ∧ True) = post
  refine CTi.of prog_10_method_27_code 2 (some .boolean) "StarWalkModel" (by decide +kernel) rfl hq hw (Nat.le_of_ble_eq_true rfl) ?_
  intro pg en s m ar bl me cd ls E I hr hlk hl
  have hx := E.1.1
  have hb := E.1.2.1
  have hl : lv_has ls 2 [(0, .ref (wq w k0)), (1, .int a0)] := hl
  obtain ⟨res, hres⟩ : ∃ z, z = F_X8_isAim k0 a0 v := ⟨_, rfl⟩
  have hF := hres.symm
  unfold F_X8_isAim at hF
  replace hres : res = F_X8_isAim k0 a0 v := hres
  refine lv_aload_n hx hb dX8_isAim_0 rfl (lv_at hl 0 rfl) ?_
  refine lv_iload_n hx hb dX8_isAim_1 rfl (lv_at hl 1 rfl) ?_
  refine cVi E I (c_X8_isStar l w g v k0 a0 E.2.2.1 I.2.2 h_k0  ) (cwV 1 E.1.2.2.2.2 (gWs (C := "StarWalkModel") mw_5_126 mw_5_128 mw_s_44 mw_1_9 mw_5_129) rfl rfl rfl (by decide +kernel) ⟨by decide, by decide⟩) h_k0.1.1 ((ce_o h_k0.1.2).trans rfl) rfl rfl hl.1 rfl (Nat.le_of_ble_eq_true rfl) dX8_isAim_2 ⟨Nat.le_refl _, Nat.le_refl _⟩ (fun r1 u2 H lo hp hPS => ?_)
  obtain ⟨hp, hex, hfr⟩ := hp
  replace hF := xl_i hex hF
  obtain ⟨hu, p3⟩ := hp
  rw [hu] at hPS
  have I : Wo w g s.heap v H lo := ⟨hPS.1, hPS.2, I.2.2⟩
  refine bz_ne E (a := r1.toInt) rfl (tgt := 22) dX8_isAim_5 (by decide) (fun c4 => ?_) (fun c4 => ?_)
  ·
    replace hF := if_f c4 hF
    refine lv_iconst (v := 1) hx hb dX8_isAim_22 (by decide) ?_
    refine lv_goto (tgt := 27) hx hb dX8_isAim_23 (by decide) ?_
    exact rI E I hr hlk rfl (by rw [← hpost]; exact ⟨⟨rfl, by have eL : (1 : Int32).toInt = 1 := rfl; omega⟩, hF.trans hres, trivial⟩) dX8_isAim_27
  ·
    replace hF := if_t c4 hF
    refine lv_iload_n hx hb dX8_isAim_8 rfl (lv_at hl 1 rfl) ?_
    refine lv_i2l (v := a0.toInt64) hx hb dX8_isAim_9 rfl ?_
    refine lv_ldc2 (own := "StarWalkModel") hx hb E.1.2.2.2.1 (Ew E mw_5_187 rfl) dX8_isAim_10 ?_
    refine lv_ldc2 (own := "StarWalkModel") hx hb E.1.2.2.2.1 (Ew E mw_5_174 rfl) dX8_isAim_13 ?_
    refine cSi E I (c_X8_in l w g v a0.toInt64 (5 : Int64) (6 : Int64) E.2.2.1 I.2.2   ) (va_cwS 3 E.1.2.2.2.2 (gSs mw_5_29 mw_5_30 mw_1_9 mw_5_31) rfl rfl rfl (by decide +kernel) ⟨by decide, by decide⟩) rfl hl.1 rfl (Nat.le_of_ble_eq_true rfl) dX8_isAim_16 ⟨Nat.le_refl _, Nat.le_refl _⟩ (fun r6 u7 H lo hp hPS => ?_)
    have iz8 := i64_of a0
    have iz9 : (5 : Int64).toInt = 5 := rfl
    have iz10 : (6 : Int64).toInt = 6 := rfl
    obtain ⟨hp, hex, hfr⟩ := hp
    replace hF := xl_i hex hF
    obtain ⟨hu, p11⟩ := hp
    rw [hu] at hPS
    have I : Wo w g s.heap v H lo := ⟨hPS.1, hPS.2, I.2.2⟩
    refine bz_eq E (a := r6.toInt) rfl (tgt := 26) dX8_isAim_19 (by decide) (fun c12 => ?_) (fun c12 => ?_)
    ·
      replace hF := if_t c12 hF
      refine lv_iconst (v := 0) hx hb dX8_isAim_26 (by decide) ?_
      exact rI E I hr hlk rfl (by rw [← hpost]; exact ⟨⟨rfl, by have eL : (0 : Int32).toInt = 0 := rfl; omega⟩, hF.trans hres, trivial⟩) dX8_isAim_27
    ·
      replace hF := if_f c12 hF
      refine lv_iconst (v := 1) hx hb dX8_isAim_22 (by decide) ?_
      refine lv_goto (tgt := 27) hx hb dX8_isAim_23 (by decide) ?_
      exact rI E I hr hlk rfl (by rw [← hpost]; exact ⟨⟨rfl, by have eL : (1 : Int32).toInt = 1 := rfl; omega⟩, hF.trans hres, trivial⟩) dX8_isAim_27
def F_X8_isHour (a0 : Int32) (v : St) : Int32 :=
xl (F_X8_in a0.toInt64 (0 : Int64) (9 : Int64) v) fun r2 =>
r2
set_option maxHeartbeats 4000000 in
set_option maxRecDepth 100000 in
theorem c_X8_isHour (l : Launch) (w : Wp) (g : Nat → Nat → Int32) (v : St) (a0 : Int32) (hq : Inj w) (hw : WF (wk w) g v) : CTi w l yX8_isHour (wsy yX8_isHour prog_10_method_28_code 1 (some .boolean)) (rmL 2) [.int a0] v (fun (r : Int32) (u : St) => (u = v ∧ 0 ≤ r.toInt ∧ r.toInt ≤ 1 ∧ (¬ r.toInt = 0 ↔ 0 ≤ a0.toInt ∧ a0.toInt ≤ 9)) ∧ (r = F_X8_isHour a0 v) ∧ True) := by
  generalize hpost : (fun (r : Int32) (u : St) => (u = v ∧ 0 ≤ r.toInt ∧ r.toInt ≤ 1 ∧ (¬ r.toInt = 0 ↔ 0 ≤ a0.toInt ∧ a0.toInt ≤ 9)) ∧ (r = F_X8_isHour a0 v) ∧ True) = post
  refine CTi.of prog_10_method_28_code 1 (some .boolean) "StarWalkModel" (by decide +kernel) rfl hq hw (Nat.le_of_ble_eq_true rfl) ?_
  intro pg en s m ar bl me cd ls E I hr hlk hl
  have hx := E.1.1
  have hb := E.1.2.1
  have hl : lv_has ls 1 [(0, .int a0)] := hl
  obtain ⟨res, hres⟩ : ∃ z, z = F_X8_isHour a0 v := ⟨_, rfl⟩
  have hF := hres.symm
  unfold F_X8_isHour at hF
  replace hres : res = F_X8_isHour a0 v := hres
  refine lv_iload_n hx hb dX8_isHour_0 rfl (lv_at hl 0 rfl) ?_
  refine lv_i2l (v := a0.toInt64) hx hb dX8_isHour_1 rfl ?_
  refine lv_lconst (v := 0) hx hb dX8_isHour_2 (by decide) ?_
  refine lv_ldc2 (own := "StarWalkModel") hx hb E.1.2.2.2.1 (Ew E mw_5_152 rfl) dX8_isHour_3 ?_
  refine cSi E I (c_X8_in l w g v a0.toInt64 (0 : Int64) (9 : Int64) E.2.2.1 I.2.2   ) (va_cwS 3 E.1.2.2.2.2 (gSs mw_5_29 mw_5_30 mw_1_9 mw_5_31) rfl rfl rfl (by decide +kernel) ⟨by decide, by decide⟩) rfl hl.1 rfl (Nat.le_of_ble_eq_true rfl) dX8_isHour_6 ⟨Nat.le_refl _, Nat.le_refl _⟩ (fun r2 u3 H lo hp hPS => ?_)
  have iz4 := i64_of a0
  have iz5 : (0 : Int64).toInt = 0 := rfl
  have iz6 : (9 : Int64).toInt = 9 := rfl
  obtain ⟨hp, hex, hfr⟩ := hp
  replace hF := xl_i hex hF
  obtain ⟨hu, p7⟩ := hp
  rw [hu] at hPS
  have I : Wo w g s.heap v H lo := ⟨hPS.1, hPS.2, I.2.2⟩
  exact rI E I hr hlk (nbI (by omega)) (by rw [← hpost]; exact ⟨⟨rfl, by omega⟩, hF.trans hres, trivial⟩) dX8_isHour_9
def F_X8_isPart (a0 : Int32) (v : St) : Int32 :=
xl (F_X8_in a0.toInt64 (0 : Int64) (1 : Int64) v) fun r2 =>
r2
set_option maxHeartbeats 4000000 in
set_option maxRecDepth 100000 in
theorem c_X8_isPart (l : Launch) (w : Wp) (g : Nat → Nat → Int32) (v : St) (a0 : Int32) (hq : Inj w) (hw : WF (wk w) g v) : CTi w l yX8_isPart (wsy yX8_isPart prog_10_method_29_code 1 (some .boolean)) (rmL 2) [.int a0] v (fun (r : Int32) (u : St) => (u = v ∧ 0 ≤ r.toInt ∧ r.toInt ≤ 1 ∧ (¬ r.toInt = 0 ↔ 0 ≤ a0.toInt ∧ a0.toInt ≤ 1)) ∧ (r = F_X8_isPart a0 v) ∧ True) := by
  generalize hpost : (fun (r : Int32) (u : St) => (u = v ∧ 0 ≤ r.toInt ∧ r.toInt ≤ 1 ∧ (¬ r.toInt = 0 ↔ 0 ≤ a0.toInt ∧ a0.toInt ≤ 1)) ∧ (r = F_X8_isPart a0 v) ∧ True) = post
  refine CTi.of prog_10_method_29_code 1 (some .boolean) "StarWalkModel" (by decide +kernel) rfl hq hw (Nat.le_of_ble_eq_true rfl) ?_
  intro pg en s m ar bl me cd ls E I hr hlk hl
  have hx := E.1.1
  have hb := E.1.2.1
  have hl : lv_has ls 1 [(0, .int a0)] := hl
  obtain ⟨res, hres⟩ : ∃ z, z = F_X8_isPart a0 v := ⟨_, rfl⟩
  have hF := hres.symm
  unfold F_X8_isPart at hF
  replace hres : res = F_X8_isPart a0 v := hres
  refine lv_iload_n hx hb dX8_isPart_0 rfl (lv_at hl 0 rfl) ?_
  refine lv_i2l (v := a0.toInt64) hx hb dX8_isPart_1 rfl ?_
  refine lv_lconst (v := 0) hx hb dX8_isPart_2 (by decide) ?_
  refine lv_lconst (v := 1) hx hb dX8_isPart_3 (by decide) ?_
  refine cSi E I (c_X8_in l w g v a0.toInt64 (0 : Int64) (1 : Int64) E.2.2.1 I.2.2   ) (va_cwS 3 E.1.2.2.2.2 (gSs mw_5_29 mw_5_30 mw_1_9 mw_5_31) rfl rfl rfl (by decide +kernel) ⟨by decide, by decide⟩) rfl hl.1 rfl (Nat.le_of_ble_eq_true rfl) dX8_isPart_4 ⟨Nat.le_refl _, Nat.le_refl _⟩ (fun r2 u3 H lo hp hPS => ?_)
  have iz4 := i64_of a0
  have iz5 : (0 : Int64).toInt = 0 := rfl
  have iz6 : (1 : Int64).toInt = 1 := rfl
  obtain ⟨hp, hex, hfr⟩ := hp
  replace hF := xl_i hex hF
  obtain ⟨hu, p7⟩ := hp
  rw [hu] at hPS
  have I : Wo w g s.heap v H lo := ⟨hPS.1, hPS.2, I.2.2⟩
  exact rI E I hr hlk (nbI (by omega)) (by rw [← hpost]; exact ⟨⟨rfl, by omega⟩, hF.trans hres, trivial⟩) dX8_isPart_7
def F_X8_starts (k0 : Nat) (v : St) : St :=
xl (fun (self_2 : Int32 → St → St) (y2_1 : Int32) (v_2 : St) =>
if y2_1.toInt < 54 then (
xl (v_2.1 (k0 + 1) y2_1.toNatClampNeg) fun x2 =>
xl (up1 v_2 (k0 + 2) y2_1.toNatClampNeg x2) fun v3 =>
xl (y2_1 + 1) fun x4 =>
(self_2 x4 v3)) else (
v_2)) fun P_2 =>
(lp P_2 (fun _ _ => v) ((2147483647 - (0 : Int32).toInt).toNat + 1) (0 : Int32) v)
set_option maxHeartbeats 4000000 in
set_option maxRecDepth 100000 in
theorem c_X8_starts (l : Launch) (w : Wp) (g : Nat → Nat → Int32) (v : St) (k0 : Nat) (hq : Inj w) (hw : WF (wk w) g v) (h_k0 : oM w k0) : CTv w l yX8_starts (wsy yX8_starts prog_10_method_30_code 2 none) (rmL 1) [.ref (wq w k0)] v (fun (u : St) => (WF (wk w) g u ∧ u.2 = v.2) ∧ (u = F_X8_starts k0 v) ∧ (∀ k j : Nat, ¬ (k = k0 + 2) → u.1 k j = v.1 k j)) := by
  generalize hpost : (fun (u : St) => (WF (wk w) g u ∧ u.2 = v.2) ∧ (u = F_X8_starts k0 v) ∧ (∀ k j : Nat, ¬ (k = k0 + 2) → u.1 k j = v.1 k j)) = post
  refine CTv.of prog_10_method_30_code 2 none "StarWalkModel" (by decide +kernel) rfl hq hw (Nat.le_of_ble_eq_true rfl) ?_
  intro pg en s m ar bl me cd ls E I hr hlk hl
  have hx := E.1.1
  have hb := E.1.2.1
  have hl : lv_has ls 2 [(0, .ref (wq w k0))] := hl
  obtain ⟨res, hres⟩ : ∃ z, z = F_X8_starts k0 v := ⟨_, rfl⟩
  have hF := hres.symm
  unfold F_X8_starts at hF
  replace hres : res = F_X8_starts k0 v := hres
  have rz0 : ∀ k j : Nat, ¬ (k = k0 + 2) → v.1 k j = v.1 k j := fun _ _ _ => rfl
  obtain ⟨P_2, eP_2, hF⟩ := xl_e hF
  have L_2 : ∀ (n : Nat), ∀ (H : Heap) (lo : List Loc) (v_2 : St), Wo w g s.heap v_2 H lo → ∀ (y2_1 : Int32), (0 ≤ y2_1.toInt ∧ y2_1.toInt ≤ 54) → (v_2.2 = v.2) → (∀ k j : Nat, ¬ (k = k0 + 2) → v_2.1 k j = v.1 k j) → (lp P_2 (fun _ _ => v) n y2_1 v_2 = res) → (2147483647 - y2_1.toInt).toNat < n → ∀ (ls : Array Slot), lv_has ls 2 [(0, .ref (wq w k0)), (1, .int y2_1)] → W pg l en (rmL 1) s m ar bl me cd H lo 0 0 (Zv w bl ar s post) (F0 m 2 ls []) := by
    intro n
    induction n with
    | zero => intro H lo v_2 I y2_1 hy2_1 rB2_L rB2_Z hF hm; exact absurd hm (Nat.not_lt_zero _)
    | succ n ih_2 =>
      intro H lo v_2 I y2_1 hy2_1 rB2_L rB2_Z hF hm ls hl
      replace hF := lpa2 eP_2 hF
      refine lv_iload_n hx hb dX8_starts_2 rfl (lv_at hl 1 rfl) ?_
      refine lv_bipush (v := 54) hx hb dX8_starts_3 (by decide) ?_
      refine bi_ge E (a := y2_1.toInt) (b := 54) rfl rfl (tgt := 26) dX8_starts_5 (by decide) (fun c1 => ?_) (fun c1 => ?_)
      ·
        replace hF := if_l c1 hF
        exact rV E I hr hlk (by rw [← hpost]; exact ⟨⟨I.2.2, rB2_L⟩, hF.trans hres, rB2_Z⟩) dX8_starts_26
      ·
        replace hF := if_t c1 hF
        refine lv_aload_n hx hb dX8_starts_8 rfl (lv_at hl 0 rfl) ?_
        refine g_StarWalkModel_at E I h_k0.1 mw_4_171 dX8_starts_9 ?_
        refine lv_iload_n hx hb dX8_starts_12 rfl (lv_at hl 1 rfl) ?_
        refine lv_aload_n hx hb dX8_starts_13 rfl (lv_at hl 0 rfl) ?_
        refine g_StarWalkModel_st E I h_k0.1 mw_4_170 dX8_starts_14 ?_
        refine lv_iload_n hx hb dX8_starts_17 rfl (lv_at hl 1 rfl) ?_
        refine ga_30 E I h_k0.2.1 (by omega) dX8_starts_18 ?_
        refine lv_topi (fun x2 ex2 => ?_)
        replace hF := xl_i (ex2) hF
        have hx2 := ra_30 I h_k0.2.1 y2_1.toNatClampNeg
        rw [← ex2] at hx2
        have cix2 := cnI (x := y2_1) (by omega)
        simp only [okk] at hx2
        refine pa_31 E I h_k0.2.2.1 (by omega) (by have ci := cnI (x := y2_1) (by omega); simp only [okk]; omega) dX8_starts_19 (fun H lo I => ?_)
        generalize ev3 : up1 v_2 (k0 + 2) y2_1.toNatClampNeg x2 = v3 at I
        replace hF := xl_i (ev3.symm) hF
        have rzv3 : ∀ k j : Nat, ¬ (k = k0 + 2) → v3.1 k j = v.1 k j := fun k j h => fz_u ev3 (by have czy2_1 := cnI (x := y2_1) (by omega); omega) (rB2_Z k j h)
        have rlv3_L : v3.2 = v.2 := (congrArg Prod.snd ev3).symm.trans rB2_L
        obtain ⟨x4, ex4⟩ : ∃ z : Int32, z = y2_1 + 1 := ⟨_, rfl⟩
        replace hF := xl_i (ex4) hF
        have hx4 : x4.toInt = y2_1.toInt + (1) := by rw [ex4]; exact adI (a := y2_1.toInt) (b := 1) rfl rfl (by omega) (by omega)
        refine lv_iinc (v := x4) (lv' := [(1, .int x4), (0, .ref (wq w k0))]) hx hb dX8_starts_20 hl (k := 1) rfl (by rw [ex4]; rfl) (by decide) rfl (fun ls hl => ?_)
        refine lv_goto (tgt := 2) hx hb dX8_starts_23 (by decide) ?_
        exact ih_2 _ _ v3 I x4 (by omega) rlv3_L rzv3 hF (by omega) ls (lv_sub hl [1, 0] rfl)
  refine lv_iconst (v := 0) hx hb dX8_starts_0 (by decide) ?_
  refine lv_istore_n (lv' := [(1, .int 0), (0, .ref (wq w k0))]) hx hb dX8_starts_1 rfl hl (by decide) rfl (fun ls hl => ?_)
  exact L_2 ((2147483647 - (0 : Int32).toInt).toNat + 1) _ _ v I (0 : Int32) (by decide) rfl rz0 hF (Nat.lt_succ_self _) ls (lv_sub hl [1, 0] rfl)
def F_X8_settles (k0 : Nat) (v : St) : St :=
xl (fun (self_2 : Int32 → St → St) (y2_1 : Int32) (v_2 : St) =>
if y2_1.toInt < 54 then (
xl (v_2.1 (k0 + 2) y2_1.toNatClampNeg) fun x2 =>
xl (up1 v_2 (k0 + 1) y2_1.toNatClampNeg x2) fun v3 =>
xl (y2_1 + 1) fun x4 =>
(self_2 x4 v3)) else (
v_2)) fun P_2 =>
(lp P_2 (fun _ _ => v) ((2147483647 - (0 : Int32).toInt).toNat + 1) (0 : Int32) v)
set_option maxHeartbeats 4000000 in
set_option maxRecDepth 100000 in
theorem c_X8_settles (l : Launch) (w : Wp) (g : Nat → Nat → Int32) (v : St) (k0 : Nat) (hq : Inj w) (hw : WF (wk w) g v) (h_k0 : oM w k0) : CTv w l yX8_settles (wsy yX8_settles prog_10_method_31_code 2 none) (rmL 1) [.ref (wq w k0)] v (fun (u : St) => (WF (wk w) g u ∧ True) ∧ (u = F_X8_settles k0 v) ∧ (∀ k j : Nat, ¬ (k = k0 + 1) → u.1 k j = v.1 k j)) := by
  generalize hpost : (fun (u : St) => (WF (wk w) g u ∧ True) ∧ (u = F_X8_settles k0 v) ∧ (∀ k j : Nat, ¬ (k = k0 + 1) → u.1 k j = v.1 k j)) = post
  refine CTv.of prog_10_method_31_code 2 none "StarWalkModel" (by decide +kernel) rfl hq hw (Nat.le_of_ble_eq_true rfl) ?_
  intro pg en s m ar bl me cd ls E I hr hlk hl
  have hx := E.1.1
  have hb := E.1.2.1
  have hl : lv_has ls 2 [(0, .ref (wq w k0))] := hl
  obtain ⟨res, hres⟩ : ∃ z, z = F_X8_settles k0 v := ⟨_, rfl⟩
  have hF := hres.symm
  unfold F_X8_settles at hF
  replace hres : res = F_X8_settles k0 v := hres
  have rz0 : ∀ k j : Nat, ¬ (k = k0 + 1) → v.1 k j = v.1 k j := fun _ _ _ => rfl
  obtain ⟨P_2, eP_2, hF⟩ := xl_e hF
  have L_2 : ∀ (n : Nat), ∀ (H : Heap) (lo : List Loc) (v_2 : St), Wo w g s.heap v_2 H lo → ∀ (y2_1 : Int32), (0 ≤ y2_1.toInt ∧ y2_1.toInt ≤ 54) → (∀ k j : Nat, ¬ (k = k0 + 1) → v_2.1 k j = v.1 k j) → (lp P_2 (fun _ _ => v) n y2_1 v_2 = res) → (2147483647 - y2_1.toInt).toNat < n → ∀ (ls : Array Slot), lv_has ls 2 [(0, .ref (wq w k0)), (1, .int y2_1)] → W pg l en (rmL 1) s m ar bl me cd H lo 0 0 (Zv w bl ar s post) (F0 m 2 ls []) := by
    intro n
    induction n with
    | zero => intro H lo v_2 I y2_1 hy2_1 rB2_Z hF hm; exact absurd hm (Nat.not_lt_zero _)
    | succ n ih_2 =>
      intro H lo v_2 I y2_1 hy2_1 rB2_Z hF hm ls hl
      replace hF := lpa2 eP_2 hF
      refine lv_iload_n hx hb dX8_settles_2 rfl (lv_at hl 1 rfl) ?_
      refine lv_bipush (v := 54) hx hb dX8_settles_3 (by decide) ?_
      refine bi_ge E (a := y2_1.toInt) (b := 54) rfl rfl (tgt := 26) dX8_settles_5 (by decide) (fun c1 => ?_) (fun c1 => ?_)
      ·
        replace hF := if_l c1 hF
        exact rV E I hr hlk (by rw [← hpost]; exact ⟨⟨I.2.2, trivial⟩, hF.trans hres, rB2_Z⟩) dX8_settles_26
      ·
        replace hF := if_t c1 hF
        refine lv_aload_n hx hb dX8_settles_8 rfl (lv_at hl 0 rfl) ?_
        refine g_StarWalkModel_st E I h_k0.1 mw_4_170 dX8_settles_9 ?_
        refine lv_iload_n hx hb dX8_settles_12 rfl (lv_at hl 1 rfl) ?_
        refine lv_aload_n hx hb dX8_settles_13 rfl (lv_at hl 0 rfl) ?_
        refine g_StarWalkModel_at E I h_k0.1 mw_4_171 dX8_settles_14 ?_
        refine lv_iload_n hx hb dX8_settles_17 rfl (lv_at hl 1 rfl) ?_
        refine ga_31 E I h_k0.2.2.1 (by omega) dX8_settles_18 ?_
        refine lv_topi (fun x2 ex2 => ?_)
        replace hF := xl_i (ex2) hF
        have hx2 := ra_31 I h_k0.2.2.1 y2_1.toNatClampNeg
        rw [← ex2] at hx2
        have cix2 := cnI (x := y2_1) (by omega)
        simp only [okk] at hx2
        refine pa_30 E I h_k0.2.1 (by omega) (by have ci := cnI (x := y2_1) (by omega); simp only [okk]; omega) dX8_settles_19 (fun H lo I => ?_)
        generalize ev3 : up1 v_2 (k0 + 1) y2_1.toNatClampNeg x2 = v3 at I
        replace hF := xl_i (ev3.symm) hF
        have rzv3 : ∀ k j : Nat, ¬ (k = k0 + 1) → v3.1 k j = v.1 k j := fun k j h => fz_u ev3 (by have czy2_1 := cnI (x := y2_1) (by omega); omega) (rB2_Z k j h)
        obtain ⟨x4, ex4⟩ : ∃ z : Int32, z = y2_1 + 1 := ⟨_, rfl⟩
        replace hF := xl_i (ex4) hF
        have hx4 : x4.toInt = y2_1.toInt + (1) := by rw [ex4]; exact adI (a := y2_1.toInt) (b := 1) rfl rfl (by omega) (by omega)
        refine lv_iinc (v := x4) (lv' := [(1, .int x4), (0, .ref (wq w k0))]) hx hb dX8_settles_20 hl (k := 1) rfl (by rw [ex4]; rfl) (by decide) rfl (fun ls hl => ?_)
        refine lv_goto (tgt := 2) hx hb dX8_settles_23 (by decide) ?_
        exact ih_2 _ _ v3 I x4 (by omega) rzv3 hF (by omega) ls (lv_sub hl [1, 0] rfl)
  refine lv_iconst (v := 0) hx hb dX8_settles_0 (by decide) ?_
  refine lv_istore_n (lv' := [(1, .int 0), (0, .ref (wq w k0))]) hx hb dX8_settles_1 rfl hl (by decide) rfl (fun ls hl => ?_)
  exact L_2 ((2147483647 - (0 : Int32).toInt).toNat + 1) _ _ v I (0 : Int32) (by decide) rz0 hF (Nat.lt_succ_self _) ls (lv_sub hl [1, 0] rfl)
def F_X8_pullOf (a0 : Int32) (a1 : Int32) (v : St) : Int32 :=
xl (fun (z10_0 : Int32) =>
xl (z10_0 + (1 : Int32)) fun x1 =>
if a0.toInt = 1 then (
x1) else (
if a0.toInt = 2 then (
xl (a1 / (4 : Int32)) fun x6 =>
xl (x1 + x6) fun x7 =>
x7) else (
if a0.toInt = 3 then (
xl (x1 / (2 : Int32)) fun x5 =>
x5) else (
z10_0)))) fun J_10 =>
if a1.toInt < 5 then (
(J_10 (0 : Int32))) else (
(J_10 (1 : Int32)))
set_option maxHeartbeats 4000000 in
set_option maxRecDepth 100000 in
theorem c_X8_pullOf (l : Launch) (w : Wp) (g : Nat → Nat → Int32) (v : St) (a0 : Int32) (a1 : Int32) (hq : Inj w) (hw : WF (wk w) g v) : CTi w l yX8_pullOf (wsy yX8_pullOf prog_10_method_32_code 4 (some .int)) (rmL 1) [.int a0, .int a1] v (fun (r : Int32) (u : St) => (u = v ∧ True) ∧ (r = F_X8_pullOf a0 a1 v) ∧ True) := by
  generalize hpost : (fun (r : Int32) (u : St) => (u = v ∧ True) ∧ (r = F_X8_pullOf a0 a1 v) ∧ True) = post
  refine CTi.of prog_10_method_32_code 4 (some .int) "StarWalkModel" (by decide +kernel) rfl hq hw (Nat.le_of_ble_eq_true rfl) ?_
  intro pg en s m ar bl me cd ls E I hr hlk hl
  have hx := E.1.1
  have hb := E.1.2.1
  have hl : lv_has ls 4 [(0, .int a0), (1, .int a1)] := hl
  obtain ⟨res, hres⟩ : ∃ z, z = F_X8_pullOf a0 a1 v := ⟨_, rfl⟩
  have hF := hres.symm
  unfold F_X8_pullOf at hF
  replace hres : res = F_X8_pullOf a0 a1 v := hres
  obtain ⟨J_10, eJ_10, hF⟩ := xl_e hF
  have B_10 : ∀ (H : Heap) (lo : List Loc), Wo w g s.heap v H lo → ∀ (z10_0 : Int32), (0 ≤ z10_0.toInt ∧ z10_0.toInt ≤ 1) → (J_10 z10_0 = res) → ∀ (ls : Array Slot), lv_has ls 4 [(0, .int a0), (1, .int a1)] → W pg l en (rmL 1) s m ar bl me cd H lo 0 0 (Zi w bl ar s post) (F0 m 10 ls [.int z10_0]) := by
    intro H lo  I z10_0 hz10_0 hF ls hl
    replace hF := ap1 eJ_10 hF
    refine lv_istore_n (lv' := [(2, .int z10_0), (0, .int a0), (1, .int a1)]) hx hb dX8_pullOf_10 rfl hl (by decide) rfl (fun ls hl => ?_)
    refine lv_iload_n hx hb dX8_pullOf_11 rfl (lv_at hl 0 rfl) ?_
    refine lv_iconst (v := 1) hx hb dX8_pullOf_12 (by decide) ?_
    refine lv_iadd hx hb dX8_pullOf_13 ?_
    refine lv_topi (fun x1 ex1 => ?_)
    replace hF := xl_i (ex1) hF
    have hx1 : x1.toInt = z10_0.toInt + 1 := by rw [ex1]; exact adI (a := z10_0.toInt) (b := 1) rfl rfl (by omega) (by omega)
    refine lv_istore_n (lv' := [(3, .int x1), (2, .int z10_0), (0, .int a0), (1, .int a1)]) hx hb dX8_pullOf_14 rfl hl (by decide) rfl (fun ls hl => ?_)
    refine lv_iload_n hx hb dX8_pullOf_15 rfl (lv_at hl 2 rfl) ?_
    refine lv_iconst (v := 1) hx hb dX8_pullOf_16 (by decide) ?_
    refine bi_ne E (a := a0.toInt) (b := 1) rfl rfl (tgt := 24) dX8_pullOf_17 (by decide) (fun c2 => ?_) (fun c2 => ?_)
    ·
      replace hF := if_f c2 hF
      refine lv_iload_n hx hb dX8_pullOf_24 rfl (lv_at hl 2 rfl) ?_
      refine lv_iconst (v := 2) hx hb dX8_pullOf_25 (by decide) ?_
      refine bi_ne E (a := a0.toInt) (b := 2) rfl rfl (tgt := 37) dX8_pullOf_26 (by decide) (fun c3 => ?_) (fun c3 => ?_)
      ·
        replace hF := if_f c3 hF
        refine lv_iload_n hx hb dX8_pullOf_37 rfl (lv_at hl 2 rfl) ?_
        refine lv_iconst (v := 3) hx hb dX8_pullOf_38 (by decide) ?_
        refine bi_ne E (a := a0.toInt) (b := 3) rfl rfl (tgt := 48) dX8_pullOf_39 (by decide) (fun c4 => ?_) (fun c4 => ?_)
        ·
          replace hF := if_f c4 hF
          refine lv_iload_n hx hb dX8_pullOf_48 rfl (lv_at hl 1 rfl) ?_
          exact rI E I hr hlk rfl (by rw [← hpost]; exact ⟨⟨rfl, trivial⟩, hF.trans hres, trivial⟩) dX8_pullOf_49
        ·
          replace hF := if_t c4 hF
          refine lv_iload_n hx hb dX8_pullOf_42 rfl (lv_at hl 0 rfl) ?_
          refine lv_iconst (v := 2) hx hb dX8_pullOf_43 (by decide) ?_
          refine lv_idiv hx hb dX8_pullOf_44 (by decide) ?_
          refine lv_topi (fun x5 ex5 => ?_)
          replace hF := xl_i (ex5) hF
          have hx5 := dvI (x := x1) (y := (2 : Int32)) (a := x1.toInt) (b := 2) rfl rfl (by omega) (by omega)
          rw [← ex5] at hx5
          refine lv_goto (tgt := 49) hx hb dX8_pullOf_45 (by decide) ?_
          exact rI E I hr hlk rfl (by rw [← hpost]; exact ⟨⟨rfl, trivial⟩, hF.trans hres, trivial⟩) dX8_pullOf_49
      ·
        replace hF := if_t c3 hF
        refine lv_iload_n hx hb dX8_pullOf_29 rfl (lv_at hl 0 rfl) ?_
        refine lv_iload_n hx hb dX8_pullOf_30 rfl (lv_at hl 3 rfl) ?_
        refine lv_iconst (v := 4) hx hb dX8_pullOf_31 (by decide) ?_
        refine lv_idiv hx hb dX8_pullOf_32 (by decide) ?_
        refine lv_topi (fun x6 ex6 => ?_)
        replace hF := xl_i (ex6) hF
        refine lv_iadd hx hb dX8_pullOf_33 ?_
        refine lv_topi (fun x7 ex7 => ?_)
        replace hF := xl_i (ex7) hF
        refine lv_goto (tgt := 49) hx hb dX8_pullOf_34 (by decide) ?_
        exact rI E I hr hlk rfl (by rw [← hpost]; exact ⟨⟨rfl, trivial⟩, hF.trans hres, trivial⟩) dX8_pullOf_49
    ·
      replace hF := if_t c2 hF
      refine lv_iload_n hx hb dX8_pullOf_20 rfl (lv_at hl 0 rfl) ?_
      refine lv_goto (tgt := 49) hx hb dX8_pullOf_21 (by decide) ?_
      exact rI E I hr hlk rfl (by rw [← hpost]; exact ⟨⟨rfl, trivial⟩, hF.trans hres, trivial⟩) dX8_pullOf_49
  refine lv_iload_n hx hb dX8_pullOf_0 rfl (lv_at hl 1 rfl) ?_
  refine lv_iconst (v := 5) hx hb dX8_pullOf_1 (by decide) ?_
  refine bi_lt E (a := a1.toInt) (b := 5) rfl rfl (tgt := 9) dX8_pullOf_2 (by decide) (fun c8 => ?_) (fun c8 => ?_)
  ·
    replace hF := if_t c8 hF
    refine lv_iconst (v := 0) hx hb dX8_pullOf_9 (by decide) ?_
    exact B_10 _ _ I (0 : Int32) (by decide) hF ls (lv_sub hl [0, 1] rfl)
  ·
    replace hF := if_l c8 hF
    refine lv_iconst (v := 1) hx hb dX8_pullOf_5 (by decide) ?_
    refine lv_goto (tgt := 10) hx hb dX8_pullOf_6 (by decide) ?_
    exact B_10 _ _ I (1 : Int32) (by decide) hF ls (lv_sub hl [0, 1] rfl)
def F_X8_pullNow (k0 : Nat) (a0 : Int32) (v : St) : Int32 :=
xl (v.1 k0 4) fun x1 =>
if x1.toInt = 0 then (
(0 : Int32)) else (
xl (v.1 (k0 + 2) (23 : Int32).toNatClampNeg) fun x3 =>
xl ((20 : Int32) + x3) fun x4 =>
xl (v.1 (k0 + 2) x4.toNatClampNeg) fun x5 =>
xl (F_X8_pullOf x5 a0 v) fun r6 =>
xl (v.1 k0 4) fun x9 =>
if x9.toInt = 3 then (
if 0 < r6.toInt then (
xl (r6 - (1 : Int32)) fun x12 =>
x12) else (
r6)) else (
r6))
set_option maxHeartbeats 4000000 in
set_option maxRecDepth 100000 in
theorem c_X8_pullNow (l : Launch) (w : Wp) (g : Nat → Nat → Int32) (v : St) (k0 : Nat) (a0 : Int32) (hq : Inj w) (hw : WF (wk w) g v) (h_k0 : oM w k0) : CTi w l yX8_pullNow (wsy yX8_pullNow prog_10_method_33_code 3 (some .int)) (rmL 2) [.ref (wq w k0), .int a0] v (fun (r : Int32) (u : St) => (u = v ∧ True) ∧ (r = F_X8_pullNow k0 a0 v) ∧ True) := by
  generalize hpost : (fun (r : Int32) (u : St) => (u = v ∧ True) ∧ (r = F_X8_pullNow k0 a0 v) ∧ True) = post
  refine CTi.of prog_10_method_33_code 3 (some .int) "StarWalkModel" (by decide +kernel) rfl hq hw (Nat.le_of_ble_eq_true rfl) ?_
  intro pg en s m ar bl me cd ls E I hr hlk hl
  have hx := E.1.1
  have hb := E.1.2.1
  have hl : lv_has ls 3 [(0, .ref (wq w k0)), (1, .int a0)] := hl
  obtain ⟨res, hres⟩ : ∃ z, z = F_X8_pullNow k0 a0 v := ⟨_, rfl⟩
  have hF := hres.symm
  unfold F_X8_pullNow at hF
  replace hres : res = F_X8_pullNow k0 a0 v := hres
  refine lv_aload_n hx hb dX8_pullNow_0 rfl (lv_at hl 0 rfl) ?_
  refine g_StarWalkModel_walkers E I h_k0.1 mw_4_174 dX8_pullNow_1 ?_
  refine lv_topi (fun x1 ex1 => ?_)
  replace hF := xl_i (ex1) hF
  have hx1 := r_StarWalkModel_walkers I h_k0.1
  rw [← ex1] at hx1
  refine bz_ne E (a := x1.toInt) rfl (tgt := 9) dX8_pullNow_4 (by decide) (fun c2 => ?_) (fun c2 => ?_)
  ·
    replace hF := if_f c2 hF
    refine lv_aload_n hx hb dX8_pullNow_9 rfl (lv_at hl 0 rfl) ?_
    refine g_StarWalkModel_at E I h_k0.1 mw_4_171 dX8_pullNow_10 ?_
    refine lv_bipush (v := 20) hx hb dX8_pullNow_13 (by decide) ?_
    refine lv_aload_n hx hb dX8_pullNow_15 rfl (lv_at hl 0 rfl) ?_
    refine g_StarWalkModel_at E I h_k0.1 mw_4_171 dX8_pullNow_16 ?_
    refine lv_bipush (v := 23) hx hb dX8_pullNow_19 (by decide) ?_
    refine ga_31 E I h_k0.2.2.1 (by decide) dX8_pullNow_21 ?_
    refine lv_topi (fun x3 ex3 => ?_)
    replace hF := xl_i (ex3) hF
    have hx3 : 0 ≤ x3.toInt ∧ x3.toInt ≤ 2 := by have h := ra_31 I h_k0.2.2.1 23; rw [ex3]; exact h.1 rfl
    refine lv_iadd hx hb dX8_pullNow_22 ?_
    refine lv_topi (fun x4 ex4 => ?_)
    replace hF := xl_i (ex4) hF
    have hx4 : x4.toInt = 20 + x3.toInt := by rw [ex4]; exact adI (a := 20) (b := x3.toInt) rfl rfl (by omega) (by omega)
    refine ga_31 E I h_k0.2.2.1 (by omega) dX8_pullNow_23 ?_
    refine lv_topi (fun x5 ex5 => ?_)
    replace hF := xl_i (ex5) hF
    refine lv_iload_n hx hb dX8_pullNow_24 rfl (lv_at hl 1 rfl) ?_
    refine cSi E I (c_X8_pullOf l w g v x5 a0 E.2.2.1 I.2.2   ) (va_cwS 2 E.1.2.2.2.2 (gSs mw_5_200 mw_5_201 mw_1_9 mw_5_202) rfl rfl rfl (by decide +kernel) ⟨by decide, by decide⟩) rfl hl.1 rfl (Nat.le_of_ble_eq_true rfl) dX8_pullNow_25 ⟨Nat.le_refl _, Nat.le_refl _⟩ (fun r6 u7 H lo hp hPS => ?_)
    obtain ⟨hp, hex, hfr⟩ := hp
    replace hF := xl_i hex hF
    obtain ⟨hu, p8⟩ := hp
    rw [hu] at hPS
    have I : Wo w g s.heap v H lo := ⟨hPS.1, hPS.2, I.2.2⟩
    refine lv_istore_n (lv' := [(2, .int r6), (0, .ref (wq w k0)), (1, .int a0)]) hx hb dX8_pullNow_28 rfl hl (by decide) rfl (fun ls hl => ?_)
    refine lv_aload_n hx hb dX8_pullNow_29 rfl (lv_at hl 1 rfl) ?_
    refine g_StarWalkModel_walkers E I h_k0.1 mw_4_174 dX8_pullNow_30 ?_
    refine lv_topi (fun x9 ex9 => ?_)
    replace hF := xl_i (ex9) hF
    have hx9 := r_StarWalkModel_walkers I h_k0.1
    rw [← ex9] at hx9
    refine lv_iconst (v := 3) hx hb dX8_pullNow_33 (by decide) ?_
    refine bi_ne E (a := x9.toInt) (b := 3) rfl rfl (tgt := 47) dX8_pullNow_34 (by decide) (fun c10 => ?_) (fun c10 => ?_)
    ·
      replace hF := if_f c10 hF
      refine lv_iload_n hx hb dX8_pullNow_47 rfl (lv_at hl 0 rfl) ?_
      exact rI E I hr hlk rfl (by rw [← hpost]; exact ⟨⟨rfl, trivial⟩, hF.trans hres, trivial⟩) dX8_pullNow_48
    ·
      replace hF := if_t c10 hF
      refine lv_iload_n hx hb dX8_pullNow_37 rfl (lv_at hl 0 rfl) ?_
      refine bz_le E (a := r6.toInt) rfl (tgt := 47) dX8_pullNow_38 (by decide) (fun c11 => ?_) (fun c11 => ?_)
      ·
        replace hF := if_l c11 hF
        refine lv_iload_n hx hb dX8_pullNow_47 rfl (lv_at hl 0 rfl) ?_
        exact rI E I hr hlk rfl (by rw [← hpost]; exact ⟨⟨rfl, trivial⟩, hF.trans hres, trivial⟩) dX8_pullNow_48
      ·
        replace hF := if_t c11 hF
        refine lv_iload_n hx hb dX8_pullNow_41 rfl (lv_at hl 0 rfl) ?_
        refine lv_iconst (v := 1) hx hb dX8_pullNow_42 (by decide) ?_
        refine lv_isub hx hb dX8_pullNow_43 ?_
        refine lv_topi (fun x12 ex12 => ?_)
        replace hF := xl_i (ex12) hF
        have hx12 : x12.toInt = r6.toInt - 1 := by have := i32_rng r6; rw [ex12]; exact sbI (a := r6.toInt) (b := 1) rfl rfl (by omega) (by omega)
        refine lv_goto (tgt := 48) hx hb dX8_pullNow_44 (by decide) ?_
        exact rI E I hr hlk rfl (by rw [← hpost]; exact ⟨⟨rfl, trivial⟩, hF.trans hres, trivial⟩) dX8_pullNow_48
  ·
    replace hF := if_t c2 hF
    refine lv_iconst (v := 0) hx hb dX8_pullNow_7 (by decide) ?_
    exact rI E I hr hlk rfl (by rw [← hpost]; exact ⟨⟨rfl, trivial⟩, hF.trans hres, trivial⟩) dX8_pullNow_8
def F_X8_isUp (k0 : Nat) (a0 : Int32) (a1 : Int32) (v : St) : Int32 :=
xl ((4 : Int32) * a0) fun x2 =>
xl (x2 + (0 : Int32)) fun x3 =>
xl (v.1 (k0 + 2) x3.toNatClampNeg) fun x4 =>
xl (x2 + (1 : Int32)) fun x7 =>
xl (v.1 (k0 + 2) x7.toNatClampNeg) fun x8 =>
xl (F_X8_in a1.toInt64 x4.toInt64 x8.toInt64 v) fun r10 =>
if r10.toInt = 0 then (
(0 : Int32)) else (
xl (v.1 (k0 + 2) (28 : Int32).toNatClampNeg) fun x17 =>
xl (x17 >>> (a1 &&& 31)) fun x18 =>
xl (x18 &&& (1 : Int32)) fun x19 =>
if x19.toInt = 0 then (
(1 : Int32)) else (
(0 : Int32)))
set_option maxHeartbeats 4000000 in
set_option maxRecDepth 100000 in
theorem c_X8_isUp (l : Launch) (w : Wp) (g : Nat → Nat → Int32) (v : St) (k0 : Nat) (a0 : Int32) (a1 : Int32) (hq : Inj w) (hw : WF (wk w) g v) (h_k0 : oM w k0) (h_a0 : 0 ≤ a0.toInt ∧ a0.toInt ≤ 4) : CTi w l yX8_isUp (wsy yX8_isUp prog_10_method_34_code 3 (some .boolean)) (rmL 2) [.ref (wq w k0), .int a0, .int a1] v (fun (r : Int32) (u : St) => (u = v ∧ 0 ≤ r.toInt ∧ r.toInt ≤ 1) ∧ (r = F_X8_isUp k0 a0 a1 v) ∧ True) := by
  generalize hpost : (fun (r : Int32) (u : St) => (u = v ∧ 0 ≤ r.toInt ∧ r.toInt ≤ 1) ∧ (r = F_X8_isUp k0 a0 a1 v) ∧ True) = post
  refine CTi.of prog_10_method_34_code 3 (some .boolean) "StarWalkModel" (by decide +kernel) rfl hq hw (Nat.le_of_ble_eq_true rfl) ?_
  intro pg en s m ar bl me cd ls E I hr hlk hl
  have hx := E.1.1
  have hb := E.1.2.1
  have hl : lv_has ls 3 [(0, .ref (wq w k0)), (1, .int a0), (2, .int a1)] := hl
  obtain ⟨res, hres⟩ : ∃ z, z = F_X8_isUp k0 a0 a1 v := ⟨_, rfl⟩
  have hF := hres.symm
  unfold F_X8_isUp at hF
  replace hres : res = F_X8_isUp k0 a0 a1 v := hres
  refine lv_iload_n hx hb dX8_isUp_0 rfl (lv_at hl 2 rfl) ?_
  refine lv_i2l (v := a1.toInt64) hx hb dX8_isUp_1 rfl ?_
  refine lv_aload_n hx hb dX8_isUp_2 rfl (lv_at hl 0 rfl) ?_
  refine g_StarWalkModel_at E I h_k0.1 mw_4_171 dX8_isUp_3 ?_
  refine lv_iconst (v := 4) hx hb dX8_isUp_6 (by decide) ?_
  refine lv_iload_n hx hb dX8_isUp_7 rfl (lv_at hl 1 rfl) ?_
  refine lv_imul hx hb dX8_isUp_8 ?_
  refine lv_topi (fun x2 ex2 => ?_)
  replace hF := xl_i (ex2) hF
  have hx2 : x2.toInt = 4 * a0.toInt := by rw [ex2]; exact mlI (a := 4) (b := a0.toInt) rfl rfl (by omega) (by omega)
  refine lv_iconst (v := 0) hx hb dX8_isUp_9 (by decide) ?_
  refine lv_iadd hx hb dX8_isUp_10 ?_
  refine lv_topi (fun x3 ex3 => ?_)
  replace hF := xl_i (ex3) hF
  have hx3 : x3.toInt = x2.toInt + 0 := by rw [ex3]; exact adI (a := x2.toInt) (b := 0) rfl rfl (by omega) (by omega)
  refine ga_31 E I h_k0.2.2.1 (by omega) dX8_isUp_11 ?_
  refine lv_topi (fun x4 ex4 => ?_)
  replace hF := xl_i (ex4) hF
  refine lv_i2l (v := x4.toInt64) hx hb dX8_isUp_12 rfl ?_
  refine lv_aload_n hx hb dX8_isUp_13 rfl (lv_at hl 0 rfl) ?_
  refine g_StarWalkModel_at E I h_k0.1 mw_4_171 dX8_isUp_14 ?_
  refine lv_iconst (v := 4) hx hb dX8_isUp_17 (by decide) ?_
  refine lv_iload_n hx hb dX8_isUp_18 rfl (lv_at hl 1 rfl) ?_
  refine lv_imul hx hb dX8_isUp_19 ?_
  refine lv_topi (fun x6 ex6 => ?_)
  obtain rfl : x2 = x6 := ex2.trans ex6.symm
  refine lv_iconst (v := 1) hx hb dX8_isUp_20 (by decide) ?_
  refine lv_iadd hx hb dX8_isUp_21 ?_
  refine lv_topi (fun x7 ex7 => ?_)
  replace hF := xl_i (ex7) hF
  have hx7 : x7.toInt = x2.toInt + 1 := by rw [ex7]; exact adI (a := x2.toInt) (b := 1) rfl rfl (by omega) (by omega)
  refine ga_31 E I h_k0.2.2.1 (by omega) dX8_isUp_22 ?_
  refine lv_topi (fun x8 ex8 => ?_)
  replace hF := xl_i (ex8) hF
  refine lv_i2l (v := x8.toInt64) hx hb dX8_isUp_23 rfl ?_
  refine cSi E I (c_X8_in l w g v a1.toInt64 x4.toInt64 x8.toInt64 E.2.2.1 I.2.2   ) (va_cwS 3 E.1.2.2.2.2 (gSs mw_5_29 mw_5_30 mw_1_9 mw_5_31) rfl rfl rfl (by decide +kernel) ⟨by decide, by decide⟩) rfl hl.1 rfl (Nat.le_of_ble_eq_true rfl) dX8_isUp_24 ⟨Nat.le_refl _, Nat.le_refl _⟩ (fun r10 u11 H lo hp hPS => ?_)
  have iz12 := i64_of a1
  have iz13 := i64_of x4
  have iz14 := i64_of x8
  obtain ⟨hp, hex, hfr⟩ := hp
  replace hF := xl_i hex hF
  obtain ⟨hu, p15⟩ := hp
  rw [hu] at hPS
  have I : Wo w g s.heap v H lo := ⟨hPS.1, hPS.2, I.2.2⟩
  refine bz_eq E (a := r10.toInt) rfl (tgt := 48) dX8_isUp_27 (by decide) (fun c16 => ?_) (fun c16 => ?_)
  ·
    replace hF := if_t c16 hF
    refine lv_iconst (v := 0) hx hb dX8_isUp_48 (by decide) ?_
    exact rI E I hr hlk rfl (by rw [← hpost]; exact ⟨⟨rfl, by have eL : (0 : Int32).toInt = 0 := rfl; omega⟩, hF.trans hres, trivial⟩) dX8_isUp_49
  ·
    replace hF := if_f c16 hF
    refine lv_aload_n hx hb dX8_isUp_30 rfl (lv_at hl 0 rfl) ?_
    refine g_StarWalkModel_at E I h_k0.1 mw_4_171 dX8_isUp_31 ?_
    refine lv_bipush (v := 28) hx hb dX8_isUp_34 (by decide) ?_
    refine ga_31 E I h_k0.2.2.1 (by decide) dX8_isUp_36 ?_
    refine lv_topi (fun x17 ex17 => ?_)
    replace hF := xl_i (ex17) hF
    refine lv_iload_n hx hb dX8_isUp_37 rfl (lv_at hl 2 rfl) ?_
    refine lv_ishr hx hb dX8_isUp_38 ?_
    refine lv_topi (fun x18 ex18 => ?_)
    replace hF := xl_i (ex18) hF
    refine lv_iconst (v := 1) hx hb dX8_isUp_39 (by decide) ?_
    refine lv_iand hx hb dX8_isUp_40 ?_
    refine lv_topi (fun x19 ex19 => ?_)
    replace hF := xl_i (ex19) hF
    have hx19 := anI (x := x18) (y := (1 : Int32)) (b := 1) rfl (by decide)
    rw [← ex19] at hx19
    refine bz_ne E (a := x19.toInt) rfl (tgt := 48) dX8_isUp_41 (by decide) (fun c20 => ?_) (fun c20 => ?_)
    ·
      replace hF := if_f c20 hF
      refine lv_iconst (v := 0) hx hb dX8_isUp_48 (by decide) ?_
      exact rI E I hr hlk rfl (by rw [← hpost]; exact ⟨⟨rfl, by have eL : (0 : Int32).toInt = 0 := rfl; omega⟩, hF.trans hres, trivial⟩) dX8_isUp_49
    ·
      replace hF := if_t c20 hF
      refine lv_iconst (v := 1) hx hb dX8_isUp_44 (by decide) ?_
      refine lv_goto (tgt := 49) hx hb dX8_isUp_45 (by decide) ?_
      exact rI E I hr hlk rfl (by rw [← hpost]; exact ⟨⟨rfl, by have eL : (1 : Int32).toInt = 1 := rfl; omega⟩, hF.trans hres, trivial⟩) dX8_isUp_49
def F_X8_stepsOn (k0 : Nat) (a0 : Int32) (a1 : Int32) (v : St) : Int32 × St :=
xl (fun (y83_3 : Int32) =>
xl (v.1 (k0 + 2) (26 : Int32).toNatClampNeg) fun x1 =>
if a1.toInt < x1.toInt then (
xl (v.1 (k0 + 2) (30 : Int32).toNatClampNeg) fun x14 =>
xl (x14 + (3 : Int32)) fun x15 =>
xl (up1 v (k0 + 2) (30 : Int32).toNatClampNeg x15) fun v16 =>
xl (v16.1 (k0 + 2) (31 : Int32).toNatClampNeg) fun x17 =>
xl (y83_3 + (1 : Int32)) fun x18 =>
xl (x17 + x18) fun x19 =>
xl (up1 v16 (k0 + 2) (31 : Int32).toNatClampNeg x19) fun v20 =>
((1 : Int32), v20)) else (
xl (v.1 (k0 + 2) (30 : Int32).toNatClampNeg) fun x3 =>
xl (x3 + (2 : Int32)) fun x4 =>
xl (up1 v (k0 + 2) (30 : Int32).toNatClampNeg x4) fun v5 =>
xl (v5.1 (k0 + 2) (31 : Int32).toNatClampNeg) fun x6 =>
xl ((2 : Int32) * y83_3) fun x7 =>
xl (x7 + (1 : Int32)) fun x8 =>
xl (x6 + x8) fun x9 =>
xl (up1 v5 (k0 + 2) (31 : Int32).toNatClampNeg x9) fun v10 =>
xl (v10.1 k0 19) fun x11 =>
xl (x11 + (1 : Int32)) fun x12 =>
xl (up1 v10 k0 19 x12) fun v13 =>
((2 : Int32), v13))) fun J_83 =>
xl (F_X8_pullNow k0 a1 v) fun r21 =>
if a0.toInt = 6 then (
((1 : Int32), v)) else (
if a0.toInt < 5 then (
xl (F_X8_isUp k0 a0 a1 v) fun r26 =>
if r26.toInt = 0 then (
(J_83 r21)) else (
xl (v.1 (k0 + 2) (30 : Int32).toNatClampNeg) fun x30 =>
xl (x30 + (3 : Int32)) fun x31 =>
xl (up1 v (k0 + 2) (30 : Int32).toNatClampNeg x31) fun v32 =>
xl (v32.1 (k0 + 2) (31 : Int32).toNatClampNeg) fun x33 =>
xl ((4 : Int32) * a0) fun x34 =>
xl (x34 + (3 : Int32)) fun x35 =>
xl (v32.1 (k0 + 2) x35.toNatClampNeg) fun x36 =>
if x36.toInt = 1 then (
xl (r21 + (0 : Int32)) fun x45 =>
xl (x33 + x45) fun x46 =>
xl (up1 v32 (k0 + 2) (31 : Int32).toNatClampNeg x46) fun v47 =>
((1 : Int32), v47)) else (
xl (x34 + (2 : Int32)) fun x39 =>
xl (v32.1 (k0 + 2) x39.toNatClampNeg) fun x40 =>
xl (x40 - (3 : Int32)) fun x41 =>
xl (r21 + x41) fun x42 =>
xl (x33 + x42) fun x43 =>
xl (up1 v32 (k0 + 2) (31 : Int32).toNatClampNeg x43) fun v44 =>
((1 : Int32), v44)))) else (
(J_83 r21)))
set_option maxHeartbeats 4000000 in
set_option maxRecDepth 100000 in
theorem c_X8_stepsOn (l : Launch) (w : Wp) (g : Nat → Nat → Int32) (v : St) (k0 : Nat) (a0 : Int32) (a1 : Int32) (hq : Inj w) (hw : WF (wk w) g v) (h_k0 : oM w k0) (h_a0 : 0 ≤ a0.toInt ∧ a0.toInt ≤ 6) : CTi w l yX8_stepsOn (wsy yX8_stepsOn prog_10_method_35_code 4 (some .int)) (rmL 3) [.ref (wq w k0), .int a0, .int a1] v (fun (r : Int32) (u : St) => (WF (wk w) g u ∧ 1 ≤ r.toInt ∧ r.toInt ≤ 2 ∧ u.1 (k0 + 2) 29 = v.1 (k0 + 2) 29 ∧ u.2 = v.2) ∧ ((r, u) = F_X8_stepsOn k0 a0 a1 v) ∧ (∀ k j : Nat, ¬ (k = k0 + 2 ∨ (k = k0 ∧ 19 ≤ j ∧ j ≤ 20)) → u.1 k j = v.1 k j)) := by
  generalize hpost : (fun (r : Int32) (u : St) => (WF (wk w) g u ∧ 1 ≤ r.toInt ∧ r.toInt ≤ 2 ∧ u.1 (k0 + 2) 29 = v.1 (k0 + 2) 29 ∧ u.2 = v.2) ∧ ((r, u) = F_X8_stepsOn k0 a0 a1 v) ∧ (∀ k j : Nat, ¬ (k = k0 + 2 ∨ (k = k0 ∧ 19 ≤ j ∧ j ≤ 20)) → u.1 k j = v.1 k j)) = post
  refine CTi.of prog_10_method_35_code 4 (some .int) "StarWalkModel" (by decide +kernel) rfl hq hw (Nat.le_of_ble_eq_true rfl) ?_
  intro pg en s m ar bl me cd ls E I hr hlk hl
  have hx := E.1.1
  have hb := E.1.2.1
  have hl : lv_has ls 4 [(0, .ref (wq w k0)), (1, .int a0), (2, .int a1)] := hl
  obtain ⟨res, hres⟩ : ∃ z, z = F_X8_stepsOn k0 a0 a1 v := ⟨_, rfl⟩
  have hF := hres.symm
  unfold F_X8_stepsOn at hF
  replace hres : res = F_X8_stepsOn k0 a0 a1 v := hres
  have rz0 : ∀ k j : Nat, ¬ (k = k0 + 2 ∨ (k = k0 ∧ 19 ≤ j ∧ j ≤ 20)) → v.1 k j = v.1 k j := fun _ _ _ => rfl
  obtain ⟨J_83, eJ_83, hF⟩ := xl_e hF
  have B_83 : ∀ (H : Heap) (lo : List Loc), Wo w g s.heap v H lo → ∀ (y83_3 : Int32), (v.1 (k0 + 2) 29 = (v.1 (k0 + 2) 29)) → (v.2 = v.2) → (∀ k j : Nat, ¬ (k = k0 + 2 ∨ (k = k0 ∧ 19 ≤ j ∧ j ≤ 20)) → v.1 k j = v.1 k j) → (J_83 y83_3 = res) → ∀ (ls : Array Slot), lv_has ls 4 [(0, .ref (wq w k0)), (2, .int a1), (3, .int y83_3)] → W pg l en (rmL 3) s m ar bl me cd H lo 0 0 (Zi w bl ar s post) (F0 m 83 ls []) := by
    intro H lo  I y83_3 MB83_k0229 rB83_L rB83_Z hF ls hl
    replace hF := ap1 eJ_83 hF
    refine lv_iload_n hx hb dX8_stepsOn_83 rfl (lv_at hl 1 rfl) ?_
    refine lv_aload_n hx hb dX8_stepsOn_84 rfl (lv_at hl 0 rfl) ?_
    refine g_StarWalkModel_at E I h_k0.1 mw_4_171 dX8_stepsOn_85 ?_
    refine lv_bipush (v := 26) hx hb dX8_stepsOn_88 (by decide) ?_
    refine ga_31 E I h_k0.2.2.1 (by decide) dX8_stepsOn_90 ?_
    refine lv_topi (fun x1 ex1 => ?_)
    replace hF := xl_i (ex1) hF
    refine bi_ge E (a := a1.toInt) (b := x1.toInt) rfl rfl (tgt := 120) dX8_stepsOn_91 (by decide) (fun c2 => ?_) (fun c2 => ?_)
    ·
      have rga1 := i32_rng a1
      have rgx1 := i32_rng x1
      replace hF := if_l c2 hF
      refine lv_aload_n hx hb dX8_stepsOn_120 rfl (lv_at hl 0 rfl) ?_
      refine g_StarWalkModel_at E I h_k0.1 mw_4_171 dX8_stepsOn_121 ?_
      refine lv_bipush (v := 30) hx hb dX8_stepsOn_124 (by decide) ?_
      refine lv_dup2_11 hx hb dX8_stepsOn_126 rfl rfl ?_
      refine ga_31 E I h_k0.2.2.1 (by decide) dX8_stepsOn_127 ?_
      refine lv_topi (fun x3 ex3 => ?_)
      replace hF := xl_i (ex3) hF
      refine lv_iconst (v := 2) hx hb dX8_stepsOn_128 (by decide) ?_
      refine lv_iadd hx hb dX8_stepsOn_129 ?_
      refine lv_topi (fun x4 ex4 => ?_)
      replace hF := xl_i (ex4) hF
      refine pa_31 E I h_k0.2.2.1 (by decide) (by have ci : (30 : Int32).toNatClampNeg = 30 := rfl; rw [ci]; simp only [okk]; omega) dX8_stepsOn_130 (fun H lo I => ?_)
      generalize ev5 : up1 v (k0 + 2) (30 : Int32).toNatClampNeg x4 = v5 at I
      replace hF := xl_i (ev5.symm) hF
      have mv5_0 : v5.1 (k0 + 2) 29 = (v.1 (k0 + 2) 29) := by rw [← ev5, up1_n _ _ (Or.inr (by decide))] <;> exact MB83_k0229
      have rzv5 : ∀ k j : Nat, ¬ (k = k0 + 2 ∨ (k = k0 ∧ 19 ≤ j ∧ j ≤ 20)) → v5.1 k j = v.1 k j := fun k j h => fz_u ev5 (by have cl30 : (30 : Int32).toNatClampNeg = 30 := rfl; omega) (rB83_Z k j h)
      have rlv5_L : v5.2 = v.2 := (congrArg Prod.snd ev5).symm.trans rB83_L
      refine lv_aload_n hx hb dX8_stepsOn_131 rfl (lv_at hl 0 rfl) ?_
      refine g_StarWalkModel_at E I h_k0.1 mw_4_171 dX8_stepsOn_132 ?_
      refine lv_bipush (v := 31) hx hb dX8_stepsOn_135 (by decide) ?_
      refine lv_dup2_11 hx hb dX8_stepsOn_137 rfl rfl ?_
      refine ga_31 E I h_k0.2.2.1 (by decide) dX8_stepsOn_138 ?_
      refine lv_topi (fun x6 ex6 => ?_)
      replace hF := xl_i (ex6) hF
      refine lv_iconst (v := 2) hx hb dX8_stepsOn_139 (by decide) ?_
      refine lv_iload_n hx hb dX8_stepsOn_140 rfl (lv_at hl 2 rfl) ?_
      refine lv_imul hx hb dX8_stepsOn_141 ?_
      refine lv_topi (fun x7 ex7 => ?_)
      replace hF := xl_i (ex7) hF
      refine lv_iconst (v := 1) hx hb dX8_stepsOn_142 (by decide) ?_
      refine lv_iadd hx hb dX8_stepsOn_143 ?_
      refine lv_topi (fun x8 ex8 => ?_)
      replace hF := xl_i (ex8) hF
      refine lv_iadd hx hb dX8_stepsOn_144 ?_
      refine lv_topi (fun x9 ex9 => ?_)
      replace hF := xl_i (ex9) hF
      refine pa_31 E I h_k0.2.2.1 (by decide) (by have ci : (31 : Int32).toNatClampNeg = 31 := rfl; rw [ci]; simp only [okk]; omega) dX8_stepsOn_145 (fun H lo I => ?_)
      generalize ev10 : up1 v5 (k0 + 2) (31 : Int32).toNatClampNeg x9 = v10 at I
      replace hF := xl_i (ev10.symm) hF
      have mv10_0 : v10.1 (k0 + 2) 29 = (v.1 (k0 + 2) 29) := by rw [← ev10, up1_n _ _ (Or.inr (by decide))] <;> exact mv5_0
      have rzv10 : ∀ k j : Nat, ¬ (k = k0 + 2 ∨ (k = k0 ∧ 19 ≤ j ∧ j ≤ 20)) → v10.1 k j = v.1 k j := fun k j h => fz_u ev10 (by have cl31 : (31 : Int32).toNatClampNeg = 31 := rfl; omega) (rzv5 k j h)
      have rlv10_L : v10.2 = v.2 := (congrArg Prod.snd ev10).symm.trans rlv5_L
      refine lv_aload_n hx hb dX8_stepsOn_146 rfl (lv_at hl 0 rfl) ?_
      refine lv_dup hx hb dX8_stepsOn_147 rfl ?_
      refine g_StarWalkModel_blindSteps E I h_k0.1 mw_4_189 dX8_stepsOn_148 ?_
      refine lv_topi (fun x11 ex11 => ?_)
      replace hF := xl_i (ex11) hF
      refine lv_iconst (v := 1) hx hb dX8_stepsOn_151 (by decide) ?_
      refine lv_iadd hx hb dX8_stepsOn_152 ?_
      refine lv_topi (fun x12 ex12 => ?_)
      replace hF := xl_i (ex12) hF
      refine p_StarWalkModel_blindSteps E I h_k0.1 mw_4_189 dX8_stepsOn_153 (fun H lo I => ?_)
      generalize ev13 : up1 v10 k0 19 x12 = v13 at I
      replace hF := xl_i (ev13.symm) hF
      have mv13_0 : v13.1 (k0 + 2) 29 = (v.1 (k0 + 2) 29) := by rw [← ev13, up1_n _ _ (Or.inl (by omega))] <;> exact mv10_0
      have rzv13 : ∀ k j : Nat, ¬ (k = k0 + 2 ∨ (k = k0 ∧ 19 ≤ j ∧ j ≤ 20)) → v13.1 k j = v.1 k j := fun k j h => fz_u ev13 (by omega) (rzv10 k j h)
      have rlv13_L : v13.2 = v.2 := (congrArg Prod.snd ev13).symm.trans rlv10_L
      refine lv_iconst (v := 2) hx hb dX8_stepsOn_156 (by decide) ?_
      exact rI E I hr hlk rfl (by rw [← hpost]; exact ⟨⟨I.2.2, by decide, by decide, mv13_0, rlv13_L⟩, hF.trans hres, rzv13⟩) dX8_stepsOn_157
    ·
      have rga1 := i32_rng a1
      have rgx1 := i32_rng x1
      replace hF := if_t c2 hF
      refine lv_aload_n hx hb dX8_stepsOn_94 rfl (lv_at hl 0 rfl) ?_
      refine g_StarWalkModel_at E I h_k0.1 mw_4_171 dX8_stepsOn_95 ?_
      refine lv_bipush (v := 30) hx hb dX8_stepsOn_98 (by decide) ?_
      refine lv_dup2_11 hx hb dX8_stepsOn_100 rfl rfl ?_
      refine ga_31 E I h_k0.2.2.1 (by decide) dX8_stepsOn_101 ?_
      refine lv_topi (fun x14 ex14 => ?_)
      replace hF := xl_i (ex14) hF
      refine lv_iconst (v := 3) hx hb dX8_stepsOn_102 (by decide) ?_
      refine lv_iadd hx hb dX8_stepsOn_103 ?_
      refine lv_topi (fun x15 ex15 => ?_)
      replace hF := xl_i (ex15) hF
      refine pa_31 E I h_k0.2.2.1 (by decide) (by have ci : (30 : Int32).toNatClampNeg = 30 := rfl; rw [ci]; simp only [okk]; omega) dX8_stepsOn_104 (fun H lo I => ?_)
      generalize ev16 : up1 v (k0 + 2) (30 : Int32).toNatClampNeg x15 = v16 at I
      replace hF := xl_i (ev16.symm) hF
      have mv16_0 : v16.1 (k0 + 2) 29 = (v.1 (k0 + 2) 29) := by rw [← ev16, up1_n _ _ (Or.inr (by decide))] <;> exact MB83_k0229
      have rzv16 : ∀ k j : Nat, ¬ (k = k0 + 2 ∨ (k = k0 ∧ 19 ≤ j ∧ j ≤ 20)) → v16.1 k j = v.1 k j := fun k j h => fz_u ev16 (by have cl30 : (30 : Int32).toNatClampNeg = 30 := rfl; omega) (rB83_Z k j h)
      have rlv16_L : v16.2 = v.2 := (congrArg Prod.snd ev16).symm.trans rB83_L
      refine lv_aload_n hx hb dX8_stepsOn_105 rfl (lv_at hl 0 rfl) ?_
      refine g_StarWalkModel_at E I h_k0.1 mw_4_171 dX8_stepsOn_106 ?_
      refine lv_bipush (v := 31) hx hb dX8_stepsOn_109 (by decide) ?_
      refine lv_dup2_11 hx hb dX8_stepsOn_111 rfl rfl ?_
      refine ga_31 E I h_k0.2.2.1 (by decide) dX8_stepsOn_112 ?_
      refine lv_topi (fun x17 ex17 => ?_)
      replace hF := xl_i (ex17) hF
      refine lv_iload_n hx hb dX8_stepsOn_113 rfl (lv_at hl 2 rfl) ?_
      refine lv_iconst (v := 1) hx hb dX8_stepsOn_114 (by decide) ?_
      refine lv_iadd hx hb dX8_stepsOn_115 ?_
      refine lv_topi (fun x18 ex18 => ?_)
      replace hF := xl_i (ex18) hF
      refine lv_iadd hx hb dX8_stepsOn_116 ?_
      refine lv_topi (fun x19 ex19 => ?_)
      replace hF := xl_i (ex19) hF
      refine pa_31 E I h_k0.2.2.1 (by decide) (by have ci : (31 : Int32).toNatClampNeg = 31 := rfl; rw [ci]; simp only [okk]; omega) dX8_stepsOn_117 (fun H lo I => ?_)
      generalize ev20 : up1 v16 (k0 + 2) (31 : Int32).toNatClampNeg x19 = v20 at I
      replace hF := xl_i (ev20.symm) hF
      have mv20_0 : v20.1 (k0 + 2) 29 = (v.1 (k0 + 2) 29) := by rw [← ev20, up1_n _ _ (Or.inr (by decide))] <;> exact mv16_0
      have rzv20 : ∀ k j : Nat, ¬ (k = k0 + 2 ∨ (k = k0 ∧ 19 ≤ j ∧ j ≤ 20)) → v20.1 k j = v.1 k j := fun k j h => fz_u ev20 (by have cl31 : (31 : Int32).toNatClampNeg = 31 := rfl; omega) (rzv16 k j h)
      have rlv20_L : v20.2 = v.2 := (congrArg Prod.snd ev20).symm.trans rlv16_L
      refine lv_iconst (v := 1) hx hb dX8_stepsOn_118 (by decide) ?_
      exact rI E I hr hlk rfl (by rw [← hpost]; exact ⟨⟨I.2.2, by decide, by decide, mv20_0, rlv20_L⟩, hF.trans hres, rzv20⟩) dX8_stepsOn_119
  refine lv_aload_n hx hb dX8_stepsOn_0 rfl (lv_at hl 0 rfl) ?_
  refine lv_iload_n hx hb dX8_stepsOn_1 rfl (lv_at hl 2 rfl) ?_
  refine cVi E I (c_X8_pullNow l w g v k0 a1 E.2.2.1 I.2.2 h_k0  ) (cwV 1 E.1.2.2.2.2 (gWs (C := "StarWalkModel") mw_5_196 mw_5_198 mw_s_49 mw_1_9 mw_5_199) rfl rfl rfl (by decide +kernel) ⟨by decide, by decide⟩) h_k0.1.1 ((ce_o h_k0.1.2).trans rfl) rfl rfl hl.1 rfl (Nat.le_of_ble_eq_true rfl) dX8_stepsOn_2 ⟨Nat.le_refl _, Nat.le_refl _⟩ (fun r21 u22 H lo hp hPS => ?_)
  obtain ⟨hp, hex, hfr⟩ := hp
  replace hF := xl_i hex hF
  obtain ⟨hu, p23⟩ := hp
  rw [hu] at hPS
  have I : Wo w g s.heap v H lo := ⟨hPS.1, hPS.2, I.2.2⟩
  refine lv_istore_n (lv' := [(3, .int r21), (0, .ref (wq w k0)), (1, .int a0), (2, .int a1)]) hx hb dX8_stepsOn_5 rfl hl (by decide) rfl (fun ls hl => ?_)
  refine lv_iload_n hx hb dX8_stepsOn_6 rfl (lv_at hl 2 rfl) ?_
  refine lv_bipush (v := 6) hx hb dX8_stepsOn_7 (by decide) ?_
  refine bi_ne E (a := a0.toInt) (b := 6) rfl rfl (tgt := 14) dX8_stepsOn_9 (by decide) (fun c24 => ?_) (fun c24 => ?_)
  ·
    replace hF := if_f c24 hF
    refine lv_iload_n hx hb dX8_stepsOn_14 rfl (lv_at hl 2 rfl) ?_
    refine lv_iconst (v := 5) hx hb dX8_stepsOn_15 (by decide) ?_
    refine bi_ge E (a := a0.toInt) (b := 5) rfl rfl (tgt := 83) dX8_stepsOn_16 (by decide) (fun c25 => ?_) (fun c25 => ?_)
    ·
      replace hF := if_l c25 hF
      exact B_83 _ _ I r21 rfl rfl rz0 hF ls (lv_sub hl [1, 3, 0] rfl)
    ·
      replace hF := if_t c25 hF
      refine lv_aload_n hx hb dX8_stepsOn_19 rfl (lv_at hl 1 rfl) ?_
      refine lv_iload_n hx hb dX8_stepsOn_20 rfl (lv_at hl 2 rfl) ?_
      refine lv_iload_n hx hb dX8_stepsOn_21 rfl (lv_at hl 3 rfl) ?_
      refine cVi E I (c_X8_isUp l w g v k0 a0 a1 E.2.2.1 I.2.2 h_k0 (by omega) ) (cwV 2 E.1.2.2.2.2 (gWs (C := "StarWalkModel") mw_5_207 mw_5_209 mw_s_50 mw_1_9 mw_5_210) rfl rfl rfl (by decide +kernel) ⟨by decide, by decide⟩) h_k0.1.1 ((ce_o h_k0.1.2).trans rfl) rfl rfl hl.1 rfl (Nat.le_of_ble_eq_true rfl) dX8_stepsOn_22 ⟨Nat.le_refl _, Nat.le_refl _⟩ (fun r26 u27 H lo hp hPS => ?_)
      obtain ⟨hp, hex, hfr⟩ := hp
      replace hF := xl_i hex hF
      obtain ⟨hu, p28⟩ := hp
      rw [hu] at hPS
      have I : Wo w g s.heap v H lo := ⟨hPS.1, hPS.2, I.2.2⟩
      refine bz_eq E (a := r26.toInt) rfl (tgt := 83) dX8_stepsOn_25 (by decide) (fun c29 => ?_) (fun c29 => ?_)
      ·
        replace hF := if_t c29 hF
        exact B_83 _ _ I r21 rfl rfl rz0 hF ls (lv_sub hl [1, 3, 0] rfl)
      ·
        replace hF := if_f c29 hF
        refine lv_aload_n hx hb dX8_stepsOn_28 rfl (lv_at hl 1 rfl) ?_
        refine g_StarWalkModel_at E I h_k0.1 mw_4_171 dX8_stepsOn_29 ?_
        refine lv_bipush (v := 30) hx hb dX8_stepsOn_32 (by decide) ?_
        refine lv_dup2_11 hx hb dX8_stepsOn_34 rfl rfl ?_
        refine ga_31 E I h_k0.2.2.1 (by decide) dX8_stepsOn_35 ?_
        refine lv_topi (fun x30 ex30 => ?_)
        replace hF := xl_i (ex30) hF
        refine lv_iconst (v := 3) hx hb dX8_stepsOn_36 (by decide) ?_
        refine lv_iadd hx hb dX8_stepsOn_37 ?_
        refine lv_topi (fun x31 ex31 => ?_)
        replace hF := xl_i (ex31) hF
        refine pa_31 E I h_k0.2.2.1 (by decide) (by have ci : (30 : Int32).toNatClampNeg = 30 := rfl; rw [ci]; simp only [okk]; omega) dX8_stepsOn_38 (fun H lo I => ?_)
        generalize ev32 : up1 v (k0 + 2) (30 : Int32).toNatClampNeg x31 = v32 at I
        replace hF := xl_i (ev32.symm) hF
        have mv32_0 : v32.1 (k0 + 2) 29 = (v.1 (k0 + 2) 29) := by rw [← ev32, up1_n _ _ (Or.inr (by decide))] <;> exact rfl
        have rzv32 : ∀ k j : Nat, ¬ (k = k0 + 2 ∨ (k = k0 ∧ 19 ≤ j ∧ j ≤ 20)) → v32.1 k j = v.1 k j := fun k j h => fz_u ev32 (by have cl30 : (30 : Int32).toNatClampNeg = 30 := rfl; omega) (rz0 k j h)
        have rlv32_L : v32.2 = v.2 := (congrArg Prod.snd ev32).symm.trans rfl
        refine lv_aload_n hx hb dX8_stepsOn_39 rfl (lv_at hl 1 rfl) ?_
        refine g_StarWalkModel_at E I h_k0.1 mw_4_171 dX8_stepsOn_40 ?_
        refine lv_bipush (v := 31) hx hb dX8_stepsOn_43 (by decide) ?_
        refine lv_dup2_11 hx hb dX8_stepsOn_45 rfl rfl ?_
        refine ga_31 E I h_k0.2.2.1 (by decide) dX8_stepsOn_46 ?_
        refine lv_topi (fun x33 ex33 => ?_)
        replace hF := xl_i (ex33) hF
        refine lv_iload_n hx hb dX8_stepsOn_47 rfl (lv_at hl 0 rfl) ?_
        refine lv_aload_n hx hb dX8_stepsOn_48 rfl (lv_at hl 1 rfl) ?_
        refine g_StarWalkModel_at E I h_k0.1 mw_4_171 dX8_stepsOn_49 ?_
        refine lv_iconst (v := 4) hx hb dX8_stepsOn_52 (by decide) ?_
        refine lv_iload_n hx hb dX8_stepsOn_53 rfl (lv_at hl 2 rfl) ?_
        refine lv_imul hx hb dX8_stepsOn_54 ?_
        refine lv_topi (fun x34 ex34 => ?_)
        replace hF := xl_i (ex34) hF
        have hx34 : x34.toInt = 4 * a0.toInt := by rw [ex34]; exact mlI (a := 4) (b := a0.toInt) rfl rfl (by omega) (by omega)
        refine lv_iconst (v := 3) hx hb dX8_stepsOn_55 (by decide) ?_
        refine lv_iadd hx hb dX8_stepsOn_56 ?_
        refine lv_topi (fun x35 ex35 => ?_)
        replace hF := xl_i (ex35) hF
        have hx35 : x35.toInt = x34.toInt + 3 := by rw [ex35]; exact adI (a := x34.toInt) (b := 3) rfl rfl (by omega) (by omega)
        refine ga_31 E I h_k0.2.2.1 (by omega) dX8_stepsOn_57 ?_
        refine lv_topi (fun x36 ex36 => ?_)
        replace hF := xl_i (ex36) hF
        refine lv_iconst (v := 1) hx hb dX8_stepsOn_58 (by decide) ?_
        refine bi_ne E (a := x36.toInt) (b := 1) rfl rfl (tgt := 66) dX8_stepsOn_59 (by decide) (fun c37 => ?_) (fun c37 => ?_)
        ·
          replace hF := if_f c37 hF
          refine lv_aload_n hx hb dX8_stepsOn_66 rfl (lv_at hl 1 rfl) ?_
          refine g_StarWalkModel_at E I h_k0.1 mw_4_171 dX8_stepsOn_67 ?_
          refine lv_iconst (v := 4) hx hb dX8_stepsOn_70 (by decide) ?_
          refine lv_iload_n hx hb dX8_stepsOn_71 rfl (lv_at hl 2 rfl) ?_
          refine lv_imul hx hb dX8_stepsOn_72 ?_
          refine lv_topi (fun x38 ex38 => ?_)
          obtain rfl : x34 = x38 := ex34.trans ex38.symm
          refine lv_iconst (v := 2) hx hb dX8_stepsOn_73 (by decide) ?_
          refine lv_iadd hx hb dX8_stepsOn_74 ?_
          refine lv_topi (fun x39 ex39 => ?_)
          replace hF := xl_i (ex39) hF
          have hx39 : x39.toInt = x34.toInt + 2 := by rw [ex39]; exact adI (a := x34.toInt) (b := 2) rfl rfl (by omega) (by omega)
          refine ga_31 E I h_k0.2.2.1 (by omega) dX8_stepsOn_75 ?_
          refine lv_topi (fun x40 ex40 => ?_)
          replace hF := xl_i (ex40) hF
          refine lv_iconst (v := 3) hx hb dX8_stepsOn_76 (by decide) ?_
          refine lv_isub hx hb dX8_stepsOn_77 ?_
          refine lv_topi (fun x41 ex41 => ?_)
          replace hF := xl_i (ex41) hF
          refine lv_iadd hx hb dX8_stepsOn_78 ?_
          refine lv_topi (fun x42 ex42 => ?_)
          replace hF := xl_i (ex42) hF
          refine lv_iadd hx hb dX8_stepsOn_79 ?_
          refine lv_topi (fun x43 ex43 => ?_)
          replace hF := xl_i (ex43) hF
          refine pa_31 E I h_k0.2.2.1 (by decide) (by have ci : (31 : Int32).toNatClampNeg = 31 := rfl; rw [ci]; simp only [okk]; omega) dX8_stepsOn_80 (fun H lo I => ?_)
          generalize ev44 : up1 v32 (k0 + 2) (31 : Int32).toNatClampNeg x43 = v44 at I
          replace hF := xl_i (ev44.symm) hF
          have mv44_0 : v44.1 (k0 + 2) 29 = (v.1 (k0 + 2) 29) := by rw [← ev44, up1_n _ _ (Or.inr (by decide))] <;> exact mv32_0
          have rzv44 : ∀ k j : Nat, ¬ (k = k0 + 2 ∨ (k = k0 ∧ 19 ≤ j ∧ j ≤ 20)) → v44.1 k j = v.1 k j := fun k j h => fz_u ev44 (by have cl31 : (31 : Int32).toNatClampNeg = 31 := rfl; omega) (rzv32 k j h)
          have rlv44_L : v44.2 = v.2 := (congrArg Prod.snd ev44).symm.trans rlv32_L
          refine lv_iconst (v := 1) hx hb dX8_stepsOn_81 (by decide) ?_
          exact rI E I hr hlk rfl (by rw [← hpost]; exact ⟨⟨I.2.2, by decide, by decide, mv44_0, rlv44_L⟩, hF.trans hres, rzv44⟩) dX8_stepsOn_82
        ·
          replace hF := if_t c37 hF
          refine lv_iconst (v := 0) hx hb dX8_stepsOn_62 (by decide) ?_
          refine lv_goto (tgt := 78) hx hb dX8_stepsOn_63 (by decide) ?_
          refine lv_iadd hx hb dX8_stepsOn_78 ?_
          refine lv_topi (fun x45 ex45 => ?_)
          replace hF := xl_i (ex45) hF
          have hx45 : x45.toInt = r21.toInt + 0 := by have := i32_rng r21; rw [ex45]; exact adI (a := r21.toInt) (b := 0) rfl rfl (by omega) (by omega)
          refine lv_iadd hx hb dX8_stepsOn_79 ?_
          refine lv_topi (fun x46 ex46 => ?_)
          replace hF := xl_i (ex46) hF
          refine pa_31 E I h_k0.2.2.1 (by decide) (by have ci : (31 : Int32).toNatClampNeg = 31 := rfl; rw [ci]; simp only [okk]; omega) dX8_stepsOn_80 (fun H lo I => ?_)
          generalize ev47 : up1 v32 (k0 + 2) (31 : Int32).toNatClampNeg x46 = v47 at I
          replace hF := xl_i (ev47.symm) hF
          have mv47_0 : v47.1 (k0 + 2) 29 = (v.1 (k0 + 2) 29) := by rw [← ev47, up1_n _ _ (Or.inr (by decide))] <;> exact mv32_0
          have rzv47 : ∀ k j : Nat, ¬ (k = k0 + 2 ∨ (k = k0 ∧ 19 ≤ j ∧ j ≤ 20)) → v47.1 k j = v.1 k j := fun k j h => fz_u ev47 (by have cl31 : (31 : Int32).toNatClampNeg = 31 := rfl; omega) (rzv32 k j h)
          have rlv47_L : v47.2 = v.2 := (congrArg Prod.snd ev47).symm.trans rlv32_L
          refine lv_iconst (v := 1) hx hb dX8_stepsOn_81 (by decide) ?_
          exact rI E I hr hlk rfl (by rw [← hpost]; exact ⟨⟨I.2.2, by decide, by decide, mv47_0, rlv47_L⟩, hF.trans hres, rzv47⟩) dX8_stepsOn_82
  ·
    replace hF := if_t c24 hF
    refine lv_iconst (v := 1) hx hb dX8_stepsOn_12 (by decide) ?_
    exact rI E I hr hlk rfl (by rw [← hpost]; exact ⟨⟨I.2.2, by decide, by decide, rfl, rfl⟩, hF.trans hres, rz0⟩) dX8_stepsOn_13
def F_X8_canWalk (k0 : Nat) (v : St) : Int32 :=
xl (v.1 (k0 + 2) (27 : Int32).toNatClampNeg) fun x1 =>
if 0 < x1.toInt then (
xl (v.1 (k0 + 2) (29 : Int32).toNatClampNeg) fun x3 =>
if x3.toInt < 10 then (
(1 : Int32)) else (
(0 : Int32))) else (
(0 : Int32))
set_option maxHeartbeats 4000000 in
set_option maxRecDepth 100000 in
theorem c_X8_canWalk (l : Launch) (w : Wp) (g : Nat → Nat → Int32) (v : St) (k0 : Nat) (hq : Inj w) (hw : WF (wk w) g v) (h_k0 : oM w k0) : CTi w l yX8_canWalk (wsy yX8_canWalk prog_10_method_36_code 1 (some .boolean)) (rmL 1) [.ref (wq w k0)] v (fun (r : Int32) (u : St) => (u = v ∧ 0 ≤ r.toInt ∧ r.toInt ≤ 1 ∧ (¬ r.toInt = 0 → (v.1 (k0 + 2) 29).toInt ≤ 9)) ∧ (r = F_X8_canWalk k0 v) ∧ True) := by
  generalize hpost : (fun (r : Int32) (u : St) => (u = v ∧ 0 ≤ r.toInt ∧ r.toInt ≤ 1 ∧ (¬ r.toInt = 0 → (v.1 (k0 + 2) 29).toInt ≤ 9)) ∧ (r = F_X8_canWalk k0 v) ∧ True) = post
  refine CTi.of prog_10_method_36_code 1 (some .boolean) "StarWalkModel" (by decide +kernel) rfl hq hw (Nat.le_of_ble_eq_true rfl) ?_
  intro pg en s m ar bl me cd ls E I hr hlk hl
  have hx := E.1.1
  have hb := E.1.2.1
  have hl : lv_has ls 1 [(0, .ref (wq w k0))] := hl
  obtain ⟨res, hres⟩ : ∃ z, z = F_X8_canWalk k0 v := ⟨_, rfl⟩
  have hF := hres.symm
  unfold F_X8_canWalk at hF
  replace hres : res = F_X8_canWalk k0 v := hres
  refine lv_aload_n hx hb dX8_canWalk_0 rfl (lv_at hl 0 rfl) ?_
  refine g_StarWalkModel_at E I h_k0.1 mw_4_171 dX8_canWalk_1 ?_
  refine lv_bipush (v := 27) hx hb dX8_canWalk_4 (by decide) ?_
  refine ga_31 E I h_k0.2.2.1 (by decide) dX8_canWalk_6 ?_
  refine lv_topi (fun x1 ex1 => ?_)
  replace hF := xl_i (ex1) hF
  refine bz_le E (a := x1.toInt) rfl (tgt := 26) dX8_canWalk_7 (by decide) (fun c2 => ?_) (fun c2 => ?_)
  ·
    replace hF := if_l c2 hF
    refine lv_iconst (v := 0) hx hb dX8_canWalk_26 (by decide) ?_
    exact rI E I hr hlk rfl (by rw [← hpost]; exact ⟨⟨rfl, by have eL : (0 : Int32).toInt = 0 := rfl; omega⟩, hF.trans hres, trivial⟩) dX8_canWalk_27
  ·
    replace hF := if_t c2 hF
    refine lv_aload_n hx hb dX8_canWalk_10 rfl (lv_at hl 0 rfl) ?_
    refine g_StarWalkModel_at E I h_k0.1 mw_4_171 dX8_canWalk_11 ?_
    refine lv_bipush (v := 29) hx hb dX8_canWalk_14 (by decide) ?_
    refine ga_31 E I h_k0.2.2.1 (by decide) dX8_canWalk_16 ?_
    refine lv_topi (fun x3 ex3 => ?_)
    replace hF := xl_i (ex3) hF
    have tx3 : x3.toInt = (v.1 (k0 + 2) 29).toInt := congrArg Int32.toInt (ex3.trans rfl)
    have hx3 : 0 ≤ x3.toInt ∧ x3.toInt ≤ 10 := by have h := ra_31 I h_k0.2.2.1 29; rw [ex3]; exact h.2.1 rfl
    refine lv_bipush (v := 10) hx hb dX8_canWalk_17 (by decide) ?_
    refine bi_ge E (a := x3.toInt) (b := 10) rfl rfl (tgt := 26) dX8_canWalk_19 (by decide) (fun c4 => ?_) (fun c4 => ?_)
    ·
      replace hF := if_l c4 hF
      refine lv_iconst (v := 0) hx hb dX8_canWalk_26 (by decide) ?_
      exact rI E I hr hlk rfl (by rw [← hpost]; exact ⟨⟨rfl, by have eL : (0 : Int32).toInt = 0 := rfl; omega⟩, hF.trans hres, trivial⟩) dX8_canWalk_27
    ·
      replace hF := if_t c4 hF
      refine lv_iconst (v := 1) hx hb dX8_canWalk_22 (by decide) ?_
      refine lv_goto (tgt := 27) hx hb dX8_canWalk_23 (by decide) ?_
      exact rI E I hr hlk rfl (by rw [← hpost]; exact ⟨⟨rfl, by have eL : (1 : Int32).toInt = 1 := rfl; omega⟩, hF.trans hres, trivial⟩) dX8_canWalk_27
def F_X8_steps (k0 : Nat) (a0 : Int32) (v : St) : Int32 × St :=
xl (fun (z52_1 : Int32) (z52_2 : Int32) (v_52 : St) =>
xl (up1 v_52 (k0 + 2) z52_1.toNatClampNeg z52_2) fun v1 =>
xl (v1.1 (k0 + 2) (29 : Int32).toNatClampNeg) fun x2 =>
xl (x2 + (1 : Int32)) fun x3 =>
xl (up1 v1 (k0 + 2) (29 : Int32).toNatClampNeg x3) fun v4 =>
((1 : Int32), v4)) fun J_52 =>
xl (F_X8_canWalk k0 v) fun r5 =>
if r5.toInt = 0 then (
((0 : Int32), v)) else (
xl (v.1 (k0 + 2) (29 : Int32).toNatClampNeg) fun x9 =>
xm (F_X8_stepsOn k0 a0 x9 v) fun r10 u11 =>
xl (u11.1 (k0 + 2) (27 : Int32).toNatClampNeg) fun x13 =>
if r10.toInt < x13.toInt then (
xl (u11.1 (k0 + 2) (27 : Int32).toNatClampNeg) fun x15 =>
xl (x15 - r10) fun x16 =>
(J_52 (27 : Int32) x16 u11)) else (
(J_52 (27 : Int32) (0 : Int32) u11)))
set_option maxHeartbeats 4000000 in
set_option maxRecDepth 100000 in
theorem c_X8_steps (l : Launch) (w : Wp) (g : Nat → Nat → Int32) (v : St) (k0 : Nat) (a0 : Int32) (hq : Inj w) (hw : WF (wk w) g v) (h_k0 : oM w k0) (h_a0 : 0 ≤ a0.toInt ∧ a0.toInt ≤ 6) : CTi w l yX8_steps (wsy yX8_steps prog_10_method_37_code 3 (some .boolean)) (rmL 4) [.ref (wq w k0), .int a0] v (fun (r : Int32) (u : St) => (WF (wk w) g u ∧ 0 ≤ r.toInt ∧ r.toInt ≤ 1 ∧ u.2 = v.2) ∧ ((r, u) = F_X8_steps k0 a0 v) ∧ (∀ k j : Nat, ¬ (k = k0 + 2 ∨ (k = k0 ∧ 19 ≤ j ∧ j ≤ 20)) → u.1 k j = v.1 k j)) := by
  generalize hpost : (fun (r : Int32) (u : St) => (WF (wk w) g u ∧ 0 ≤ r.toInt ∧ r.toInt ≤ 1 ∧ u.2 = v.2) ∧ ((r, u) = F_X8_steps k0 a0 v) ∧ (∀ k j : Nat, ¬ (k = k0 + 2 ∨ (k = k0 ∧ 19 ≤ j ∧ j ≤ 20)) → u.1 k j = v.1 k j)) = post
  refine CTi.of prog_10_method_37_code 3 (some .boolean) "StarWalkModel" (by decide +kernel) rfl hq hw (Nat.le_of_ble_eq_true rfl) ?_
  intro pg en s m ar bl me cd ls E I hr hlk hl
  have hx := E.1.1
  have hb := E.1.2.1
  have hl : lv_has ls 3 [(0, .ref (wq w k0)), (1, .int a0)] := hl
  obtain ⟨res, hres⟩ : ∃ z, z = F_X8_steps k0 a0 v := ⟨_, rfl⟩
  have hF := hres.symm
  unfold F_X8_steps at hF
  replace hres : res = F_X8_steps k0 a0 v := hres
  have rz0 : ∀ k j : Nat, ¬ (k = k0 + 2 ∨ (k = k0 ∧ 19 ≤ j ∧ j ≤ 20)) → v.1 k j = v.1 k j := fun _ _ _ => rfl
  obtain ⟨J_52, eJ_52, hF⟩ := xl_e hF
  have B_52 : ∀ (H : Heap) (lo : List Loc) (v_52 : St), Wo w g s.heap v_52 H lo → ∀ (z52_1 : Int32) (z52_2 : Int32), (27 ≤ z52_1.toInt ∧ z52_1.toInt ≤ 27) → (v_52.1 (k0 + 2) 29 = (v.1 (k0 + 2) 29)) → (v_52.2 = v.2) → (∀ k j : Nat, ¬ (k = k0 + 2 ∨ (k = k0 ∧ 19 ≤ j ∧ j ≤ 20)) → v_52.1 k j = v.1 k j) → ((v.1 (k0 + 2) 29).toInt ≤ 9) → (J_52 z52_1 z52_2 v_52 = res) → ∀ (ls : Array Slot), lv_has ls 3 [(0, .ref (wq w k0))] → W pg l en (rmL 4) s m ar bl me cd H lo 0 0 (Zi w bl ar s post) (F0 m 52 ls [.int z52_2, .int z52_1, .ref (wq w (k0 + 2))]) := by
    intro H lo v_52 I z52_1 z52_2 hz52_1 MB52_k0229 rB52_L rB52_Z hC52_4 hF ls hl
    replace hF := ap3 eJ_52 hF
    refine pa_31 E I h_k0.2.2.1 (by omega) (by have ci := cnI (x := z52_1) (by omega); simp only [okk]; omega) dX8_steps_52 (fun H lo I => ?_)
    generalize ev1 : up1 v_52 (k0 + 2) z52_1.toNatClampNeg z52_2 = v1 at I
    replace hF := xl_i (ev1.symm) hF
    have mv1_0 : v1.1 (k0 + 2) 29 = (v.1 (k0 + 2) 29) := by rw [← ev1, up1_n _ _ (Or.inr (by have := cnI (x := z52_1) (by omega); omega))] <;> exact MB52_k0229
    have rzv1 : ∀ k j : Nat, ¬ (k = k0 + 2 ∨ (k = k0 ∧ 19 ≤ j ∧ j ≤ 20)) → v1.1 k j = v.1 k j := fun k j h => fz_u ev1 (by have czz52_1 := cnI (x := z52_1) (by omega); omega) (rB52_Z k j h)
    have rlv1_L : v1.2 = v.2 := (congrArg Prod.snd ev1).symm.trans rB52_L
    refine lv_aload_n hx hb dX8_steps_53 rfl (lv_at hl 0 rfl) ?_
    refine g_StarWalkModel_at E I h_k0.1 mw_4_171 dX8_steps_54 ?_
    refine lv_bipush (v := 29) hx hb dX8_steps_57 (by decide) ?_
    refine lv_dup2_11 hx hb dX8_steps_59 rfl rfl ?_
    refine ga_31 E I h_k0.2.2.1 (by decide) dX8_steps_60 ?_
    refine lv_topi (fun x2 ex2 => ?_)
    replace hF := xl_i (ex2) hF
    have tx2 : x2.toInt = (v.1 (k0 + 2) 29).toInt := congrArg Int32.toInt (ex2.trans mv1_0)
    have hx2 : 0 ≤ x2.toInt ∧ x2.toInt ≤ 10 := by have h := ra_31 I h_k0.2.2.1 29; rw [ex2]; exact h.2.1 rfl
    refine lv_iconst (v := 1) hx hb dX8_steps_61 (by decide) ?_
    refine lv_iadd hx hb dX8_steps_62 ?_
    refine lv_topi (fun x3 ex3 => ?_)
    replace hF := xl_i (ex3) hF
    have hx3 : x3.toInt = x2.toInt + 1 := by rw [ex3]; exact adI (a := x2.toInt) (b := 1) rfl rfl (by omega) (by omega)
    refine pa_31 E I h_k0.2.2.1 (by decide) (by have ci : (29 : Int32).toNatClampNeg = 29 := rfl; rw [ci]; simp only [okk]; omega) dX8_steps_63 (fun H lo I => ?_)
    generalize ev4 : up1 v1 (k0 + 2) (29 : Int32).toNatClampNeg x3 = v4 at I
    replace hF := xl_i (ev4.symm) hF
    have rzv4 : ∀ k j : Nat, ¬ (k = k0 + 2 ∨ (k = k0 ∧ 19 ≤ j ∧ j ≤ 20)) → v4.1 k j = v.1 k j := fun k j h => fz_u ev4 (by have cl29 : (29 : Int32).toNatClampNeg = 29 := rfl; omega) (rzv1 k j h)
    have rlv4_L : v4.2 = v.2 := (congrArg Prod.snd ev4).symm.trans rlv1_L
    refine lv_iconst (v := 1) hx hb dX8_steps_64 (by decide) ?_
    exact rI E I hr hlk rfl (by rw [← hpost]; exact ⟨⟨I.2.2, by decide, by decide, rlv4_L⟩, hF.trans hres, rzv4⟩) dX8_steps_65
  refine lv_aload_n hx hb dX8_steps_0 rfl (lv_at hl 0 rfl) ?_
  refine cVi E I (c_X8_canWalk l w g v k0 E.2.2.1 I.2.2 h_k0  ) (cwV 0 E.1.2.2.2.2 (gWs (C := "StarWalkModel") mw_5_219 mw_5_221 mw_s_52 mw_1_9 mw_5_222) rfl rfl rfl (by decide +kernel) ⟨by decide, by decide⟩) h_k0.1.1 ((ce_o h_k0.1.2).trans rfl) rfl rfl hl.1 rfl (Nat.le_of_ble_eq_true rfl) dX8_steps_1 ⟨Nat.le_refl _, Nat.le_refl _⟩ (fun r5 u6 H lo hp hPS => ?_)
  obtain ⟨hp, hex, hfr⟩ := hp
  replace hF := xl_i hex hF
  obtain ⟨hu, p7⟩ := hp
  rw [hu] at hPS
  have I : Wo w g s.heap v H lo := ⟨hPS.1, hPS.2, I.2.2⟩
  refine bz_ne E (a := r5.toInt) rfl (tgt := 9) dX8_steps_4 (by decide) (fun c8 => ?_) (fun c8 => ?_)
  ·
    replace hF := if_f c8 hF
    refine lv_aload_n hx hb dX8_steps_9 rfl (lv_at hl 0 rfl) ?_
    refine lv_iload_n hx hb dX8_steps_10 rfl (lv_at hl 1 rfl) ?_
    refine lv_aload_n hx hb dX8_steps_11 rfl (lv_at hl 0 rfl) ?_
    refine g_StarWalkModel_at E I h_k0.1 mw_4_171 dX8_steps_12 ?_
    refine lv_bipush (v := 29) hx hb dX8_steps_15 (by decide) ?_
    refine ga_31 E I h_k0.2.2.1 (by decide) dX8_steps_17 ?_
    refine lv_topi (fun x9 ex9 => ?_)
    replace hF := xl_i (ex9) hF
    have tx9 : x9.toInt = (v.1 (k0 + 2) 29).toInt := congrArg Int32.toInt (ex9.trans rfl)
    have hx9 : 0 ≤ x9.toInt ∧ x9.toInt ≤ 10 := by have h := ra_31 I h_k0.2.2.1 29; rw [ex9]; exact h.2.1 rfl
    refine cVi E I (c_X8_stepsOn l w g v k0 a0 x9 E.2.2.1 I.2.2 h_k0 (by omega) ) (cwV 2 E.1.2.2.2.2 (gWs (C := "StarWalkModel") mw_5_223 mw_5_225 mw_s_53 mw_1_9 mw_5_226) rfl rfl rfl (by decide +kernel) ⟨by decide, by decide⟩) h_k0.1.1 ((ce_o h_k0.1.2).trans rfl) rfl rfl hl.1 rfl (Nat.le_of_ble_eq_true rfl) dX8_steps_18 ⟨Nat.le_refl _, Nat.le_refl _⟩ (fun r10 u11 H lo hp hPS => ?_)
    obtain ⟨hp, hex, hfr⟩ := hp
    replace hF := xm_i hex hF
    obtain ⟨hwf, p12⟩ := hp
    have I : Wo w g s.heap u11 H lo := ⟨hPS.1, hPS.2, hwf⟩
    have rzu11 : ∀ k j : Nat, ¬ (k = k0 + 2 ∨ (k = k0 ∧ 19 ≤ j ∧ j ≤ 20)) → u11.1 k j = v.1 k j := fun k j h => (hfr k j (fun z => h (by rcases z with z | z <;> omega))).trans (rz0 k j h)
    have rlu11_L : u11.2 = v.2 := (p12.2.2.2).trans rfl
    have mu11_0 : u11.1 (k0 + 2) 29 = (v.1 (k0 + 2) 29) := (p12.2.2.1).trans rfl
    refine lv_istore_n (lv' := [(2, .int r10), (0, .ref (wq w k0)), (1, .int a0)]) hx hb dX8_steps_21 rfl hl (by decide) rfl (fun ls hl => ?_)
    refine lv_aload_n hx hb dX8_steps_22 rfl (lv_at hl 1 rfl) ?_
    refine g_StarWalkModel_at E I h_k0.1 mw_4_171 dX8_steps_23 ?_
    refine lv_bipush (v := 27) hx hb dX8_steps_26 (by decide) ?_
    refine lv_aload_n hx hb dX8_steps_28 rfl (lv_at hl 1 rfl) ?_
    refine g_StarWalkModel_at E I h_k0.1 mw_4_171 dX8_steps_29 ?_
    refine lv_bipush (v := 27) hx hb dX8_steps_32 (by decide) ?_
    refine ga_31 E I h_k0.2.2.1 (by decide) dX8_steps_34 ?_
    refine lv_topi (fun x13 ex13 => ?_)
    replace hF := xl_i (ex13) hF
    refine lv_iload_n hx hb dX8_steps_35 rfl (lv_at hl 0 rfl) ?_
    refine bi_le E (a := x13.toInt) (b := r10.toInt) rfl rfl (tgt := 51) dX8_steps_36 (by decide) (fun c14 => ?_) (fun c14 => ?_)
    ·
      have rgx13 := i32_rng x13
      replace hF := if_l c14 hF
      refine lv_iconst (v := 0) hx hb dX8_steps_51 (by decide) ?_
      exact B_52 _ _ u11 I (27 : Int32) (0 : Int32) (by decide) mu11_0 rlu11_L rzu11 (by omega) hF ls (lv_sub hl [1] rfl)
    ·
      have rgx13 := i32_rng x13
      replace hF := if_t c14 hF
      refine lv_aload_n hx hb dX8_steps_39 rfl (lv_at hl 1 rfl) ?_
      refine g_StarWalkModel_at E I h_k0.1 mw_4_171 dX8_steps_40 ?_
      refine lv_bipush (v := 27) hx hb dX8_steps_43 (by decide) ?_
      refine ga_31 E I h_k0.2.2.1 (by decide) dX8_steps_45 ?_
      refine lv_topi (fun x15 ex15 => ?_)
      replace hF := xl_i (ex15) hF
      refine lv_iload_n hx hb dX8_steps_46 rfl (lv_at hl 0 rfl) ?_
      refine lv_isub hx hb dX8_steps_47 ?_
      refine lv_topi (fun x16 ex16 => ?_)
      replace hF := xl_i (ex16) hF
      refine lv_goto (tgt := 52) hx hb dX8_steps_48 (by decide) ?_
      exact B_52 _ _ u11 I (27 : Int32) x16 (by decide) mu11_0 rlu11_L rzu11 (by omega) hF ls (lv_sub hl [1] rfl)
  ·
    replace hF := if_t c8 hF
    refine lv_iconst (v := 0) hx hb dX8_steps_7 (by decide) ?_
    exact rI E I hr hlk rfl (by rw [← hpost]; exact ⟨⟨I.2.2, by decide, by decide, rfl⟩, hF.trans hres, rz0⟩) dX8_steps_8
def F_X8_sizeOf (a0 : Int32) (v : St) : Int32 :=
if a0.toInt < 0 then (
xl (-a0) fun x2 =>
x2) else (
a0)
set_option maxHeartbeats 4000000 in
set_option maxRecDepth 100000 in
theorem c_X8_sizeOf (l : Launch) (w : Wp) (g : Nat → Nat → Int32) (v : St) (a0 : Int32) (hq : Inj w) (hw : WF (wk w) g v) : CTi w l yX8_sizeOf (wsy yX8_sizeOf prog_10_method_38_code 1 (some .int)) (rmL 1) [.int a0] v (fun (r : Int32) (u : St) => (u = v ∧ True) ∧ (r = F_X8_sizeOf a0 v) ∧ True) := by
  generalize hpost : (fun (r : Int32) (u : St) => (u = v ∧ True) ∧ (r = F_X8_sizeOf a0 v) ∧ True) = post
  refine CTi.of prog_10_method_38_code 1 (some .int) "StarWalkModel" (by decide +kernel) rfl hq hw (Nat.le_of_ble_eq_true rfl) ?_
  intro pg en s m ar bl me cd ls E I hr hlk hl
  have hx := E.1.1
  have hb := E.1.2.1
  have hl : lv_has ls 1 [(0, .int a0)] := hl
  obtain ⟨res, hres⟩ : ∃ z, z = F_X8_sizeOf a0 v := ⟨_, rfl⟩
  have hF := hres.symm
  unfold F_X8_sizeOf at hF
  replace hres : res = F_X8_sizeOf a0 v := hres
  refine lv_iload_n hx hb dX8_sizeOf_0 rfl (lv_at hl 0 rfl) ?_
  refine bz_ge E (a := a0.toInt) rfl (tgt := 9) dX8_sizeOf_1 (by decide) (fun c1 => ?_) (fun c1 => ?_)
  ·
    replace hF := if_l c1 hF
    refine lv_iload_n hx hb dX8_sizeOf_9 rfl (lv_at hl 0 rfl) ?_
    exact rI E I hr hlk rfl (by rw [← hpost]; exact ⟨⟨rfl, trivial⟩, hF.trans hres, trivial⟩) dX8_sizeOf_10
  ·
    replace hF := if_t c1 hF
    refine lv_iload_n hx hb dX8_sizeOf_4 rfl (lv_at hl 0 rfl) ?_
    refine lv_ineg hx hb dX8_sizeOf_5 ?_
    refine lv_topi (fun x2 ex2 => ?_)
    replace hF := xl_i (ex2) hF
    refine lv_goto (tgt := 10) hx hb dX8_sizeOf_6 (by decide) ?_
    exact rI E I hr hlk rfl (by rw [← hpost]; exact ⟨⟨rfl, trivial⟩, hF.trans hres, trivial⟩) dX8_sizeOf_10
def F_X8_isAtWell (k0 : Nat) (v : St) : Int32 :=
xl (v.1 (k0 + 2) (30 : Int32).toNatClampNeg) fun x1 =>
xl (v.1 (k0 + 2) (24 : Int32).toNatClampNeg) fun x2 =>
if x1.toInt < x2.toInt then (
(0 : Int32)) else (
xl (v.1 (k0 + 2) (31 : Int32).toNatClampNeg) fun x4 =>
xl (F_X8_sizeOf x4 v) fun r5 =>
xl (v.1 (k0 + 2) (25 : Int32).toNatClampNeg) fun x8 =>
if x8.toInt < r5.toInt then (
(0 : Int32)) else (
(1 : Int32)))
set_option maxHeartbeats 4000000 in
set_option maxRecDepth 100000 in
theorem c_X8_isAtWell (l : Launch) (w : Wp) (g : Nat → Nat → Int32) (v : St) (k0 : Nat) (hq : Inj w) (hw : WF (wk w) g v) (h_k0 : oM w k0) : CTi w l yX8_isAtWell (wsy yX8_isAtWell prog_10_method_39_code 1 (some .boolean)) (rmL 2) [.ref (wq w k0)] v (fun (r : Int32) (u : St) => (u = v ∧ 0 ≤ r.toInt ∧ r.toInt ≤ 1) ∧ (r = F_X8_isAtWell k0 v) ∧ True) := by
  generalize hpost : (fun (r : Int32) (u : St) => (u = v ∧ 0 ≤ r.toInt ∧ r.toInt ≤ 1) ∧ (r = F_X8_isAtWell k0 v) ∧ True) = post
  refine CTi.of prog_10_method_39_code 1 (some .boolean) "StarWalkModel" (by decide +kernel) rfl hq hw (Nat.le_of_ble_eq_true rfl) ?_
  intro pg en s m ar bl me cd ls E I hr hlk hl
  have hx := E.1.1
  have hb := E.1.2.1
  have hl : lv_has ls 1 [(0, .ref (wq w k0))] := hl
  obtain ⟨res, hres⟩ : ∃ z, z = F_X8_isAtWell k0 v := ⟨_, rfl⟩
  have hF := hres.symm
  unfold F_X8_isAtWell at hF
  replace hres : res = F_X8_isAtWell k0 v := hres
  refine lv_aload_n hx hb dX8_isAtWell_0 rfl (lv_at hl 0 rfl) ?_
  refine g_StarWalkModel_at E I h_k0.1 mw_4_171 dX8_isAtWell_1 ?_
  refine lv_bipush (v := 30) hx hb dX8_isAtWell_4 (by decide) ?_
  refine ga_31 E I h_k0.2.2.1 (by decide) dX8_isAtWell_6 ?_
  refine lv_topi (fun x1 ex1 => ?_)
  replace hF := xl_i (ex1) hF
  refine lv_aload_n hx hb dX8_isAtWell_7 rfl (lv_at hl 0 rfl) ?_
  refine g_StarWalkModel_at E I h_k0.1 mw_4_171 dX8_isAtWell_8 ?_
  refine lv_bipush (v := 24) hx hb dX8_isAtWell_11 (by decide) ?_
  refine ga_31 E I h_k0.2.2.1 (by decide) dX8_isAtWell_13 ?_
  refine lv_topi (fun x2 ex2 => ?_)
  replace hF := xl_i (ex2) hF
  refine bi_lt E (a := x1.toInt) (b := x2.toInt) rfl rfl (tgt := 41) dX8_isAtWell_14 (by decide) (fun c3 => ?_) (fun c3 => ?_)
  ·
    have rgx1 := i32_rng x1
    have rgx2 := i32_rng x2
    replace hF := if_t c3 hF
    refine lv_iconst (v := 0) hx hb dX8_isAtWell_41 (by decide) ?_
    exact rI E I hr hlk rfl (by rw [← hpost]; exact ⟨⟨rfl, by have eL : (0 : Int32).toInt = 0 := rfl; omega⟩, hF.trans hres, trivial⟩) dX8_isAtWell_42
  ·
    have rgx1 := i32_rng x1
    have rgx2 := i32_rng x2
    replace hF := if_l c3 hF
    refine lv_aload_n hx hb dX8_isAtWell_17 rfl (lv_at hl 0 rfl) ?_
    refine g_StarWalkModel_at E I h_k0.1 mw_4_171 dX8_isAtWell_18 ?_
    refine lv_bipush (v := 31) hx hb dX8_isAtWell_21 (by decide) ?_
    refine ga_31 E I h_k0.2.2.1 (by decide) dX8_isAtWell_23 ?_
    refine lv_topi (fun x4 ex4 => ?_)
    replace hF := xl_i (ex4) hF
    refine cSi E I (c_X8_sizeOf l w g v x4 E.2.2.1 I.2.2   ) (va_cwS 1 E.1.2.2.2.2 (gSs mw_5_116 mw_5_117 mw_1_9 mw_5_118) rfl rfl rfl (by decide +kernel) ⟨by decide, by decide⟩) rfl hl.1 rfl (Nat.le_of_ble_eq_true rfl) dX8_isAtWell_24 ⟨Nat.le_refl _, Nat.le_refl _⟩ (fun r5 u6 H lo hp hPS => ?_)
    obtain ⟨hp, hex, hfr⟩ := hp
    replace hF := xl_i hex hF
    obtain ⟨hu, p7⟩ := hp
    rw [hu] at hPS
    have I : Wo w g s.heap v H lo := ⟨hPS.1, hPS.2, I.2.2⟩
    refine lv_aload_n hx hb dX8_isAtWell_27 rfl (lv_at hl 0 rfl) ?_
    refine g_StarWalkModel_at E I h_k0.1 mw_4_171 dX8_isAtWell_28 ?_
    refine lv_bipush (v := 25) hx hb dX8_isAtWell_31 (by decide) ?_
    refine ga_31 E I h_k0.2.2.1 (by decide) dX8_isAtWell_33 ?_
    refine lv_topi (fun x8 ex8 => ?_)
    replace hF := xl_i (ex8) hF
    refine bi_gt E (a := r5.toInt) (b := x8.toInt) rfl rfl (tgt := 41) dX8_isAtWell_34 (by decide) (fun c9 => ?_) (fun c9 => ?_)
    ·
      have rgr5 := i32_rng r5
      have rgx8 := i32_rng x8
      replace hF := if_t c9 hF
      refine lv_iconst (v := 0) hx hb dX8_isAtWell_41 (by decide) ?_
      exact rI E I hr hlk rfl (by rw [← hpost]; exact ⟨⟨rfl, by have eL : (0 : Int32).toInt = 0 := rfl; omega⟩, hF.trans hres, trivial⟩) dX8_isAtWell_42
    ·
      have rgr5 := i32_rng r5
      have rgx8 := i32_rng x8
      replace hF := if_l c9 hF
      refine lv_iconst (v := 1) hx hb dX8_isAtWell_37 (by decide) ?_
      refine lv_goto (tgt := 42) hx hb dX8_isAtWell_38 (by decide) ?_
      exact rI E I hr hlk rfl (by rw [← hpost]; exact ⟨⟨rfl, by have eL : (1 : Int32).toInt = 1 := rfl; omega⟩, hF.trans hres, trivial⟩) dX8_isAtWell_42
def F_X8_plansGo (k0 : Nat) (v : St) : St :=
xl (fun (self_13 : Int32 → St → St) (y13_1 : Int32) (v_13 : St) =>
xl (fun (z60_1 : Int32) (v_60 : St) =>
xl (up1 v_60 k0 20 z60_1) fun v1 =>
xl (y13_1 + 1) fun x2 =>
(self_13 x2 v1)) fun J_60 =>
xl (fun (v_56 : St) =>
xl (v_56.1 k0 20) fun x3 =>
(J_60 x3 v_56)) fun J_56 =>
xl (v_13.1 (k0 + 2) (32 : Int32).toNatClampNeg) fun x4 =>
if y13_1.toInt < x4.toInt then (
xl ((33 : Int32) + y13_1) fun x6 =>
xl (v_13.1 (k0 + 2) x6.toNatClampNeg) fun x7 =>
xm (F_X8_steps k0 x7 v_13) fun r8 u9 =>
if r8.toInt = 0 then (
xl (u9.1 k0 20) fun x12 =>
if x12.toInt = (-4) then (
(J_60 y13_1 u9)) else (
(J_56 u9))) else (
(J_56 u9))) else (
v_13)) fun P_13 =>
xl (up1 v k0 20 (-4 : Int32)) fun v14 =>
xl (up1 v14 k0 19 (0 : Int32)) fun v15 =>
(lp P_13 (fun _ _ => v) ((2147483647 - (0 : Int32).toInt).toNat + 1) (0 : Int32) v15)
set_option maxHeartbeats 4000000 in
set_option maxRecDepth 100000 in
theorem c_X8_plansGo (l : Launch) (w : Wp) (g : Nat → Nat → Int32) (v : St) (k0 : Nat) (hq : Inj w) (hw : WF (wk w) g v) (h_k0 : oM w k0) : CTv w l yX8_plansGo (wsy yX8_plansGo prog_10_method_40_code 3 none) (rmL 5) [.ref (wq w k0)] v (fun (u : St) => (WF (wk w) g u ∧ u.2 = v.2) ∧ (u = F_X8_plansGo k0 v) ∧ (∀ k j : Nat, ¬ (k = k0 + 2 ∨ (k = k0 ∧ 19 ≤ j ∧ j ≤ 20)) → u.1 k j = v.1 k j)) := by
  generalize hpost : (fun (u : St) => (WF (wk w) g u ∧ u.2 = v.2) ∧ (u = F_X8_plansGo k0 v) ∧ (∀ k j : Nat, ¬ (k = k0 + 2 ∨ (k = k0 ∧ 19 ≤ j ∧ j ≤ 20)) → u.1 k j = v.1 k j)) = post
  refine CTv.of prog_10_method_40_code 3 none "StarWalkModel" (by decide +kernel) rfl hq hw (Nat.le_of_ble_eq_true rfl) ?_
  intro pg en s m ar bl me cd ls E I hr hlk hl
  have hx := E.1.1
  have hb := E.1.2.1
  have hl : lv_has ls 3 [(0, .ref (wq w k0))] := hl
  obtain ⟨res, hres⟩ : ∃ z, z = F_X8_plansGo k0 v := ⟨_, rfl⟩
  have hF := hres.symm
  unfold F_X8_plansGo at hF
  replace hres : res = F_X8_plansGo k0 v := hres
  have rz0 : ∀ k j : Nat, ¬ (k = k0 + 2 ∨ (k = k0 ∧ 19 ≤ j ∧ j ≤ 20)) → v.1 k j = v.1 k j := fun _ _ _ => rfl
  obtain ⟨P_13, eP_13, hF⟩ := xl_e hF
  have L_13 : ∀ (n : Nat), ∀ (H : Heap) (lo : List Loc) (v_13 : St), Wo w g s.heap v_13 H lo → ∀ (y13_1 : Int32), (0 ≤ y13_1.toInt ∧ y13_1.toInt ≤ 8) → (v_13.2 = v.2) → (∀ k j : Nat, ¬ (k = k0 + 2 ∨ (k = k0 ∧ 19 ≤ j ∧ j ≤ 20)) → v_13.1 k j = v.1 k j) → (lp P_13 (fun _ _ => v) n y13_1 v_13 = res) → (2147483647 - y13_1.toInt).toNat < n → ∀ (ls : Array Slot), lv_has ls 3 [(0, .ref (wq w k0)), (1, .int y13_1)] → W pg l en (rmL 5) s m ar bl me cd H lo 0 0 (Zv w bl ar s post) (F0 m 13 ls []) := by
    intro n
    induction n with
    | zero => intro H lo v_13 I y13_1 hy13_1 rB13_L rB13_Z hF hm; exact absurd hm (Nat.not_lt_zero _)
    | succ n ih_13 =>
      intro H lo v_13 I y13_1 hy13_1 rB13_L rB13_Z hF hm ls hl
      replace hF := lpa2 eP_13 hF
      obtain ⟨J_60, eJ_60, hF⟩ := xl_e hF
      have B_60 : ∀ (H : Heap) (lo : List Loc) (v_60 : St), Wo w g s.heap v_60 H lo → ∀ (z60_1 : Int32), (0 ≤ y13_1.toInt ∧ y13_1.toInt ≤ 7) → (v_60.2 = v.2) → (∀ k j : Nat, ¬ (k = k0 + 2 ∨ (k = k0 ∧ 19 ≤ j ∧ j ≤ 20)) → v_60.1 k j = v.1 k j) → (J_60 z60_1 v_60 = res) → ∀ (ls : Array Slot), lv_has ls 3 [(0, .ref (wq w k0)), (1, .int y13_1)] → W pg l en (rmL 5) s m ar bl me cd H lo 0 0 (Zv w bl ar s post) (F0 m 60 ls [.int z60_1, .ref (wq w k0)]) := by
        intro H lo v_60 I z60_1 hE60_0 rB60_L rB60_Z hF ls hl
        replace hF := ap2 eJ_60 hF
        refine p_StarWalkModel_passedOver E I h_k0.1 mw_4_190 dX8_plansGo_60 (fun H lo I => ?_)
        generalize ev1 : up1 v_60 k0 20 z60_1 = v1 at I
        replace hF := xl_i (ev1.symm) hF
        have rzv1 : ∀ k j : Nat, ¬ (k = k0 + 2 ∨ (k = k0 ∧ 19 ≤ j ∧ j ≤ 20)) → v1.1 k j = v.1 k j := fun k j h => fz_u ev1 (by omega) (rB60_Z k j h)
        have rlv1_L : v1.2 = v.2 := (congrArg Prod.snd ev1).symm.trans rB60_L
        obtain ⟨x2, ex2⟩ : ∃ z : Int32, z = y13_1 + 1 := ⟨_, rfl⟩
        replace hF := xl_i (ex2) hF
        have hx2 : x2.toInt = y13_1.toInt + (1) := by rw [ex2]; exact adI (a := y13_1.toInt) (b := 1) rfl rfl (by omega) (by omega)
        refine lv_iinc (v := x2) (lv' := [(1, .int x2), (0, .ref (wq w k0))]) hx hb dX8_plansGo_63 hl (k := 1) rfl (by rw [ex2]; rfl) (by decide) rfl (fun ls hl => ?_)
        refine lv_goto (tgt := 13) hx hb dX8_plansGo_66 (by decide) ?_
        exact ih_13 _ _ v1 I x2 (by omega) rlv1_L rzv1 hF (by omega) ls (lv_sub hl [1, 0] rfl)
      obtain ⟨J_56, eJ_56, hF⟩ := xl_e hF
      have B_56 : ∀ (H : Heap) (lo : List Loc) (v_56 : St), Wo w g s.heap v_56 H lo → (0 ≤ y13_1.toInt ∧ y13_1.toInt ≤ 7) → (v_56.2 = v.2) → (∀ k j : Nat, ¬ (k = k0 + 2 ∨ (k = k0 ∧ 19 ≤ j ∧ j ≤ 20)) → v_56.1 k j = v.1 k j) → (J_56 v_56 = res) → ∀ (ls : Array Slot), lv_has ls 3 [(0, .ref (wq w k0)), (1, .int y13_1)] → W pg l en (rmL 5) s m ar bl me cd H lo 0 0 (Zv w bl ar s post) (F0 m 56 ls [.ref (wq w k0)]) := by
        intro H lo v_56 I  hE56_0 rB56_L rB56_Z hF ls hl
        replace hF := ap1 eJ_56 hF
        refine lv_aload_n hx hb dX8_plansGo_56 rfl (lv_at hl 0 rfl) ?_
        refine g_StarWalkModel_passedOver E I h_k0.1 mw_4_190 dX8_plansGo_57 ?_
        refine lv_topi (fun x3 ex3 => ?_)
        replace hF := xl_i (ex3) hF
        exact B_60 _ _ v_56 I x3 (by omega) rB56_L rB56_Z hF ls (lv_sub hl [0, 1] rfl)
      refine lv_iload_n hx hb dX8_plansGo_13 rfl (lv_at hl 1 rfl) ?_
      refine lv_aload_n hx hb dX8_plansGo_14 rfl (lv_at hl 0 rfl) ?_
      refine g_StarWalkModel_at E I h_k0.1 mw_4_171 dX8_plansGo_15 ?_
      refine lv_bipush (v := 32) hx hb dX8_plansGo_18 (by decide) ?_
      refine ga_31 E I h_k0.2.2.1 (by decide) dX8_plansGo_20 ?_
      refine lv_topi (fun x4 ex4 => ?_)
      replace hF := xl_i (ex4) hF
      have hx4 : 0 ≤ x4.toInt ∧ x4.toInt ≤ 8 := by have h := ra_31 I h_k0.2.2.1 32; rw [ex4]; exact h.2.2.1 rfl
      refine bi_ge E (a := y13_1.toInt) (b := x4.toInt) rfl rfl (tgt := 69) dX8_plansGo_21 (by decide) (fun c5 => ?_) (fun c5 => ?_)
      ·
        replace hF := if_l c5 hF
        exact rV E I hr hlk (by rw [← hpost]; exact ⟨⟨I.2.2, rB13_L⟩, hF.trans hres, rB13_Z⟩) dX8_plansGo_69
      ·
        replace hF := if_t c5 hF
        refine lv_aload_n hx hb dX8_plansGo_24 rfl (lv_at hl 0 rfl) ?_
        refine lv_aload_n hx hb dX8_plansGo_25 rfl (lv_at hl 0 rfl) ?_
        refine g_StarWalkModel_at E I h_k0.1 mw_4_171 dX8_plansGo_26 ?_
        refine lv_bipush (v := 33) hx hb dX8_plansGo_29 (by decide) ?_
        refine lv_iload_n hx hb dX8_plansGo_31 rfl (lv_at hl 1 rfl) ?_
        refine lv_iadd hx hb dX8_plansGo_32 ?_
        refine lv_topi (fun x6 ex6 => ?_)
        replace hF := xl_i (ex6) hF
        have hx6 : x6.toInt = 33 + y13_1.toInt := by rw [ex6]; exact adI (a := 33) (b := y13_1.toInt) rfl rfl (by omega) (by omega)
        refine ga_31 E I h_k0.2.2.1 (by omega) dX8_plansGo_33 ?_
        refine lv_topi (fun x7 ex7 => ?_)
        replace hF := xl_i (ex7) hF
        have hx7 := ra_31 I h_k0.2.2.1 x6.toNatClampNeg
        rw [← ex7] at hx7
        have hx7 : 0 ≤ x7.toInt ∧ x7.toInt ≤ 6 := by
          have ci := cnI (x := x6) (by omega)
          simp only [okk] at hx7
          omega
        refine cVi E I (c_X8_steps l w g v_13 k0 x7 E.2.2.1 I.2.2 h_k0 (by omega) ) (cwV 1 E.1.2.2.2.2 (gWs (C := "StarWalkModel") mw_5_215 mw_5_217 mw_s_51 mw_1_9 mw_5_218) rfl rfl rfl (by decide +kernel) ⟨by decide, by decide⟩) h_k0.1.1 ((ce_o h_k0.1.2).trans rfl) rfl rfl hl.1 rfl (Nat.le_of_ble_eq_true rfl) dX8_plansGo_34 ⟨Nat.le_refl _, Nat.le_refl _⟩ (fun r8 u9 H lo hp hPS => ?_)
        obtain ⟨hp, hex, hfr⟩ := hp
        replace hF := xm_i hex hF
        obtain ⟨hwf, p10⟩ := hp
        have I : Wo w g s.heap u9 H lo := ⟨hPS.1, hPS.2, hwf⟩
        have rzu9 : ∀ k j : Nat, ¬ (k = k0 + 2 ∨ (k = k0 ∧ 19 ≤ j ∧ j ≤ 20)) → u9.1 k j = v.1 k j := fun k j h => (hfr k j (fun z => h (by rcases z with z | z <;> omega))).trans (rB13_Z k j h)
        have rlu9_L : u9.2 = v.2 := (p10.2.2).trans rB13_L
        refine lv_istore_n (lv' := [(2, .int r8), (0, .ref (wq w k0)), (1, .int y13_1)]) hx hb dX8_plansGo_37 rfl hl (by decide) rfl (fun ls hl => ?_)
        refine lv_aload_n hx hb dX8_plansGo_38 rfl (lv_at hl 1 rfl) ?_
        refine lv_iload_n hx hb dX8_plansGo_39 rfl (lv_at hl 0 rfl) ?_
        refine bz_ne E (a := r8.toInt) rfl (tgt := 56) dX8_plansGo_40 (by decide) (fun c11 => ?_) (fun c11 => ?_)
        ·
          replace hF := if_f c11 hF
          exact B_56 _ _ u9 I  (by omega) rlu9_L rzu9 hF ls (lv_sub hl [1, 2] rfl)
        ·
          replace hF := if_t c11 hF
          refine lv_aload_n hx hb dX8_plansGo_43 rfl (lv_at hl 1 rfl) ?_
          refine g_StarWalkModel_passedOver E I h_k0.1 mw_4_190 dX8_plansGo_44 ?_
          refine lv_topi (fun x12 ex12 => ?_)
          replace hF := xl_i (ex12) hF
          refine lv_bipush (v := (-4)) hx hb dX8_plansGo_47 (by decide) ?_
          refine bi_ne E (a := x12.toInt) (b := (-4)) rfl rfl (tgt := 56) dX8_plansGo_49 (by decide) (fun c13 => ?_) (fun c13 => ?_)
          ·
            replace hF := if_f c13 hF
            exact B_56 _ _ u9 I  (by omega) rlu9_L rzu9 hF ls (lv_sub hl [1, 2] rfl)
          ·
            replace hF := if_t c13 hF
            refine lv_iload_n hx hb dX8_plansGo_52 rfl (lv_at hl 2 rfl) ?_
            refine lv_goto (tgt := 60) hx hb dX8_plansGo_53 (by decide) ?_
            exact B_60 _ _ u9 I y13_1 (by omega) rlu9_L rzu9 hF ls (lv_sub hl [1, 2] rfl)
  refine lv_aload_n hx hb dX8_plansGo_0 rfl (lv_at hl 0 rfl) ?_
  refine lv_bipush (v := (-4)) hx hb dX8_plansGo_1 (by decide) ?_
  refine p_StarWalkModel_passedOver E I h_k0.1 mw_4_190 dX8_plansGo_3 (fun H lo I => ?_)
  generalize ev14 : up1 v k0 20 (-4 : Int32) = v14 at I
  replace hF := xl_i (ev14.symm) hF
  have rzv14 : ∀ k j : Nat, ¬ (k = k0 + 2 ∨ (k = k0 ∧ 19 ≤ j ∧ j ≤ 20)) → v14.1 k j = v.1 k j := fun k j h => fz_u ev14 (by omega) (rz0 k j h)
  have rlv14_L : v14.2 = v.2 := (congrArg Prod.snd ev14).symm.trans rfl
  refine lv_aload_n hx hb dX8_plansGo_6 rfl (lv_at hl 0 rfl) ?_
  refine lv_iconst (v := 0) hx hb dX8_plansGo_7 (by decide) ?_
  refine p_StarWalkModel_blindSteps E I h_k0.1 mw_4_189 dX8_plansGo_8 (fun H lo I => ?_)
  generalize ev15 : up1 v14 k0 19 (0 : Int32) = v15 at I
  replace hF := xl_i (ev15.symm) hF
  have rzv15 : ∀ k j : Nat, ¬ (k = k0 + 2 ∨ (k = k0 ∧ 19 ≤ j ∧ j ≤ 20)) → v15.1 k j = v.1 k j := fun k j h => fz_u ev15 (by omega) (rzv14 k j h)
  have rlv15_L : v15.2 = v.2 := (congrArg Prod.snd ev15).symm.trans rlv14_L
  refine lv_iconst (v := 0) hx hb dX8_plansGo_11 (by decide) ?_
  refine lv_istore_n (lv' := [(1, .int 0), (0, .ref (wq w k0))]) hx hb dX8_plansGo_12 rfl hl (by decide) rfl (fun ls hl => ?_)
  exact L_13 ((2147483647 - (0 : Int32).toInt).toNat + 1) _ _ v15 I (0 : Int32) (by decide) rlv15_L rzv15 hF (Nat.lt_succ_self _) ls (lv_sub hl [1, 0] rfl)
