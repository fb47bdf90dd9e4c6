def F_X8_needs (k0 : Nat) (a0 : Int32) (a1 : Int32) (v : St) : St :=
if a0.toInt = 0 then (
xl (v.1 k0 17) fun x2 =>
if x2.toInt = 0 then (
xl (up1 v k0 17 a1) fun v4 =>
xl (v4.1 k0 14) fun x5 =>
xl (up1 v4 k0 18 x5) fun v6 =>
v6) else (
v)) else (
v)
set_option maxHeartbeats 4000000 in
set_option maxRecDepth 100000 in
theorem c_X8_needs (l : Launch) (w : Wp) (g : Nat → Nat → Int32) (v : St) (k0 : Nat) (a0 : Int32) (a1 : Int32) (hq : Inj w) (hw : WF (wk w) g v) (h_k0 : oM w k0) (h_a1 : 1 ≤ a1.toInt ∧ a1.toInt ≤ 6) : CTv w l yX8_needs (wsy yX8_needs prog_10_method_9_code 3 none) (rmL 1) [.ref (wq w k0), .int a0, .int a1] v (fun (u : St) => (WF (wk w) g u ∧ Fr k0 17 18 v u ∧ ((u.1 k0 17).toInt = 0 → (v.1 k0 17).toInt = 0 ∧ ¬ a0.toInt = 0)) ∧ (u = F_X8_needs k0 a0 a1 v) ∧ (∀ k j : Nat, ¬ (k = k0 ∧ 17 ≤ j ∧ j ≤ 18) → u.1 k j = v.1 k j)) := by
  generalize hpost : (fun (u : St) => (WF (wk w) g u ∧ Fr k0 17 18 v u ∧ ((u.1 k0 17).toInt = 0 → (v.1 k0 17).toInt = 0 ∧ ¬ a0.toInt = 0)) ∧ (u = F_X8_needs k0 a0 a1 v) ∧ (∀ k j : Nat, ¬ (k = k0 ∧ 17 ≤ j ∧ j ≤ 18) → u.1 k j = v.1 k j)) = post
  refine CTv.of prog_10_method_9_code 3 none "StarWalkModel" (by decide +kernel) rfl hq hw (Nat.le_of_ble_eq_true rfl) ?_
  intro pg en s m ar bl me cd ls E I hr hlk hl
  have hx := E.1.1
  have hb := E.1.2.1
  have hl : lv_has ls 3 [(0, .ref (wq w k0)), (1, .int a0), (2, .int a1)] := hl
  obtain ⟨res, hres⟩ : ∃ z, z = F_X8_needs k0 a0 a1 v := ⟨_, rfl⟩
  have hF := hres.symm
  unfold F_X8_needs at hF
  replace hres : res = F_X8_needs k0 a0 a1 v := hres
  have rz0 : ∀ k j : Nat, ¬ (k = k0 ∧ 17 ≤ j ∧ j ≤ 18) → v.1 k j = v.1 k j := fun _ _ _ => rfl
  refine lv_iload_n hx hb dX8_needs_0 rfl (lv_at hl 1 rfl) ?_
  refine bz_ne E (a := a0.toInt) rfl (tgt := 24) dX8_needs_1 (by decide) (fun c1 => ?_) (fun c1 => ?_)
  ·
    replace hF := if_f c1 hF
    exact rV E I hr hlk (by rw [← hpost]; exact ⟨⟨I.2.2, (Fr.refl _ _ _ _), by omega⟩, hF.trans hres, rz0⟩) dX8_needs_24
  ·
    replace hF := if_t c1 hF
    refine lv_aload_n hx hb dX8_needs_4 rfl (lv_at hl 0 rfl) ?_
    refine g_StarWalkModel_fault E I h_k0.1 mw_4_187 dX8_needs_5 ?_
    refine lv_topi (fun x2 ex2 => ?_)
    replace hF := xl_i (ex2) hF
    have twx2 : x2.toInt = (v.1 k0 17).toInt := congrArg Int32.toInt ex2
    have hx2 := r_StarWalkModel_fault I h_k0.1
    rw [← ex2] at hx2
    refine bz_ne E (a := x2.toInt) rfl (tgt := 24) dX8_needs_8 (by decide) (fun c3 => ?_) (fun c3 => ?_)
    ·
      replace hF := if_f c3 hF
      exact rV E I hr hlk (by rw [← hpost]; exact ⟨⟨I.2.2, (Fr.refl _ _ _ _), by omega⟩, hF.trans hres, rz0⟩) dX8_needs_24
    ·
      replace hF := if_t c3 hF
      refine lv_aload_n hx hb dX8_needs_11 rfl (lv_at hl 0 rfl) ?_
      refine lv_iload_n hx hb dX8_needs_12 rfl (lv_at hl 2 rfl) ?_
      refine p_StarWalkModel_fault E I h_k0.1 mw_4_187 (by omega) dX8_needs_13 (fun H lo I => ?_)
      generalize ev4 : up1 v k0 17 a1 = v4 at I
      replace hF := xl_i (ev4.symm) hF
      have wtv4_k0_17 : (v4.1 k0 17).toInt = a1.toInt := by rw [← ev4]; exact congrArg Int32.toInt (up1_s _ k0 17 a1)
      have rzv4 : ∀ k j : Nat, ¬ (k = k0 ∧ 17 ≤ j ∧ j ≤ 18) → v4.1 k j = v.1 k j := fun k j h => fz_u ev4 (by omega) (rz0 k j h)
      have rlv4_N : Fr k0 17 18 v v4 := (Fr.refl _ _ _ _).put ev4 (by decide)
      refine lv_aload_n hx hb dX8_needs_16 rfl (lv_at hl 0 rfl) ?_
      refine lv_aload_n hx hb dX8_needs_17 rfl (lv_at hl 0 rfl) ?_
      refine g_StarWalkModel_from E I h_k0.1 mw_4_184 dX8_needs_18 ?_
      refine lv_topi (fun x5 ex5 => ?_)
      replace hF := xl_i (ex5) hF
      have hx5 := r_StarWalkModel_from I h_k0.1
      rw [← ex5] at hx5
      refine p_StarWalkModel_wrongAt E I h_k0.1 mw_4_188 dX8_needs_21 (fun H lo I => ?_)
      generalize ev6 : up1 v4 k0 18 x5 = v6 at I
      replace hF := xl_i (ev6.symm) hF
      have wtv6_k0_17 : (v6.1 k0 17).toInt = (v4.1 k0 17).toInt := by rw [← ev6, up1_n _ _ (Or.inr (by decide))]
      have rzv6 : ∀ k j : Nat, ¬ (k = k0 ∧ 17 ≤ j ∧ j ≤ 18) → v6.1 k j = v.1 k j := fun k j h => fz_u ev6 (by omega) (rzv4 k j h)
      have rlv6_N : Fr k0 17 18 v v6 := rlv4_N.put ev6 (by decide)
      exact rV E I hr hlk (by rw [← hpost]; exact ⟨⟨I.2.2, rlv6_N, by omega⟩, hF.trans hres, rzv6⟩) dX8_needs_24
def F_X8_looked (k0 : Nat) (a0 : Int32) (a1 : Int32) (v : St) : Int32 × St :=
xl (fun (v_49 : St) =>
xl (v_49.1 k0 17) fun x1 =>
if x1.toInt = 0 then (
xl (v_49.1 k0 16) fun x3 =>
(x3, v_49)) else (
((0 : Int32), v_49))) fun J_49 =>
xl (fun (v_25 : St) =>
xl (v_25.1 k0 17) fun x4 =>
if x4.toInt = 0 then (
xl (v_25.1 k0 16) fun x6 =>
xl (F_X8_in x6.toInt64 a0.toInt64 a1.toInt64 v_25) fun r10 =>
xl (F_X8_needs k0 r10 (3 : Int32) v_25) fun u16 =>
(J_49 u16)) else (
(J_49 v_25))) fun J_25 =>
xl (fun (z21_1 : Int32) =>
xl (F_X8_needs k0 z21_1 (2 : Int32) v) fun u18 =>
(J_25 u18)) fun J_21 =>
xl (v.1 k0 17) fun x20 =>
if x20.toInt = 0 then (
xl (v.1 k0 15) fun x22 =>
if x22.toInt = 2 then (
(J_21 (1 : Int32))) else (
(J_21 (0 : Int32)))) else (
(J_25 v))
set_option maxHeartbeats 4000000 in
set_option maxRecDepth 100000 in
theorem c_X8_looked (l : Launch) (w : Wp) (g : Nat → Nat → Int32) (v : St) (k0 : Nat) (a0 : Int32) (a1 : Int32) (hq : Inj w) (hw : WF (wk w) g v) (h_k0 : oM w k0) : CTi w l yX8_looked (wsy yX8_looked prog_10_method_15_code 3 (some .int)) (rmL 2) [.ref (wq w k0), .int a0, .int a1] v (fun (r : Int32) (u : St) => (WF (wk w) g u ∧ Fr k0 17 18 v u ∧ ((u.1 k0 17).toInt = 0 → (v.1 k0 17).toInt = 0 ∧ a0.toInt ≤ r.toInt ∧ r.toInt ≤ a1.toInt) ∧ (¬ (u.1 k0 17).toInt = 0 → r.toInt = 0)) ∧ ((r, u) = F_X8_looked k0 a0 a1 v) ∧ (∀ k j : Nat, ¬ (k = k0 ∧ 17 ≤ j ∧ j ≤ 18) → u.1 k j = v.1 k j)) := by
  generalize hpost : (fun (r : Int32) (u : St) => (WF (wk w) g u ∧ Fr k0 17 18 v u ∧ ((u.1 k0 17).toInt = 0 → (v.1 k0 17).toInt = 0 ∧ a0.toInt ≤ r.toInt ∧ r.toInt ≤ a1.toInt) ∧ (¬ (u.1 k0 17).toInt = 0 → r.toInt = 0)) ∧ ((r, u) = F_X8_looked k0 a0 a1 v) ∧ (∀ k j : Nat, ¬ (k = k0 ∧ 17 ≤ j ∧ j ≤ 18) → u.1 k j = v.1 k j)) = post
  refine CTi.of prog_10_method_15_code 3 (some .int) "StarWalkModel" (by decide +kernel) rfl hq hw (Nat.le_of_ble_eq_true rfl) ?_
  intro pg en s m ar bl me cd ls E I hr hlk hl
  have hx := E.1.1
  have hb := E.1.2.1
  have hl : lv_has ls 3 [(0, .ref (wq w k0)), (1, .int a0), (2, .int a1)] := hl
  obtain ⟨res, hres⟩ : ∃ z, z = F_X8_looked k0 a0 a1 v := ⟨_, rfl⟩
  have hF := hres.symm
  unfold F_X8_looked at hF
  replace hres : res = F_X8_looked k0 a0 a1 v := hres
  have rz0 : ∀ k j : Nat, ¬ (k = k0 ∧ 17 ≤ j ∧ j ≤ 18) → v.1 k j = v.1 k j := fun _ _ _ => rfl
  obtain ⟨J_49, eJ_49, hF⟩ := xl_e hF
  have B_49 : ∀ (H : Heap) (lo : List Loc) (v_49 : St), Wo w g s.heap v_49 H lo → (Fr k0 17 18 v v_49) → (∀ k j : Nat, ¬ (k = k0 ∧ 17 ≤ j ∧ j ≤ 18) → v_49.1 k j = v.1 k j) → ((v_49.1 k0 17).toInt = 0 → (v.1 k0 17).toInt = 0) → ((v_49.1 k0 17).toInt = 0 → a0.toInt ≤ (v_49.1 k0 16).toInt ∧ (v_49.1 k0 16).toInt ≤ a1.toInt) → (J_49 v_49 = res) → ∀ (ls : Array Slot), lv_has ls 3 [(0, .ref (wq w k0))] → W pg l en (rmL 2) s m ar bl me cd H lo 0 0 (Zi w bl ar s post) (F0 m 49 ls []) := by
    intro H lo v_49 I  rB49_N rB49_Z hV49_2 hV49_3 hF ls hl
    replace hF := ap1 eJ_49 hF
    refine lv_aload_n hx hb dX8_looked_49 rfl (lv_at hl 0 rfl) ?_
    refine g_StarWalkModel_fault E I h_k0.1 mw_4_187 dX8_looked_50 ?_
    refine lv_topi (fun x1 ex1 => ?_)
    replace hF := xl_i (ex1) hF
    have twx1 : x1.toInt = (v_49.1 k0 17).toInt := congrArg Int32.toInt ex1
    have hx1 := r_StarWalkModel_fault I h_k0.1
    rw [← ex1] at hx1
    refine bz_ne E (a := x1.toInt) rfl (tgt := 63) dX8_looked_53 (by decide) (fun c2 => ?_) (fun c2 => ?_)
    ·
      replace hF := if_f c2 hF
      refine lv_iconst (v := 0) hx hb dX8_looked_63 (by decide) ?_
      exact rI E I hr hlk rfl (by rw [← hpost]; exact ⟨⟨I.2.2, rB49_N, fun h => by omega, fun _ => rfl⟩, hF.trans hres, rB49_Z⟩) dX8_looked_64
    ·
      replace hF := if_t c2 hF
      refine lv_aload_n hx hb dX8_looked_56 rfl (lv_at hl 0 rfl) ?_
      refine g_StarWalkModel_value E I h_k0.1 mw_4_186 dX8_looked_57 ?_
      refine lv_topi (fun x3 ex3 => ?_)
      replace hF := xl_i (ex3) hF
      have twx3 : x3.toInt = (v_49.1 k0 16).toInt := congrArg Int32.toInt ex3
      refine lv_goto (tgt := 64) hx hb dX8_looked_60 (by decide) ?_
      exact rI E I hr hlk rfl (by rw [← hpost]; exact ⟨⟨I.2.2, rB49_N, by omega, fun h => by omega⟩, hF.trans hres, rB49_Z⟩) dX8_looked_64
  obtain ⟨J_25, eJ_25, hF⟩ := xl_e hF
  have B_25 : ∀ (H : Heap) (lo : List Loc) (v_25 : St), Wo w g s.heap v_25 H lo → (Fr k0 17 18 v v_25) → (∀ k j : Nat, ¬ (k = k0 ∧ 17 ≤ j ∧ j ≤ 18) → v_25.1 k j = v.1 k j) → ((v_25.1 k0 17).toInt = 0 → (v.1 k0 17).toInt = 0) → (J_25 v_25 = res) → ∀ (ls : Array Slot), lv_has ls 3 [(0, .ref (wq w k0)), (1, .int a0), (2, .int a1)] → W pg l en (rmL 2) s m ar bl me cd H lo 0 0 (Zi w bl ar s post) (F0 m 25 ls []) := by
    intro H lo v_25 I  rB25_N rB25_Z hV25_2 hF ls hl
    replace hF := ap1 eJ_25 hF
    refine lv_aload_n hx hb dX8_looked_25 rfl (lv_at hl 0 rfl) ?_
    refine g_StarWalkModel_fault E I h_k0.1 mw_4_187 dX8_looked_26 ?_
    refine lv_topi (fun x4 ex4 => ?_)
    replace hF := xl_i (ex4) hF
    have twx4 : x4.toInt = (v_25.1 k0 17).toInt := congrArg Int32.toInt ex4
    have hx4 := r_StarWalkModel_fault I h_k0.1
    rw [← ex4] at hx4
    refine bz_ne E (a := x4.toInt) rfl (tgt := 49) dX8_looked_29 (by decide) (fun c5 => ?_) (fun c5 => ?_)
    ·
      replace hF := if_f c5 hF
      exact B_49 _ _ v_25 I  rB25_N rB25_Z (by omega) (by omega) hF ls (lv_sub hl [0] rfl)
    ·
      replace hF := if_t c5 hF
      refine lv_aload_n hx hb dX8_looked_32 rfl (lv_at hl 0 rfl) ?_
      refine lv_aload_n hx hb dX8_looked_33 rfl (lv_at hl 0 rfl) ?_
      refine g_StarWalkModel_value E I h_k0.1 mw_4_186 dX8_looked_34 ?_
      refine lv_topi (fun x6 ex6 => ?_)
      replace hF := xl_i (ex6) hF
      have twx6 : x6.toInt = (v_25.1 k0 16).toInt := congrArg Int32.toInt ex6
      refine lv_i2l (v := x6.toInt64) hx hb dX8_looked_37 rfl ?_
      refine lv_iload_n hx hb dX8_looked_38 rfl (lv_at hl 1 rfl) ?_
      refine lv_i2l (v := a0.toInt64) hx hb dX8_looked_39 rfl ?_
      refine lv_iload_n hx hb dX8_looked_40 rfl (lv_at hl 2 rfl) ?_
      refine lv_i2l (v := a1.toInt64) hx hb dX8_looked_41 rfl ?_
      refine cSi E I (c_X8_in l w g v_25 x6.toInt64 a0.toInt64 a1.toInt64 E.2.2.1 I.2.2   ) (va_cwS 3 E.1.2.2.2.2 (gSs mw_5_29 mw_5_30 mw_1_9 mw_5_31) rfl rfl rfl (by decide +kernel) ⟨by decide, by decide⟩) rfl hl.1 rfl (Nat.le_of_ble_eq_true rfl) dX8_looked_42 ⟨Nat.le_refl _, Nat.le_refl _⟩ (fun r10 u11 H lo hp hPS => ?_)
      have iz12 := i64_of x6
      have iz13 := i64_of a0
      have iz14 := i64_of a1
      obtain ⟨hp, hex, hfr⟩ := hp
      replace hF := xl_i hex hF
      obtain ⟨hu, p15⟩ := hp
      rw [hu] at hPS
      have I : Wo w g s.heap v_25 H lo := ⟨hPS.1, hPS.2, I.2.2⟩
      refine lv_iconst (v := 3) hx hb dX8_looked_45 (by decide) ?_
      refine cVv E I (c_X8_needs l w g v_25 k0 r10 (3 : Int32) E.2.2.1 I.2.2 h_k0 (by decide) ) (cwV 2 E.1.2.2.2.2 (gWs (C := "StarWalkModel") mw_5_52 mw_5_54 mw_s_30 mw_1_9 mw_5_55) rfl rfl rfl (by decide +kernel) ⟨by decide, by decide⟩) h_k0.1.1 ((ce_o h_k0.1.2).trans rfl) rfl rfl hl.1 rfl (Nat.le_of_ble_eq_true rfl) dX8_looked_46 ⟨Nat.le_refl _, Nat.le_refl _⟩ (fun u16 H lo hp hPS => ?_)
      obtain ⟨hp, hex, hfr⟩ := hp
      replace hF := xl_i hex hF
      obtain ⟨hwf, p17⟩ := hp
      have I : Wo w g s.heap u16 H lo := ⟨hPS.1, hPS.2, hwf⟩
      have wtu16_k0_16 : (u16.1 k0 16).toInt = (v_25.1 k0 16).toInt := congrArg Int32.toInt (p17.1 k0 16 (by omega))
      have p17_0 := p17.2
      have rzu16 : ∀ k j : Nat, ¬ (k = k0 ∧ 17 ≤ j ∧ j ≤ 18) → u16.1 k j = v.1 k j := fun k j h => (hfr k j (fun z => h (by omega))).trans (rB25_Z k j h)
      have rlu16_N : Fr k0 17 18 v u16 := rB25_N.tr p17.1 (by decide)
      exact B_49 _ _ u16 I  rlu16_N rzu16 (by omega) (by omega) hF ls (lv_sub hl [0] rfl)
  obtain ⟨J_21, eJ_21, hF⟩ := xl_e hF
  have B_21 : ∀ (H : Heap) (lo : List Loc), Wo w g s.heap v H lo → ∀ (z21_1 : Int32), (0 ≤ z21_1.toInt ∧ z21_1.toInt ≤ 1) → (Fr k0 17 18 v v) → (∀ k j : Nat, ¬ (k = k0 ∧ 17 ≤ j ∧ j ≤ 18) → v.1 k j = v.1 k j) → (J_21 z21_1 = res) → ∀ (ls : Array Slot), lv_has ls 3 [(0, .ref (wq w k0)), (1, .int a0), (2, .int a1)] → W pg l en (rmL 2) s m ar bl me cd H lo 0 0 (Zi w bl ar s post) (F0 m 21 ls [.int z21_1, .ref (wq w k0)]) := by
    intro H lo  I z21_1 hz21_1 rB21_N rB21_Z hF ls hl
    replace hF := ap1 eJ_21 hF
    refine lv_iconst (v := 2) hx hb dX8_looked_21 (by decide) ?_
    refine cVv E I (c_X8_needs l w g v k0 z21_1 (2 : Int32) E.2.2.1 I.2.2 h_k0 (by decide) ) (cwV 2 E.1.2.2.2.2 (gWs (C := "StarWalkModel") mw_5_52 mw_5_54 mw_s_30 mw_1_9 mw_5_55) rfl rfl rfl (by decide +kernel) ⟨by decide, by decide⟩) h_k0.1.1 ((ce_o h_k0.1.2).trans rfl) rfl rfl hl.1 rfl (Nat.le_of_ble_eq_true rfl) dX8_looked_22 ⟨Nat.le_refl _, Nat.le_refl _⟩ (fun u18 H lo hp hPS => ?_)
    obtain ⟨hp, hex, hfr⟩ := hp
    replace hF := xl_i hex hF
    obtain ⟨hwf, p19⟩ := hp
    have I : Wo w g s.heap u18 H lo := ⟨hPS.1, hPS.2, hwf⟩
    have wtu18_k0_16 : (u18.1 k0 16).toInt = (v.1 k0 16).toInt := congrArg Int32.toInt (p19.1 k0 16 (by omega))
    have p19_0 := p19.2
    have rzu18 : ∀ k j : Nat, ¬ (k = k0 ∧ 17 ≤ j ∧ j ≤ 18) → u18.1 k j = v.1 k j := fun k j h => (hfr k j (fun z => h (by omega))).trans (rB21_Z k j h)
    have rlu18_N : Fr k0 17 18 v u18 := rB21_N.tr p19.1 (by decide)
    exact B_25 _ _ u18 I  rlu18_N rzu18 (by omega) hF ls (lv_sub hl [0, 1, 2] rfl)
  refine lv_aload_n hx hb dX8_looked_0 rfl (lv_at hl 0 rfl) ?_
  refine g_StarWalkModel_fault E I h_k0.1 mw_4_187 dX8_looked_1 ?_
  refine lv_topi (fun x20 ex20 => ?_)
  replace hF := xl_i (ex20) hF
  have twx20 : x20.toInt = (v.1 k0 17).toInt := congrArg Int32.toInt ex20
  have hx20 := r_StarWalkModel_fault I h_k0.1
  rw [← ex20] at hx20
  refine bz_ne E (a := x20.toInt) rfl (tgt := 25) dX8_looked_4 (by decide) (fun c21 => ?_) (fun c21 => ?_)
  ·
    replace hF := if_f c21 hF
    exact B_25 _ _ v I  (Fr.refl _ _ _ _) rz0 (by omega) hF ls (lv_sub hl [0, 1, 2] rfl)
  ·
    replace hF := if_t c21 hF
    refine lv_aload_n hx hb dX8_looked_7 rfl (lv_at hl 0 rfl) ?_
    refine lv_aload_n hx hb dX8_looked_8 rfl (lv_at hl 0 rfl) ?_
    refine g_StarWalkModel_sort E I h_k0.1 mw_4_185 dX8_looked_9 ?_
    refine lv_topi (fun x22 ex22 => ?_)
    replace hF := xl_i (ex22) hF
    refine lv_iconst (v := 2) hx hb dX8_looked_12 (by decide) ?_
    refine bi_ne E (a := x22.toInt) (b := 2) rfl rfl (tgt := 20) dX8_looked_13 (by decide) (fun c23 => ?_) (fun c23 => ?_)
    ·
      replace hF := if_f c23 hF
      refine lv_iconst (v := 0) hx hb dX8_looked_20 (by decide) ?_
      exact B_21 _ _ I (0 : Int32) (by decide) (Fr.refl _ _ _ _) rz0 hF ls (lv_sub hl [0, 1, 2] rfl)
    ·
      replace hF := if_t c23 hF
      refine lv_iconst (v := 1) hx hb dX8_looked_16 (by decide) ?_
      refine lv_goto (tgt := 21) hx hb dX8_looked_17 (by decide) ?_
      exact B_21 _ _ I (1 : Int32) (by decide) (Fr.refl _ _ _ _) rz0 hF ls (lv_sub hl [0, 1, 2] rfl)
def F_X8_next1 (k0 : Nat) (v : St) : St :=
xl (fun (z260_1 : Int32) (v_260 : St) =>
xl (F_X8_needs k0 z260_1 (1 : Int32) v_260) fun u1 =>
xl (u1.1 k0 13) fun x3 =>
xl (x3 + (1 : Int32)) fun x4 =>
xl (up1 u1 k0 13 x4) fun v5 =>
v5) fun J_260 =>
xl (fun (z236_1 : Int32) (v_236 : St) =>
xl (F_X8_needs k0 z236_1 (1 : Int32) v_236) fun u6 =>
u6) fun J_236 =>
xl (fun (self_140 : St → St) (v_140 : St) =>
xl (fun (z201_1 : Int32) =>
xl (up1 v_140 k0 16 z201_1) fun v8 =>
xl (v8.1 k0 13) fun x9 =>
xl (x9 + (1 : Int32)) fun x10 =>
xl (up1 v8 k0 13 x10) fun v11 =>
(self_140 v11)) fun J_201 =>
xl (v_140.1 k0 13) fun x12 =>
xl (F_X8_byteAt k0 x12 v_140) fun r13 =>
xl (F_X8_in r13.toInt64 (48 : Int64) (57 : Int64) v_140) fun r17 =>
if r17.toInt = 0 then (
xl (v_140.1 k0 14) fun x25 =>
xl (x12 - x25) fun x26 =>
if 2 < x26.toInt then (
(J_236 (0 : Int32) v_140)) else (
(J_236 (1 : Int32) v_140))) else (
xl (v_140.1 k0 14) fun x29 =>
xl (x12 - x29) fun x30 =>
if x30.toInt < 2 then (
xl (v_140.1 k0 16) fun x33 =>
xl ((10 : Int32) * x33) fun x34 =>
xl (F_X8_byteAt k0 x12 v_140) fun r36 =>
xl (x34 + r36) fun x39 =>
xl (x39 - (48 : Int32)) fun x40 =>
(J_201 x40)) else (
xl (v_140.1 k0 16) fun x32 =>
(J_201 x32)))) fun P_140 =>
xl (fun (self_82 : St → St) (v_82 : St) =>
xl (v_82.1 k0 13) fun x41 =>
xl (F_X8_byteAt k0 x41 v_82) fun r42 =>
xl (F_X8_in r42.toInt64 (97 : Int64) (122 : Int64) v_82) fun r46 =>
if r46.toInt = 0 then (
v_82) else (
xl (x41 + (1 : Int32)) fun x54 =>
xl (up1 v_82 k0 13 x54) fun v55 =>
(self_82 v55))) fun P_82 =>
xl (fun (self_8 : St → St) (v_8 : St) =>
xl (v_8.1 k0 13) fun x56 =>
xl (F_X8_byteAt k0 x56 v_8) fun r57 =>
if r57.toInt = 32 then (
xl (x56 + (1 : Int32)) fun x91 =>
xl (up1 v_8 k0 13 x91) fun v92 =>
(self_8 v92)) else (
xl (up1 v_8 k0 14 x56) fun v62 =>
xl (F_X8_byteAt k0 x56 v62) fun r64 =>
if r64.toInt < 0 then (
xl (up1 v62 k0 15 (0 : Int32)) fun v89 =>
v89) else (
xl (F_X8_in r64.toInt64 (97 : Int64) (122 : Int64) v62) fun r69 =>
if r69.toInt = 0 then (
xl (F_X8_in r64.toInt64 (48 : Int64) (57 : Int64) v62) fun r77 =>
if r77.toInt = 0 then (
xl (up1 v62 k0 15 (3 : Int32)) fun v84 =>
if r64.toInt = 59 then (
(J_260 (1 : Int32) v84)) else (
(J_260 (0 : Int32) v84))) else (
xl (up1 v62 k0 15 (2 : Int32)) fun v86 =>
xl (up1 v86 k0 16 (0 : Int32)) fun v87 =>
(lp P_140 (fun _ => v) ((2147483647 - (v87.1 k0 13).toInt).toNat + 1) v87))) else (
xl (up1 v62 k0 15 (1 : Int32)) fun v88 =>
(lp P_82 (fun _ => v) ((2147483647 - (v88.1 k0 13).toInt).toNat + 1) v88))))) fun P_8 =>
xl (v.1 k0 17) fun x93 =>
if 0 < x93.toInt then (
v) else (
(lp P_8 (fun _ => v) ((2147483647 - (v.1 k0 13).toInt).toNat + 1) v))
set_option maxHeartbeats 4000000 in
set_option maxRecDepth 100000 in
theorem c_X8_next1 (l : Launch) (w : Wp) (g : Nat → Nat → Int32) (v : St) (k0 : Nat) (hq : Inj w) (hw : WF (wk w) g v) (h_k0 : oM w k0) : CTv w l yX8_next1 (wsy yX8_next1 prog_10_method_14_code 2 none) (rmL 3) [.ref (wq w k0)] v (fun (u : St) => (WF (wk w) g u ∧ Fr k0 13 18 v u ∧ (v.1 k0 13).toInt ≤ (u.1 k0 13).toInt ∧ ((u.1 k0 17).toInt = 0 → (v.1 k0 17).toInt = 0) ∧ ((u.1 k0 17).toInt = 0 → ¬ (u.1 k0 15).toInt = 0 → (v.1 k0 13).toInt < (u.1 k0 13).toInt)) ∧ (u = F_X8_next1 k0 v) ∧ (∀ k j : Nat, ¬ (k = k0 ∧ 13 ≤ j ∧ j ≤ 18) → u.1 k j = v.1 k j)) := by
  generalize hpost : (fun (u : St) => (WF (wk w) g u ∧ Fr k0 13 18 v u ∧ (v.1 k0 13).toInt ≤ (u.1 k0 13).toInt ∧ ((u.1 k0 17).toInt = 0 → (v.1 k0 17).toInt = 0) ∧ ((u.1 k0 17).toInt = 0 → ¬ (u.1 k0 15).toInt = 0 → (v.1 k0 13).toInt < (u.1 k0 13).toInt)) ∧ (u = F_X8_next1 k0 v) ∧ (∀ k j : Nat, ¬ (k = k0 ∧ 13 ≤ j ∧ j ≤ 18) → u.1 k j = v.1 k j)) = post
  refine CTv.of prog_10_method_14_code 2 none "StarWalkModel" (by decide +kernel) rfl hq hw (Nat.le_of_ble_eq_true rfl) ?_
  intro pg en s m ar bl me cd ls E I hr hlk hl
  have hx := E.1.1
  have hb := E.1.2.1
  have hl : lv_has ls 2 [(0, .ref (wq w k0))] := hl
  obtain ⟨res, hres⟩ : ∃ z, z = F_X8_next1 k0 v := ⟨_, rfl⟩
  have hF := hres.symm
  unfold F_X8_next1 at hF
  replace hres : res = F_X8_next1 k0 v := hres
  have rz0 : ∀ k j : Nat, ¬ (k = k0 ∧ 13 ≤ j ∧ j ≤ 18) → v.1 k j = v.1 k j := fun _ _ _ => rfl
  obtain ⟨J_260, eJ_260, hF⟩ := xl_e hF
  have B_260 : ∀ (H : Heap) (lo : List Loc) (v_260 : St), Wo w g s.heap v_260 H lo → ∀ (z260_1 : Int32), (0 ≤ z260_1.toInt ∧ z260_1.toInt ≤ 1) → (Fr k0 13 18 v v_260) → (∀ k j : Nat, ¬ (k = k0 ∧ 13 ≤ j ∧ j ≤ 18) → v_260.1 k j = v.1 k j) → ((v.1 k0 17).toInt = 0) → ((v_260.1 k0 13).toInt ≤ 159 ∧ (v.1 k0 13).toInt ≤ (v_260.1 k0 13).toInt ∧ (v_260.1 k0 17).toInt = 0 ∧ ¬ (v_260.1 k0 15).toInt = 0) → (J_260 z260_1 v_260 = res) → ∀ (ls : Array Slot), lv_has ls 2 [(0, .ref (wq w k0))] → W pg l en (rmL 3) s m ar bl me cd H lo 0 0 (Zv w bl ar s post) (F0 m 260 ls [.int z260_1, .ref (wq w k0)]) := by
    intro H lo v_260 I z260_1 hz260_1 rB260_P rB260_Z hC260_3 hV260_4 hF ls hl
    replace hF := ap2 eJ_260 hF
    refine lv_iconst (v := 1) hx hb dX8_next1_260 (by decide) ?_
    refine cVv E I (c_X8_needs l w g v_260 k0 z260_1 (1 : Int32) E.2.2.1 I.2.2 h_k0 (by decide) ) (cwV 2 E.1.2.2.2.2 (gWs (C := "StarWalkModel") mw_5_52 mw_5_54 mw_s_30 mw_1_9 mw_5_55) rfl rfl rfl (by decide +kernel) ⟨by decide, by decide⟩) h_k0.1.1 ((ce_o h_k0.1.2).trans rfl) rfl rfl hl.1 rfl (Nat.le_of_ble_eq_true rfl) dX8_next1_261 ⟨Nat.le_refl _, Nat.le_refl _⟩ (fun u1 H lo hp hPS => ?_)
    obtain ⟨hp, hex, hfr⟩ := hp
    replace hF := xl_i hex hF
    obtain ⟨hwf, p2⟩ := hp
    have I : Wo w g s.heap u1 H lo := ⟨hPS.1, hPS.2, hwf⟩
    have wtu1_k0_13 : (u1.1 k0 13).toInt = (v_260.1 k0 13).toInt := congrArg Int32.toInt (p2.1 k0 13 (by omega))
    have wtu1_k0_15 : (u1.1 k0 15).toInt = (v_260.1 k0 15).toInt := congrArg Int32.toInt (p2.1 k0 15 (by omega))
    have wtu1_k0_16 : (u1.1 k0 16).toInt = (v_260.1 k0 16).toInt := congrArg Int32.toInt (p2.1 k0 16 (by omega))
    have wtu1_k0_14 : (u1.1 k0 14).toInt = (v_260.1 k0 14).toInt := congrArg Int32.toInt (p2.1 k0 14 (by omega))
    have wtu1_k0_12 : (u1.1 k0 12).toInt = (v_260.1 k0 12).toInt := congrArg Int32.toInt (p2.1 k0 12 (by omega))
    have p2_0 := p2.2
    have rzu1 : ∀ k j : Nat, ¬ (k = k0 ∧ 13 ≤ j ∧ j ≤ 18) → u1.1 k j = v.1 k j := fun k j h => (hfr k j (fun z => h (by omega))).trans (rB260_Z k j h)
    have rlu1_P : Fr k0 13 18 v u1 := rB260_P.tr p2.1 (by decide)
    refine lv_aload_n hx hb dX8_next1_264 rfl (lv_at hl 0 rfl) ?_
    refine lv_dup hx hb dX8_next1_265 rfl ?_
    refine g_StarWalkModel_pos E I h_k0.1 mw_4_183 dX8_next1_266 ?_
    refine lv_topi (fun x3 ex3 => ?_)
    replace hF := xl_i (ex3) hF
    have twx3 : x3.toInt = (u1.1 k0 13).toInt := congrArg Int32.toInt ex3
    have hx3 := r_StarWalkModel_pos I h_k0.1
    rw [← ex3] at hx3
    refine lv_iconst (v := 1) hx hb dX8_next1_269 (by decide) ?_
    refine lv_iadd hx hb dX8_next1_270 ?_
    refine lv_topi (fun x4 ex4 => ?_)
    replace hF := xl_i (ex4) hF
    have hx4 : x4.toInt = x3.toInt + 1 := by rw [ex4]; exact adI (a := x3.toInt) (b := 1) rfl rfl (by omega) (by omega)
    refine p_StarWalkModel_pos E I h_k0.1 mw_4_183 (by omega) dX8_next1_271 (fun H lo I => ?_)
    generalize ev5 : up1 u1 k0 13 x4 = v5 at I
    replace hF := xl_i (ev5.symm) hF
    have wtv5_k0_13 : (v5.1 k0 13).toInt = x4.toInt := by rw [← ev5]; exact congrArg Int32.toInt (up1_s _ k0 13 x4)
    have wtv5_k0_15 : (v5.1 k0 15).toInt = (u1.1 k0 15).toInt := by rw [← ev5, up1_n _ _ (Or.inr (by decide))]
    have wtv5_k0_16 : (v5.1 k0 16).toInt = (u1.1 k0 16).toInt := by rw [← ev5, up1_n _ _ (Or.inr (by decide))]
    have wtv5_k0_17 : (v5.1 k0 17).toInt = (u1.1 k0 17).toInt := by rw [← ev5, up1_n _ _ (Or.inr (by decide))]
    have wtv5_k0_14 : (v5.1 k0 14).toInt = (u1.1 k0 14).toInt := by rw [← ev5, up1_n _ _ (Or.inr (by decide))]
    have wtv5_k0_12 : (v5.1 k0 12).toInt = (u1.1 k0 12).toInt := by rw [← ev5, up1_n _ _ (Or.inr (by decide))]
    have rzv5 : ∀ k j : Nat, ¬ (k = k0 ∧ 13 ≤ j ∧ j ≤ 18) → v5.1 k j = v.1 k j := fun k j h => fz_u ev5 (by omega) (rzu1 k j h)
    have rlv5_P : Fr k0 13 18 v v5 := rlu1_P.put ev5 (by decide)
    exact rV E I hr hlk (by rw [← hpost]; exact ⟨⟨I.2.2, rlv5_P, by omega, by omega, by omega⟩, hF.trans hres, rzv5⟩) dX8_next1_274
  obtain ⟨J_236, eJ_236, hF⟩ := xl_e hF
  have B_236 : ∀ (H : Heap) (lo : List Loc) (v_236 : St), Wo w g s.heap v_236 H lo → ∀ (z236_1 : Int32), (0 ≤ z236_1.toInt ∧ z236_1.toInt ≤ 1) → (Fr k0 13 18 v v_236) → (∀ k j : Nat, ¬ (k = k0 ∧ 13 ≤ j ∧ j ≤ 18) → v_236.1 k j = v.1 k j) → ((v.1 k0 17).toInt = 0) → ((v.1 k0 13).toInt < (v_236.1 k0 13).toInt ∧ (v_236.1 k0 17).toInt = 0 ∧ ¬ (v_236.1 k0 15).toInt = 0) → (J_236 z236_1 v_236 = res) → ∀ (ls : Array Slot), lv_has ls 2 [] → W pg l en (rmL 3) s m ar bl me cd H lo 0 0 (Zv w bl ar s post) (F0 m 236 ls [.int z236_1, .ref (wq w k0)]) := by
    intro H lo v_236 I z236_1 hz236_1 rB236_P rB236_Z hC236_3 hV236_4 hF ls hl
    replace hF := ap2 eJ_236 hF
    refine lv_iconst (v := 1) hx hb dX8_next1_236 (by decide) ?_
    refine cVv E I (c_X8_needs l w g v_236 k0 z236_1 (1 : Int32) E.2.2.1 I.2.2 h_k0 (by decide) ) (cwV 2 E.1.2.2.2.2 (gWs (C := "StarWalkModel") mw_5_52 mw_5_54 mw_s_30 mw_1_9 mw_5_55) rfl rfl rfl (by decide +kernel) ⟨by decide, by decide⟩) h_k0.1.1 ((ce_o h_k0.1.2).trans rfl) rfl rfl hl.1 rfl (Nat.le_of_ble_eq_true rfl) dX8_next1_237 ⟨Nat.le_refl _, Nat.le_refl _⟩ (fun u6 H lo hp hPS => ?_)
    obtain ⟨hp, hex, hfr⟩ := hp
    replace hF := xl_i hex hF
    obtain ⟨hwf, p7⟩ := hp
    have I : Wo w g s.heap u6 H lo := ⟨hPS.1, hPS.2, hwf⟩
    have wtu6_k0_13 : (u6.1 k0 13).toInt = (v_236.1 k0 13).toInt := congrArg Int32.toInt (p7.1 k0 13 (by omega))
    have wtu6_k0_15 : (u6.1 k0 15).toInt = (v_236.1 k0 15).toInt := congrArg Int32.toInt (p7.1 k0 15 (by omega))
    have wtu6_k0_16 : (u6.1 k0 16).toInt = (v_236.1 k0 16).toInt := congrArg Int32.toInt (p7.1 k0 16 (by omega))
    have wtu6_k0_14 : (u6.1 k0 14).toInt = (v_236.1 k0 14).toInt := congrArg Int32.toInt (p7.1 k0 14 (by omega))
    have wtu6_k0_12 : (u6.1 k0 12).toInt = (v_236.1 k0 12).toInt := congrArg Int32.toInt (p7.1 k0 12 (by omega))
    have p7_0 := p7.2
    have rzu6 : ∀ k j : Nat, ¬ (k = k0 ∧ 13 ≤ j ∧ j ≤ 18) → u6.1 k j = v.1 k j := fun k j h => (hfr k j (fun z => h (by omega))).trans (rB236_Z k j h)
    have rlu6_P : Fr k0 13 18 v u6 := rB236_P.tr p7.1 (by decide)
    refine lv_goto (tgt := 274) hx hb dX8_next1_240 (by decide) ?_
    exact rV E I hr hlk (by rw [← hpost]; exact ⟨⟨I.2.2, rlu6_P, by omega, by omega, by omega⟩, hF.trans hres, rzu6⟩) dX8_next1_274
  obtain ⟨P_140, eP_140, hF⟩ := xl_e hF
  have L_140 : ∀ (n : Nat), ∀ (H : Heap) (lo : List Loc) (v_140 : St), Wo w g s.heap v_140 H lo → (Fr k0 13 18 v v_140) → (∀ k j : Nat, ¬ (k = k0 ∧ 13 ≤ j ∧ j ≤ 18) → v_140.1 k j = v.1 k j) → ((v.1 k0 17).toInt = 0) → ((v.1 k0 13).toInt ≤ (v_140.1 k0 14).toInt) → ((v_140.1 k0 14).toInt ≤ (v_140.1 k0 13).toInt) → ((v_140.1 k0 13).toInt = (v_140.1 k0 14).toInt → (v_140.1 k0 14).toInt < (v_140.1 k0 12).toInt ∧ 48 ≤ (v.1 (k0 + 5) (v_140.1 k0 14).toNatClampNeg).toInt ∧ (v.1 (k0 + 5) (v_140.1 k0 14).toNatClampNeg).toInt ≤ 57) → ((v_140.1 k0 17).toInt = 0) → (¬ (v_140.1 k0 15).toInt = 0) → (lp P_140 (fun _ => v) n v_140 = res) → (2147483647 - (v_140.1 k0 13).toInt).toNat < n → ∀ (ls : Array Slot), lv_has ls 2 [(0, .ref (wq w k0))] → W pg l en (rmL 3) s m ar bl me cd H lo 0 0 (Zv w bl ar s post) (F0 m 140 ls []) := by
    intro n
    induction n with
    | zero => intro H lo v_140 I  rB140_P rB140_Z hC140_2 iv140_0 iv140_1 iv140_2 iv140_3 iv140_4 hF hm; exact absurd hm (Nat.not_lt_zero _)
    | succ n ih_140 =>
      intro H lo v_140 I  rB140_P rB140_Z hC140_2 iv140_0 iv140_1 iv140_2 iv140_3 iv140_4 hF hm ls hl
      replace hF := lpa1 eP_140 hF
      obtain ⟨J_201, eJ_201, hF⟩ := xl_e hF
      have B_201 : ∀ (H : Heap) (lo : List Loc), Wo w g s.heap v_140 H lo → ∀ (z201_1 : Int32), (Fr k0 13 18 v v_140) → (∀ k j : Nat, ¬ (k = k0 ∧ 13 ≤ j ∧ j ≤ 18) → v_140.1 k j = v.1 k j) → ((v.1 k0 17).toInt = 0) → ((v_140.1 k0 13).toInt ≤ 159) → (J_201 z201_1 = res) → ∀ (ls : Array Slot), lv_has ls 2 [(0, .ref (wq w k0))] → W pg l en (rmL 3) s m ar bl me cd H lo 0 0 (Zv w bl ar s post) (F0 m 201 ls [.int z201_1, .ref (wq w k0)]) := by
        intro H lo  I z201_1 rB201_P rB201_Z hC201_2 hV201_3 hF ls hl
        replace hF := ap1 eJ_201 hF
        refine p_StarWalkModel_value E I h_k0.1 mw_4_186 dX8_next1_201 (fun H lo I => ?_)
        generalize ev8 : up1 v_140 k0 16 z201_1 = v8 at I
        replace hF := xl_i (ev8.symm) hF
        have wtv8_k0_13 : (v8.1 k0 13).toInt = (v_140.1 k0 13).toInt := by rw [← ev8, up1_n _ _ (Or.inr (by decide))]
        have wtv8_k0_15 : (v8.1 k0 15).toInt = (v_140.1 k0 15).toInt := by rw [← ev8, up1_n _ _ (Or.inr (by decide))]
        have wtv8_k0_16 : (v8.1 k0 16).toInt = z201_1.toInt := by rw [← ev8]; exact congrArg Int32.toInt (up1_s _ k0 16 z201_1)
        have wtv8_k0_17 : (v8.1 k0 17).toInt = (v_140.1 k0 17).toInt := by rw [← ev8, up1_n _ _ (Or.inr (by decide))]
        have wtv8_k0_14 : (v8.1 k0 14).toInt = (v_140.1 k0 14).toInt := by rw [← ev8, up1_n _ _ (Or.inr (by decide))]
        have wtv8_k0_12 : (v8.1 k0 12).toInt = (v_140.1 k0 12).toInt := by rw [← ev8, up1_n _ _ (Or.inr (by decide))]
        have rzv8 : ∀ k j : Nat, ¬ (k = k0 ∧ 13 ≤ j ∧ j ≤ 18) → v8.1 k j = v.1 k j := fun k j h => fz_u ev8 (by omega) (rB201_Z k j h)
        have rlv8_P : Fr k0 13 18 v v8 := rB201_P.put ev8 (by decide)
        refine lv_aload_n hx hb dX8_next1_204 rfl (lv_at hl 0 rfl) ?_
        refine lv_dup hx hb dX8_next1_205 rfl ?_
        refine g_StarWalkModel_pos E I h_k0.1 mw_4_183 dX8_next1_206 ?_
        refine lv_topi (fun x9 ex9 => ?_)
        replace hF := xl_i (ex9) hF
        have twx9 : x9.toInt = (v8.1 k0 13).toInt := congrArg Int32.toInt ex9
        have hx9 := r_StarWalkModel_pos I h_k0.1
        rw [← ex9] at hx9
        refine lv_iconst (v := 1) hx hb dX8_next1_209 (by decide) ?_
        refine lv_iadd hx hb dX8_next1_210 ?_
        refine lv_topi (fun x10 ex10 => ?_)
        replace hF := xl_i (ex10) hF
        have hx10 : x10.toInt = x9.toInt + 1 := by rw [ex10]; exact adI (a := x9.toInt) (b := 1) rfl rfl (by omega) (by omega)
        refine p_StarWalkModel_pos E I h_k0.1 mw_4_183 (by omega) dX8_next1_211 (fun H lo I => ?_)
        generalize ev11 : up1 v8 k0 13 x10 = v11 at I
        replace hF := xl_i (ev11.symm) hF
        have wtv11_k0_13 : (v11.1 k0 13).toInt = x10.toInt := by rw [← ev11]; exact congrArg Int32.toInt (up1_s _ k0 13 x10)
        have wtv11_k0_15 : (v11.1 k0 15).toInt = (v8.1 k0 15).toInt := by rw [← ev11, up1_n _ _ (Or.inr (by decide))]
        have wtv11_k0_16 : (v11.1 k0 16).toInt = (v8.1 k0 16).toInt := by rw [← ev11, up1_n _ _ (Or.inr (by decide))]
        have wtv11_k0_17 : (v11.1 k0 17).toInt = (v8.1 k0 17).toInt := by rw [← ev11, up1_n _ _ (Or.inr (by decide))]
        have wtv11_k0_14 : (v11.1 k0 14).toInt = (v8.1 k0 14).toInt := by rw [← ev11, up1_n _ _ (Or.inr (by decide))]
        have wtv11_k0_12 : (v11.1 k0 12).toInt = (v8.1 k0 12).toInt := by rw [← ev11, up1_n _ _ (Or.inr (by decide))]
        have rzv11 : ∀ k j : Nat, ¬ (k = k0 ∧ 13 ≤ j ∧ j ≤ 18) → v11.1 k j = v.1 k j := fun k j h => fz_u ev11 (by omega) (rzv8 k j h)
        have rlv11_P : Fr k0 13 18 v v11 := rlv8_P.put ev11 (by decide)
        refine lv_goto (tgt := 140) hx hb dX8_next1_214 (by decide) ?_
        exact ih_140 _ _ v11 I  rlv11_P rzv11 (by omega) (by omega) (by omega) (by omega) (by omega) (by omega) hF (by omega) ls (lv_sub hl [0] rfl)
      refine lv_aload_n hx hb dX8_next1_140 rfl (lv_at hl 0 rfl) ?_
      refine lv_aload_n hx hb dX8_next1_141 rfl (lv_at hl 0 rfl) ?_
      refine g_StarWalkModel_pos E I h_k0.1 mw_4_183 dX8_next1_142 ?_
      refine lv_topi (fun x12 ex12 => ?_)
      replace hF := xl_i (ex12) hF
      have twx12 : x12.toInt = (v_140.1 k0 13).toInt := congrArg Int32.toInt ex12
      have hx12 := r_StarWalkModel_pos I h_k0.1
      rw [← ex12] at hx12
      refine cVi E I (c_X8_byteAt l w g v_140 k0 x12 E.2.2.1 I.2.2 h_k0 (by omega) ) (cwV 1 E.1.2.2.2.2 (gWs (C := "StarWalkModel") mw_5_44 mw_5_46 mw_s_29 mw_1_9 mw_5_47) rfl rfl rfl (by decide +kernel) ⟨by decide, by decide⟩) h_k0.1.1 ((ce_o h_k0.1.2).trans rfl) rfl rfl hl.1 rfl (Nat.le_of_ble_eq_true rfl) dX8_next1_145 ⟨Nat.le_refl _, Nat.le_refl _⟩ (fun r13 u14 H lo hp hPS => ?_)
      obtain ⟨hp, hex, hfr⟩ := hp
      replace hF := xl_i hex hF
      obtain ⟨hu, p15⟩ := hp
      rw [hu] at hPS
      have I : Wo w g s.heap v_140 H lo := ⟨hPS.1, hPS.2, I.2.2⟩
      have p15_1 := p15.1
      have p15_3 := p15.2.2
      have cg145 : x12.toInt = (v_140.1 k0 14).toInt → x12.toInt < (v_140.1 k0 12).toInt → r13.toInt = (v.1 (k0 + 5) (v_140.1 k0 14).toNatClampNeg).toInt := fun h hl => by have e : x12 = v_140.1 k0 14 := Int32.toInt_inj.mp h; rw [p15.2.1 hl, e, rB140_P (k0 + 5) _ (by omega)]
      refine lv_i2l (v := r13.toInt64) hx hb dX8_next1_148 rfl ?_
      refine lv_ldc2 (own := "StarWalkModel") hx hb E.1.2.2.2.1 (Ew E mw_5_50 rfl) dX8_next1_149 ?_
      refine lv_ldc2 (own := "StarWalkModel") hx hb E.1.2.2.2.1 (Ew E mw_5_51 rfl) dX8_next1_152 ?_
      refine cSi E I (c_X8_in l w g v_140 r13.toInt64 (48 : Int64) (57 : Int64) E.2.2.1 I.2.2   ) (va_cwS 3 E.1.2.2.2.2 (gSs mw_5_29 mw_5_30 mw_1_9 mw_5_31) rfl rfl rfl (by decide +kernel) ⟨by decide, by decide⟩) rfl hl.1 rfl (Nat.le_of_ble_eq_true rfl) dX8_next1_155 ⟨Nat.le_refl _, Nat.le_refl _⟩ (fun r17 u18 H lo hp hPS => ?_)
      have iz19 := i64_of r13
      have iz20 : (48 : Int64).toInt = 48 := rfl
      have iz21 : (57 : Int64).toInt = 57 := rfl
      obtain ⟨hp, hex, hfr⟩ := hp
      replace hF := xl_i hex hF
      obtain ⟨hu, p22⟩ := hp
      rw [hu] at hPS
      have I : Wo w g s.heap v_140 H lo := ⟨hPS.1, hPS.2, I.2.2⟩
      refine bz_eq E (a := r17.toInt) rfl (tgt := 217) dX8_next1_158 (by decide) (fun c23 => ?_) (fun c23 => ?_)
      ·
        replace hF := if_t c23 hF
        refine lv_aload_n hx hb dX8_next1_217 rfl (lv_at hl 0 rfl) ?_
        refine lv_aload_n hx hb dX8_next1_218 rfl (lv_at hl 0 rfl) ?_
        refine g_StarWalkModel_pos E I h_k0.1 mw_4_183 dX8_next1_219 ?_
        refine lv_topi (fun x24 ex24 => ?_)
        obtain rfl : x12 = x24 := ex12.symm.symm.trans ex24.symm
        refine lv_aload_n hx hb dX8_next1_222 rfl (lv_at hl 0 rfl) ?_
        refine g_StarWalkModel_from E I h_k0.1 mw_4_184 dX8_next1_223 ?_
        refine lv_topi (fun x25 ex25 => ?_)
        replace hF := xl_i (ex25) hF
        have twx25 : x25.toInt = (v_140.1 k0 14).toInt := congrArg Int32.toInt ex25
        have hx25 := r_StarWalkModel_from I h_k0.1
        rw [← ex25] at hx25
        refine lv_isub hx hb dX8_next1_226 ?_
        refine lv_topi (fun x26 ex26 => ?_)
        replace hF := xl_i (ex26) hF
        have hx26 : x26.toInt = x12.toInt - x25.toInt := by rw [ex26]; exact sbI (a := x12.toInt) (b := x25.toInt) rfl rfl (by omega) (by omega)
        refine lv_iconst (v := 2) hx hb dX8_next1_227 (by decide) ?_
        refine bi_gt E (a := x26.toInt) (b := 2) rfl rfl (tgt := 235) dX8_next1_228 (by decide) (fun c27 => ?_) (fun c27 => ?_)
        ·
          replace hF := if_t c27 hF
          refine lv_iconst (v := 0) hx hb dX8_next1_235 (by decide) ?_
          exact B_236 _ _ v_140 I (0 : Int32) (by decide) rB140_P rB140_Z (by omega) (by omega) hF ls (lv_sub hl [] rfl)
        ·
          replace hF := if_l c27 hF
          refine lv_iconst (v := 1) hx hb dX8_next1_231 (by decide) ?_
          refine lv_goto (tgt := 236) hx hb dX8_next1_232 (by decide) ?_
          exact B_236 _ _ v_140 I (1 : Int32) (by decide) rB140_P rB140_Z (by omega) (by omega) hF ls (lv_sub hl [] rfl)
      ·
        replace hF := if_f c23 hF
        refine lv_aload_n hx hb dX8_next1_161 rfl (lv_at hl 0 rfl) ?_
        refine lv_aload_n hx hb dX8_next1_162 rfl (lv_at hl 0 rfl) ?_
        refine g_StarWalkModel_pos E I h_k0.1 mw_4_183 dX8_next1_163 ?_
        refine lv_topi (fun x28 ex28 => ?_)
        obtain rfl : x12 = x28 := ex12.symm.symm.trans ex28.symm
        refine lv_aload_n hx hb dX8_next1_166 rfl (lv_at hl 0 rfl) ?_
        refine g_StarWalkModel_from E I h_k0.1 mw_4_184 dX8_next1_167 ?_
        refine lv_topi (fun x29 ex29 => ?_)
        replace hF := xl_i (ex29) hF
        have twx29 : x29.toInt = (v_140.1 k0 14).toInt := congrArg Int32.toInt ex29
        have hx29 := r_StarWalkModel_from I h_k0.1
        rw [← ex29] at hx29
        refine lv_isub hx hb dX8_next1_170 ?_
        refine lv_topi (fun x30 ex30 => ?_)
        replace hF := xl_i (ex30) hF
        have hx30 : x30.toInt = x12.toInt - x29.toInt := by rw [ex30]; exact sbI (a := x12.toInt) (b := x29.toInt) rfl rfl (by omega) (by omega)
        refine lv_iconst (v := 2) hx hb dX8_next1_171 (by decide) ?_
        refine bi_ge E (a := x30.toInt) (b := 2) rfl rfl (tgt := 197) dX8_next1_172 (by decide) (fun c31 => ?_) (fun c31 => ?_)
        ·
          replace hF := if_l c31 hF
          refine lv_aload_n hx hb dX8_next1_197 rfl (lv_at hl 0 rfl) ?_
          refine g_StarWalkModel_value E I h_k0.1 mw_4_186 dX8_next1_198 ?_
          refine lv_topi (fun x32 ex32 => ?_)
          replace hF := xl_i (ex32) hF
          have twx32 : x32.toInt = (v_140.1 k0 16).toInt := congrArg Int32.toInt ex32
          exact B_201 _ _ I x32 rB140_P rB140_Z (by omega) (by omega) hF ls (lv_sub hl [0] rfl)
        ·
          replace hF := if_t c31 hF
          refine lv_bipush (v := 10) hx hb dX8_next1_175 (by decide) ?_
          refine lv_aload_n hx hb dX8_next1_177 rfl (lv_at hl 0 rfl) ?_
          refine g_StarWalkModel_value E I h_k0.1 mw_4_186 dX8_next1_178 ?_
          refine lv_topi (fun x33 ex33 => ?_)
          replace hF := xl_i (ex33) hF
          have twx33 : x33.toInt = (v_140.1 k0 16).toInt := congrArg Int32.toInt ex33
          refine lv_imul hx hb dX8_next1_181 ?_
          refine lv_topi (fun x34 ex34 => ?_)
          replace hF := xl_i (ex34) hF
          refine lv_aload_n hx hb dX8_next1_182 rfl (lv_at hl 0 rfl) ?_
          refine lv_aload_n hx hb dX8_next1_183 rfl (lv_at hl 0 rfl) ?_
          refine g_StarWalkModel_pos E I h_k0.1 mw_4_183 dX8_next1_184 ?_
          refine lv_topi (fun x35 ex35 => ?_)
          obtain rfl : x12 = x35 := ex12.symm.symm.trans ex35.symm
          refine cVi E I (c_X8_byteAt l w g v_140 k0 x12 E.2.2.1 I.2.2 h_k0 (by omega) ) (cwV 1 E.1.2.2.2.2 (gWs (C := "StarWalkModel") mw_5_44 mw_5_46 mw_s_29 mw_1_9 mw_5_47) rfl rfl rfl (by decide +kernel) ⟨by decide, by decide⟩) h_k0.1.1 ((ce_o h_k0.1.2).trans rfl) rfl rfl hl.1 rfl (Nat.le_of_ble_eq_true rfl) dX8_next1_187 ⟨Nat.le_refl _, Nat.le_refl _⟩ (fun r36 u37 H lo hp hPS => ?_)
          obtain ⟨hp, hex, hfr⟩ := hp
          replace hF := xl_i hex hF
          obtain ⟨hu, p38⟩ := hp
          rw [hu] at hPS
          have I : Wo w g s.heap v_140 H lo := ⟨hPS.1, hPS.2, I.2.2⟩
          have p38_1 := p38.1
          have p38_3 := p38.2.2
          refine lv_iadd hx hb dX8_next1_190 ?_
          refine lv_topi (fun x39 ex39 => ?_)
          replace hF := xl_i (ex39) hF
          refine lv_bipush (v := 48) hx hb dX8_next1_191 (by decide) ?_
          refine lv_isub hx hb dX8_next1_193 ?_
          refine lv_topi (fun x40 ex40 => ?_)
          replace hF := xl_i (ex40) hF
          refine lv_goto (tgt := 201) hx hb dX8_next1_194 (by decide) ?_
          exact B_201 _ _ I x40 rB140_P rB140_Z (by omega) (by omega) hF ls (lv_sub hl [0] rfl)
  obtain ⟨P_82, eP_82, hF⟩ := xl_e hF
  have L_82 : ∀ (n : Nat), ∀ (H : Heap) (lo : List Loc) (v_82 : St), Wo w g s.heap v_82 H lo → (Fr k0 13 18 v v_82) → (∀ k j : Nat, ¬ (k = k0 ∧ 13 ≤ j ∧ j ≤ 18) → v_82.1 k j = v.1 k j) → ((v.1 k0 17).toInt = 0) → ((v.1 k0 13).toInt ≤ (v_82.1 k0 14).toInt) → ((v_82.1 k0 14).toInt ≤ (v_82.1 k0 13).toInt) → ((v_82.1 k0 13).toInt = (v_82.1 k0 14).toInt → (v_82.1 k0 14).toInt < (v_82.1 k0 12).toInt ∧ 97 ≤ (v.1 (k0 + 5) (v_82.1 k0 14).toNatClampNeg).toInt ∧ (v.1 (k0 + 5) (v_82.1 k0 14).toNatClampNeg).toInt ≤ 122) → ((v_82.1 k0 17).toInt = 0) → (¬ (v_82.1 k0 15).toInt = 0) → (lp P_82 (fun _ => v) n v_82 = res) → (2147483647 - (v_82.1 k0 13).toInt).toNat < n → ∀ (ls : Array Slot), lv_has ls 2 [(0, .ref (wq w k0))] → W pg l en (rmL 3) s m ar bl me cd H lo 0 0 (Zv w bl ar s post) (F0 m 82 ls []) := by
    intro n
    induction n with
    | zero => intro H lo v_82 I  rB82_P rB82_Z hC82_2 iv82_0 iv82_1 iv82_2 iv82_3 iv82_4 hF hm; exact absurd hm (Nat.not_lt_zero _)
    | succ n ih_82 =>
      intro H lo v_82 I  rB82_P rB82_Z hC82_2 iv82_0 iv82_1 iv82_2 iv82_3 iv82_4 hF hm ls hl
      replace hF := lpa1 eP_82 hF
      refine lv_aload_n hx hb dX8_next1_82 rfl (lv_at hl 0 rfl) ?_
      refine lv_aload_n hx hb dX8_next1_83 rfl (lv_at hl 0 rfl) ?_
      refine g_StarWalkModel_pos E I h_k0.1 mw_4_183 dX8_next1_84 ?_
      refine lv_topi (fun x41 ex41 => ?_)
      replace hF := xl_i (ex41) hF
      have twx41 : x41.toInt = (v_82.1 k0 13).toInt := congrArg Int32.toInt ex41
      have hx41 := r_StarWalkModel_pos I h_k0.1
      rw [← ex41] at hx41
      refine cVi E I (c_X8_byteAt l w g v_82 k0 x41 E.2.2.1 I.2.2 h_k0 (by omega) ) (cwV 1 E.1.2.2.2.2 (gWs (C := "StarWalkModel") mw_5_44 mw_5_46 mw_s_29 mw_1_9 mw_5_47) rfl rfl rfl (by decide +kernel) ⟨by decide, by decide⟩) h_k0.1.1 ((ce_o h_k0.1.2).trans rfl) rfl rfl hl.1 rfl (Nat.le_of_ble_eq_true rfl) dX8_next1_87 ⟨Nat.le_refl _, Nat.le_refl _⟩ (fun r42 u43 H lo hp hPS => ?_)
      obtain ⟨hp, hex, hfr⟩ := hp
      replace hF := xl_i hex hF
      obtain ⟨hu, p44⟩ := hp
      rw [hu] at hPS
      have I : Wo w g s.heap v_82 H lo := ⟨hPS.1, hPS.2, I.2.2⟩
      have p44_1 := p44.1
      have p44_3 := p44.2.2
      have cg87 : x41.toInt = (v_82.1 k0 14).toInt → x41.toInt < (v_82.1 k0 12).toInt → r42.toInt = (v.1 (k0 + 5) (v_82.1 k0 14).toNatClampNeg).toInt := fun h hl => by have e : x41 = v_82.1 k0 14 := Int32.toInt_inj.mp h; rw [p44.2.1 hl, e, rB82_P (k0 + 5) _ (by omega)]
      refine lv_i2l (v := r42.toInt64) hx hb dX8_next1_90 rfl ?_
      refine lv_ldc2 (own := "StarWalkModel") hx hb E.1.2.2.2.1 (Ew E mw_5_48 rfl) dX8_next1_91 ?_
      refine lv_ldc2 (own := "StarWalkModel") hx hb E.1.2.2.2.1 (Ew E mw_5_49 rfl) dX8_next1_94 ?_
      refine cSi E I (c_X8_in l w g v_82 r42.toInt64 (97 : Int64) (122 : Int64) E.2.2.1 I.2.2   ) (va_cwS 3 E.1.2.2.2.2 (gSs mw_5_29 mw_5_30 mw_1_9 mw_5_31) rfl rfl rfl (by decide +kernel) ⟨by decide, by decide⟩) rfl hl.1 rfl (Nat.le_of_ble_eq_true rfl) dX8_next1_97 ⟨Nat.le_refl _, Nat.le_refl _⟩ (fun r46 u47 H lo hp hPS => ?_)
      have iz48 := i64_of r42
      have iz49 : (97 : Int64).toInt = 97 := rfl
      have iz50 : (122 : Int64).toInt = 122 := rfl
      obtain ⟨hp, hex, hfr⟩ := hp
      replace hF := xl_i hex hF
      obtain ⟨hu, p51⟩ := hp
      rw [hu] at hPS
      have I : Wo w g s.heap v_82 H lo := ⟨hPS.1, hPS.2, I.2.2⟩
      refine bz_eq E (a := r46.toInt) rfl (tgt := 274) dX8_next1_100 (by decide) (fun c52 => ?_) (fun c52 => ?_)
      ·
        replace hF := if_t c52 hF
        exact rV E I hr hlk (by rw [← hpost]; exact ⟨⟨I.2.2, rB82_P, by omega, by omega, by omega⟩, hF.trans hres, rB82_Z⟩) dX8_next1_274
      ·
        replace hF := if_f c52 hF
        refine lv_aload_n hx hb dX8_next1_103 rfl (lv_at hl 0 rfl) ?_
        refine lv_dup hx hb dX8_next1_104 rfl ?_
        refine g_StarWalkModel_pos E I h_k0.1 mw_4_183 dX8_next1_105 ?_
        refine lv_topi (fun x53 ex53 => ?_)
        obtain rfl : x41 = x53 := ex41.symm.symm.trans ex53.symm
        refine lv_iconst (v := 1) hx hb dX8_next1_108 (by decide) ?_
        refine lv_iadd hx hb dX8_next1_109 ?_
        refine lv_topi (fun x54 ex54 => ?_)
        replace hF := xl_i (ex54) hF
        have hx54 : x54.toInt = x41.toInt + 1 := by rw [ex54]; exact adI (a := x41.toInt) (b := 1) rfl rfl (by omega) (by omega)
        refine p_StarWalkModel_pos E I h_k0.1 mw_4_183 (by omega) dX8_next1_110 (fun H lo I => ?_)
        generalize ev55 : up1 v_82 k0 13 x54 = v55 at I
        replace hF := xl_i (ev55.symm) hF
        have wtv55_k0_13 : (v55.1 k0 13).toInt = x54.toInt := by rw [← ev55]; exact congrArg Int32.toInt (up1_s _ k0 13 x54)
        have wtv55_k0_15 : (v55.1 k0 15).toInt = (v_82.1 k0 15).toInt := by rw [← ev55, up1_n _ _ (Or.inr (by decide))]
        have wtv55_k0_16 : (v55.1 k0 16).toInt = (v_82.1 k0 16).toInt := by rw [← ev55, up1_n _ _ (Or.inr (by decide))]
        have wtv55_k0_17 : (v55.1 k0 17).toInt = (v_82.1 k0 17).toInt := by rw [← ev55, up1_n _ _ (Or.inr (by decide))]
        have wtv55_k0_14 : (v55.1 k0 14).toInt = (v_82.1 k0 14).toInt := by rw [← ev55, up1_n _ _ (Or.inr (by decide))]
        have wtv55_k0_12 : (v55.1 k0 12).toInt = (v_82.1 k0 12).toInt := by rw [← ev55, up1_n _ _ (Or.inr (by decide))]
        have rzv55 : ∀ k j : Nat, ¬ (k = k0 ∧ 13 ≤ j ∧ j ≤ 18) → v55.1 k j = v.1 k j := fun k j h => fz_u ev55 (by omega) (rB82_Z k j h)
        have rlv55_P : Fr k0 13 18 v v55 := rB82_P.put ev55 (by decide)
        refine lv_goto (tgt := 82) hx hb dX8_next1_113 (by decide) ?_
        exact ih_82 _ _ v55 I  rlv55_P rzv55 (by omega) (by omega) (by omega) (by omega) (by omega) (by omega) hF (by omega) ls (lv_sub hl [0] rfl)
  obtain ⟨P_8, eP_8, hF⟩ := xl_e hF
  have L_8 : ∀ (n : Nat), ∀ (H : Heap) (lo : List Loc) (v_8 : St), Wo w g s.heap v_8 H lo → (Fr k0 13 18 v v_8) → (∀ k j : Nat, ¬ (k = k0 ∧ 13 ≤ j ∧ j ≤ 18) → v_8.1 k j = v.1 k j) → ((v.1 k0 17).toInt = 0) → ((v.1 k0 13).toInt ≤ (v_8.1 k0 13).toInt ∧ (v_8.1 k0 17).toInt = 0) → (lp P_8 (fun _ => v) n v_8 = res) → (2147483647 - (v_8.1 k0 13).toInt).toNat < n → ∀ (ls : Array Slot), lv_has ls 2 [(0, .ref (wq w k0))] → W pg l en (rmL 3) s m ar bl me cd H lo 0 0 (Zv w bl ar s post) (F0 m 8 ls []) := by
    intro n
    induction n with
    | zero => intro H lo v_8 I  rB8_P rB8_Z hC8_2 hV8_3 hF hm; exact absurd hm (Nat.not_lt_zero _)
    | succ n ih_8 =>
      intro H lo v_8 I  rB8_P rB8_Z hC8_2 hV8_3 hF hm ls hl
      replace hF := lpa1 eP_8 hF
      refine lv_aload_n hx hb dX8_next1_8 rfl (lv_at hl 0 rfl) ?_
      refine lv_aload_n hx hb dX8_next1_9 rfl (lv_at hl 0 rfl) ?_
      refine g_StarWalkModel_pos E I h_k0.1 mw_4_183 dX8_next1_10 ?_
      refine lv_topi (fun x56 ex56 => ?_)
      replace hF := xl_i (ex56) hF
      have twx56 : x56.toInt = (v_8.1 k0 13).toInt := congrArg Int32.toInt ex56
      have hx56 := r_StarWalkModel_pos I h_k0.1
      rw [← ex56] at hx56
      refine cVi E I (c_X8_byteAt l w g v_8 k0 x56 E.2.2.1 I.2.2 h_k0 (by omega) ) (cwV 1 E.1.2.2.2.2 (gWs (C := "StarWalkModel") mw_5_44 mw_5_46 mw_s_29 mw_1_9 mw_5_47) rfl rfl rfl (by decide +kernel) ⟨by decide, by decide⟩) h_k0.1.1 ((ce_o h_k0.1.2).trans rfl) rfl rfl hl.1 rfl (Nat.le_of_ble_eq_true rfl) dX8_next1_13 ⟨Nat.le_refl _, Nat.le_refl _⟩ (fun r57 u58 H lo hp hPS => ?_)
      obtain ⟨hp, hex, hfr⟩ := hp
      replace hF := xl_i hex hF
      obtain ⟨hu, p59⟩ := hp
      rw [hu] at hPS
      have I : Wo w g s.heap v_8 H lo := ⟨hPS.1, hPS.2, I.2.2⟩
      have p59_1 := p59.1
      have p59_3 := p59.2.2
      refine lv_bipush (v := 32) hx hb dX8_next1_16 (by decide) ?_
      refine bi_ne E (a := r57.toInt) (b := 32) rfl rfl (tgt := 34) dX8_next1_18 (by decide) (fun c60 => ?_) (fun c60 => ?_)
      ·
        replace hF := if_f c60 hF
        refine lv_aload_n hx hb dX8_next1_34 rfl (lv_at hl 0 rfl) ?_
        refine lv_aload_n hx hb dX8_next1_35 rfl (lv_at hl 0 rfl) ?_
        refine g_StarWalkModel_pos E I h_k0.1 mw_4_183 dX8_next1_36 ?_
        refine lv_topi (fun x61 ex61 => ?_)
        obtain rfl : x56 = x61 := ex56.symm.symm.trans ex61.symm
        refine p_StarWalkModel_from E I h_k0.1 mw_4_184 (by omega) dX8_next1_39 (fun H lo I => ?_)
        generalize ev62 : up1 v_8 k0 14 x56 = v62 at I
        replace hF := xl_i (ev62.symm) hF
        have mv62_0 : v62.1 k0 13 = x56 := by rw [← ev62, up1_n _ _ (Or.inr (by decide))] <;> exact ex56.symm
        have wtv62_k0_13 : (v62.1 k0 13).toInt = (v_8.1 k0 13).toInt := by rw [← ev62, up1_n _ _ (Or.inr (by decide))]
        have wtv62_k0_15 : (v62.1 k0 15).toInt = (v_8.1 k0 15).toInt := by rw [← ev62, up1_n _ _ (Or.inr (by decide))]
        have wtv62_k0_16 : (v62.1 k0 16).toInt = (v_8.1 k0 16).toInt := by rw [← ev62, up1_n _ _ (Or.inr (by decide))]
        have wtv62_k0_17 : (v62.1 k0 17).toInt = (v_8.1 k0 17).toInt := by rw [← ev62, up1_n _ _ (Or.inr (by decide))]
        have wtv62_k0_14 : (v62.1 k0 14).toInt = x56.toInt := by rw [← ev62]; exact congrArg Int32.toInt (up1_s _ k0 14 x56)
        have wtv62_k0_12 : (v62.1 k0 12).toInt = (v_8.1 k0 12).toInt := by rw [← ev62, up1_n _ _ (Or.inr (by decide))]
        have rzv62 : ∀ k j : Nat, ¬ (k = k0 ∧ 13 ≤ j ∧ j ≤ 18) → v62.1 k j = v.1 k j := fun k j h => fz_u ev62 (by omega) (rB8_Z k j h)
        have rlv62_P : Fr k0 13 18 v v62 := rB8_P.put ev62 (by decide)
        refine lv_aload_n hx hb dX8_next1_42 rfl (lv_at hl 0 rfl) ?_
        refine lv_aload_n hx hb dX8_next1_43 rfl (lv_at hl 0 rfl) ?_
        refine g_StarWalkModel_pos E I h_k0.1 mw_4_183 dX8_next1_44 ?_
        refine lv_topi (fun x63 ex63 => ?_)
        obtain rfl : x56 = x63 := mv62_0.symm.trans ex63.symm
        refine cVi E I (c_X8_byteAt l w g v62 k0 x56 E.2.2.1 I.2.2 h_k0 (by omega) ) (cwV 1 E.1.2.2.2.2 (gWs (C := "StarWalkModel") mw_5_44 mw_5_46 mw_s_29 mw_1_9 mw_5_47) rfl rfl rfl (by decide +kernel) ⟨by decide, by decide⟩) h_k0.1.1 ((ce_o h_k0.1.2).trans rfl) rfl rfl hl.1 rfl (Nat.le_of_ble_eq_true rfl) dX8_next1_47 ⟨Nat.le_refl _, Nat.le_refl _⟩ (fun r64 u65 H lo hp hPS => ?_)
        obtain ⟨hp, hex, hfr⟩ := hp
        replace hF := xl_i hex hF
        obtain ⟨hu, p66⟩ := hp
        rw [hu] at hPS
        have I : Wo w g s.heap v62 H lo := ⟨hPS.1, hPS.2, I.2.2⟩
        have p66_1 := p66.1
        have p66_3 := p66.2.2
        have hB : (v62.1 k0 14).toInt < (v62.1 k0 12).toInt → (v.1 (k0 + 5) (v62.1 k0 14).toNatClampNeg).toInt = r64.toInt := fun hl => by have e : v62.1 k0 14 = x56 := Int32.toInt_inj.mp (by omega); rw [e, p66.2.1 (by omega), rlv62_P (k0 + 5) _ (by omega)]
        refine lv_istore_n (lv' := [(1, .int r64), (0, .ref (wq w k0))]) hx hb dX8_next1_50 rfl hl (by decide) rfl (fun ls hl => ?_)
        refine lv_iload_n hx hb dX8_next1_51 rfl (lv_at hl 0 rfl) ?_
        refine bz_ge E (a := r64.toInt) rfl (tgt := 63) dX8_next1_52 (by decide) (fun c67 => ?_) (fun c67 => ?_)
        ·
          replace hF := if_l c67 hF
          refine lv_iload_n hx hb dX8_next1_63 rfl (lv_at hl 0 rfl) ?_
          refine lv_i2l (v := r64.toInt64) hx hb dX8_next1_64 rfl ?_
          refine lv_ldc2 (own := "StarWalkModel") hx hb E.1.2.2.2.1 (Ew E mw_5_48 rfl) dX8_next1_65 ?_
          refine lv_ldc2 (own := "StarWalkModel") hx hb E.1.2.2.2.1 (Ew E mw_5_49 rfl) dX8_next1_68 ?_
          refine cSi E I (c_X8_in l w g v62 r64.toInt64 (97 : Int64) (122 : Int64) E.2.2.1 I.2.2   ) (va_cwS 3 E.1.2.2.2.2 (gSs mw_5_29 mw_5_30 mw_1_9 mw_5_31) rfl rfl rfl (by decide +kernel) ⟨by decide, by decide⟩) rfl hl.1 rfl (Nat.le_of_ble_eq_true rfl) dX8_next1_71 ⟨Nat.le_refl _, Nat.le_refl _⟩ (fun r69 u70 H lo hp hPS => ?_)
          have iz71 := i64_of r64
          have iz72 : (97 : Int64).toInt = 97 := rfl
          have iz73 : (122 : Int64).toInt = 122 := rfl
          obtain ⟨hp, hex, hfr⟩ := hp
          replace hF := xl_i hex hF
          obtain ⟨hu, p74⟩ := hp
          rw [hu] at hPS
          have I : Wo w g s.heap v62 H lo := ⟨hPS.1, hPS.2, I.2.2⟩
          refine bz_eq E (a := r69.toInt) rfl (tgt := 116) dX8_next1_74 (by decide) (fun c75 => ?_) (fun c75 => ?_)
          ·
            replace hF := if_t c75 hF
            refine lv_iload_n hx hb dX8_next1_116 rfl (lv_at hl 0 rfl) ?_
            refine lv_i2l (v := r64.toInt64) hx hb dX8_next1_117 rfl ?_
            refine lv_ldc2 (own := "StarWalkModel") hx hb E.1.2.2.2.1 (Ew E mw_5_50 rfl) dX8_next1_118 ?_
            refine lv_ldc2 (own := "StarWalkModel") hx hb E.1.2.2.2.1 (Ew E mw_5_51 rfl) dX8_next1_121 ?_
            refine cSi E I (c_X8_in l w g v62 r64.toInt64 (48 : Int64) (57 : Int64) E.2.2.1 I.2.2   ) (va_cwS 3 E.1.2.2.2.2 (gSs mw_5_29 mw_5_30 mw_1_9 mw_5_31) rfl rfl rfl (by decide +kernel) ⟨by decide, by decide⟩) rfl hl.1 rfl (Nat.le_of_ble_eq_true rfl) dX8_next1_124 ⟨Nat.le_refl _, Nat.le_refl _⟩ (fun r77 u78 H lo hp hPS => ?_)
            have iz79 := i64_of r64
            have iz80 : (48 : Int64).toInt = 48 := rfl
            have iz81 : (57 : Int64).toInt = 57 := rfl
            obtain ⟨hp, hex, hfr⟩ := hp
            replace hF := xl_i hex hF
            obtain ⟨hu, p82⟩ := hp
            rw [hu] at hPS
            have I : Wo w g s.heap v62 H lo := ⟨hPS.1, hPS.2, I.2.2⟩
            refine bz_eq E (a := r77.toInt) rfl (tgt := 243) dX8_next1_127 (by decide) (fun c83 => ?_) (fun c83 => ?_)
            ·
              replace hF := if_t c83 hF
              refine lv_aload_n hx hb dX8_next1_243 rfl (lv_at hl 1 rfl) ?_
              refine lv_iconst (v := 3) hx hb dX8_next1_244 (by decide) ?_
              refine p_StarWalkModel_sort E I h_k0.1 mw_4_185 dX8_next1_245 (fun H lo I => ?_)
              generalize ev84 : up1 v62 k0 15 (3 : Int32) = v84 at I
              replace hF := xl_i (ev84.symm) hF
              have mv84_0 : v84.1 k0 13 = x56 := by rw [← ev84, up1_n _ _ (Or.inr (by decide))] <;> exact mv62_0
              have wtv84_k0_13 : (v84.1 k0 13).toInt = (v62.1 k0 13).toInt := by rw [← ev84, up1_n _ _ (Or.inr (by decide))]
              have wtv84_k0_15 : (v84.1 k0 15).toInt = 3 := by rw [← ev84]; exact congrArg Int32.toInt (up1_s _ k0 15 (3 : Int32))
              have wtv84_k0_16 : (v84.1 k0 16).toInt = (v62.1 k0 16).toInt := by rw [← ev84, up1_n _ _ (Or.inr (by decide))]
              have wtv84_k0_17 : (v84.1 k0 17).toInt = (v62.1 k0 17).toInt := by rw [← ev84, up1_n _ _ (Or.inr (by decide))]
              have wtv84_k0_14 : (v84.1 k0 14).toInt = (v62.1 k0 14).toInt := by rw [← ev84, up1_n _ _ (Or.inr (by decide))]
              have wtv84_k0_12 : (v84.1 k0 12).toInt = (v62.1 k0 12).toInt := by rw [← ev84, up1_n _ _ (Or.inr (by decide))]
              have rzv84 : ∀ k j : Nat, ¬ (k = k0 ∧ 13 ≤ j ∧ j ≤ 18) → v84.1 k j = v.1 k j := fun k j h => fz_u ev84 (by omega) (rzv62 k j h)
              have rlv84_P : Fr k0 13 18 v v84 := rlv62_P.put ev84 (by decide)
              have eBv84 : v84.1 k0 14 = v62.1 k0 14 := by rw [← ev84, up1_n _ _ (Or.inr (by decide))]
              have hB : (v84.1 k0 14).toInt < (v84.1 k0 12).toInt → (v.1 (k0 + 5) (v84.1 k0 14).toNatClampNeg).toInt = r64.toInt := fun hl => by rw [eBv84]; exact hB (by omega)
              refine lv_aload_n hx hb dX8_next1_248 rfl (lv_at hl 1 rfl) ?_
              refine lv_iload_n hx hb dX8_next1_249 rfl (lv_at hl 0 rfl) ?_
              refine lv_bipush (v := 59) hx hb dX8_next1_250 (by decide) ?_
              refine bi_ne E (a := r64.toInt) (b := 59) rfl rfl (tgt := 259) dX8_next1_252 (by decide) (fun c85 => ?_) (fun c85 => ?_)
              ·
                replace hF := if_f c85 hF
                refine lv_iconst (v := 0) hx hb dX8_next1_259 (by decide) ?_
                exact B_260 _ _ v84 I (0 : Int32) (by decide) rlv84_P rzv84 (by omega) (by omega) hF ls (lv_sub hl [1] rfl)
              ·
                replace hF := if_t c85 hF
                refine lv_iconst (v := 1) hx hb dX8_next1_255 (by decide) ?_
                refine lv_goto (tgt := 260) hx hb dX8_next1_256 (by decide) ?_
                exact B_260 _ _ v84 I (1 : Int32) (by decide) rlv84_P rzv84 (by omega) (by omega) hF ls (lv_sub hl [1] rfl)
            ·
              replace hF := if_f c83 hF
              refine lv_aload_n hx hb dX8_next1_130 rfl (lv_at hl 1 rfl) ?_
              refine lv_iconst (v := 2) hx hb dX8_next1_131 (by decide) ?_
              refine p_StarWalkModel_sort E I h_k0.1 mw_4_185 dX8_next1_132 (fun H lo I => ?_)
              generalize ev86 : up1 v62 k0 15 (2 : Int32) = v86 at I
              replace hF := xl_i (ev86.symm) hF
              have mv86_0 : v86.1 k0 13 = x56 := by rw [← ev86, up1_n _ _ (Or.inr (by decide))] <;> exact mv62_0
              have wtv86_k0_13 : (v86.1 k0 13).toInt = (v62.1 k0 13).toInt := by rw [← ev86, up1_n _ _ (Or.inr (by decide))]
              have wtv86_k0_15 : (v86.1 k0 15).toInt = 2 := by rw [← ev86]; exact congrArg Int32.toInt (up1_s _ k0 15 (2 : Int32))
              have wtv86_k0_16 : (v86.1 k0 16).toInt = (v62.1 k0 16).toInt := by rw [← ev86, up1_n _ _ (Or.inr (by decide))]
              have wtv86_k0_17 : (v86.1 k0 17).toInt = (v62.1 k0 17).toInt := by rw [← ev86, up1_n _ _ (Or.inr (by decide))]
              have wtv86_k0_14 : (v86.1 k0 14).toInt = (v62.1 k0 14).toInt := by rw [← ev86, up1_n _ _ (Or.inr (by decide))]
              have wtv86_k0_12 : (v86.1 k0 12).toInt = (v62.1 k0 12).toInt := by rw [← ev86, up1_n _ _ (Or.inr (by decide))]
              have rzv86 : ∀ k j : Nat, ¬ (k = k0 ∧ 13 ≤ j ∧ j ≤ 18) → v86.1 k j = v.1 k j := fun k j h => fz_u ev86 (by omega) (rzv62 k j h)
              have rlv86_P : Fr k0 13 18 v v86 := rlv62_P.put ev86 (by decide)
              have eBv86 : v86.1 k0 14 = v62.1 k0 14 := by rw [← ev86, up1_n _ _ (Or.inr (by decide))]
              have hB : (v86.1 k0 14).toInt < (v86.1 k0 12).toInt → (v.1 (k0 + 5) (v86.1 k0 14).toNatClampNeg).toInt = r64.toInt := fun hl => by rw [eBv86]; exact hB (by omega)
              refine lv_aload_n hx hb dX8_next1_135 rfl (lv_at hl 1 rfl) ?_
              refine lv_iconst (v := 0) hx hb dX8_next1_136 (by decide) ?_
              refine p_StarWalkModel_value E I h_k0.1 mw_4_186 dX8_next1_137 (fun H lo I => ?_)
              generalize ev87 : up1 v86 k0 16 (0 : Int32) = v87 at I
              replace hF := xl_i (ev87.symm) hF
              have mv87_0 : v87.1 k0 13 = x56 := by rw [← ev87, up1_n _ _ (Or.inr (by decide))] <;> exact mv86_0
              have wtv87_k0_13 : (v87.1 k0 13).toInt = (v86.1 k0 13).toInt := by rw [← ev87, up1_n _ _ (Or.inr (by decide))]
              have wtv87_k0_15 : (v87.1 k0 15).toInt = (v86.1 k0 15).toInt := by rw [← ev87, up1_n _ _ (Or.inr (by decide))]
              have wtv87_k0_16 : (v87.1 k0 16).toInt = 0 := by rw [← ev87]; exact congrArg Int32.toInt (up1_s _ k0 16 (0 : Int32))
              have wtv87_k0_17 : (v87.1 k0 17).toInt = (v86.1 k0 17).toInt := by rw [← ev87, up1_n _ _ (Or.inr (by decide))]
              have wtv87_k0_14 : (v87.1 k0 14).toInt = (v86.1 k0 14).toInt := by rw [← ev87, up1_n _ _ (Or.inr (by decide))]
              have wtv87_k0_12 : (v87.1 k0 12).toInt = (v86.1 k0 12).toInt := by rw [← ev87, up1_n _ _ (Or.inr (by decide))]
              have rzv87 : ∀ k j : Nat, ¬ (k = k0 ∧ 13 ≤ j ∧ j ≤ 18) → v87.1 k j = v.1 k j := fun k j h => fz_u ev87 (by omega) (rzv86 k j h)
              have rlv87_P : Fr k0 13 18 v v87 := rlv86_P.put ev87 (by decide)
              have eBv87 : v87.1 k0 14 = v86.1 k0 14 := by rw [← ev87, up1_n _ _ (Or.inr (by decide))]
              have hB : (v87.1 k0 14).toInt < (v87.1 k0 12).toInt → (v.1 (k0 + 5) (v87.1 k0 14).toNatClampNeg).toInt = r64.toInt := fun hl => by rw [eBv87]; exact hB (by omega)
              exact L_140 ((2147483647 - (v87.1 k0 13).toInt).toNat + 1) _ _ v87 I  rlv87_P rzv87 (by omega) (by omega) (by omega) (by omega) (by omega) (by omega) hF (Nat.lt_succ_self _) ls (lv_sub hl [1] rfl)
          ·
            replace hF := if_f c75 hF
            refine lv_aload_n hx hb dX8_next1_77 rfl (lv_at hl 1 rfl) ?_
            refine lv_iconst (v := 1) hx hb dX8_next1_78 (by decide) ?_
            refine p_StarWalkModel_sort E I h_k0.1 mw_4_185 dX8_next1_79 (fun H lo I => ?_)
            generalize ev88 : up1 v62 k0 15 (1 : Int32) = v88 at I
            replace hF := xl_i (ev88.symm) hF
            have mv88_0 : v88.1 k0 13 = x56 := by rw [← ev88, up1_n _ _ (Or.inr (by decide))] <;> exact mv62_0
            have wtv88_k0_13 : (v88.1 k0 13).toInt = (v62.1 k0 13).toInt := by rw [← ev88, up1_n _ _ (Or.inr (by decide))]
            have wtv88_k0_15 : (v88.1 k0 15).toInt = 1 := by rw [← ev88]; exact congrArg Int32.toInt (up1_s _ k0 15 (1 : Int32))
            have wtv88_k0_16 : (v88.1 k0 16).toInt = (v62.1 k0 16).toInt := by rw [← ev88, up1_n _ _ (Or.inr (by decide))]
            have wtv88_k0_17 : (v88.1 k0 17).toInt = (v62.1 k0 17).toInt := by rw [← ev88, up1_n _ _ (Or.inr (by decide))]
            have wtv88_k0_14 : (v88.1 k0 14).toInt = (v62.1 k0 14).toInt := by rw [← ev88, up1_n _ _ (Or.inr (by decide))]
            have wtv88_k0_12 : (v88.1 k0 12).toInt = (v62.1 k0 12).toInt := by rw [← ev88, up1_n _ _ (Or.inr (by decide))]
            have rzv88 : ∀ k j : Nat, ¬ (k = k0 ∧ 13 ≤ j ∧ j ≤ 18) → v88.1 k j = v.1 k j := fun k j h => fz_u ev88 (by omega) (rzv62 k j h)
            have rlv88_P : Fr k0 13 18 v v88 := rlv62_P.put ev88 (by decide)
            have eBv88 : v88.1 k0 14 = v62.1 k0 14 := by rw [← ev88, up1_n _ _ (Or.inr (by decide))]
            have hB : (v88.1 k0 14).toInt < (v88.1 k0 12).toInt → (v.1 (k0 + 5) (v88.1 k0 14).toNatClampNeg).toInt = r64.toInt := fun hl => by rw [eBv88]; exact hB (by omega)
            exact L_82 ((2147483647 - (v88.1 k0 13).toInt).toNat + 1) _ _ v88 I  rlv88_P rzv88 (by omega) (by omega) (by omega) (by omega) (by omega) (by omega) hF (Nat.lt_succ_self _) ls (lv_sub hl [1] rfl)
        ·
          replace hF := if_t c67 hF
          refine lv_aload_n hx hb dX8_next1_55 rfl (lv_at hl 1 rfl) ?_
          refine lv_iconst (v := 0) hx hb dX8_next1_56 (by decide) ?_
          refine p_StarWalkModel_sort E I h_k0.1 mw_4_185 dX8_next1_57 (fun H lo I => ?_)
          generalize ev89 : up1 v62 k0 15 (0 : Int32) = v89 at I
          replace hF := xl_i (ev89.symm) hF
          have mv89_0 : v89.1 k0 13 = x56 := by rw [← ev89, up1_n _ _ (Or.inr (by decide))] <;> exact mv62_0
          have wtv89_k0_13 : (v89.1 k0 13).toInt = (v62.1 k0 13).toInt := by rw [← ev89, up1_n _ _ (Or.inr (by decide))]
          have wtv89_k0_15 : (v89.1 k0 15).toInt = 0 := by rw [← ev89]; exact congrArg Int32.toInt (up1_s _ k0 15 (0 : Int32))
          have wtv89_k0_16 : (v89.1 k0 16).toInt = (v62.1 k0 16).toInt := by rw [← ev89, up1_n _ _ (Or.inr (by decide))]
          have wtv89_k0_17 : (v89.1 k0 17).toInt = (v62.1 k0 17).toInt := by rw [← ev89, up1_n _ _ (Or.inr (by decide))]
          have wtv89_k0_14 : (v89.1 k0 14).toInt = (v62.1 k0 14).toInt := by rw [← ev89, up1_n _ _ (Or.inr (by decide))]
          have wtv89_k0_12 : (v89.1 k0 12).toInt = (v62.1 k0 12).toInt := by rw [← ev89, up1_n _ _ (Or.inr (by decide))]
          have rzv89 : ∀ k j : Nat, ¬ (k = k0 ∧ 13 ≤ j ∧ j ≤ 18) → v89.1 k j = v.1 k j := fun k j h => fz_u ev89 (by omega) (rzv62 k j h)
          have rlv89_P : Fr k0 13 18 v v89 := rlv62_P.put ev89 (by decide)
          have eBv89 : v89.1 k0 14 = v62.1 k0 14 := by rw [← ev89, up1_n _ _ (Or.inr (by decide))]
          have hB : (v89.1 k0 14).toInt < (v89.1 k0 12).toInt → (v.1 (k0 + 5) (v89.1 k0 14).toNatClampNeg).toInt = r64.toInt := fun hl => by rw [eBv89]; exact hB (by omega)
          refine lv_goto (tgt := 274) hx hb dX8_next1_60 (by decide) ?_
          exact rV E I hr hlk (by rw [← hpost]; exact ⟨⟨I.2.2, rlv89_P, by omega, by omega, by omega⟩, hF.trans hres, rzv89⟩) dX8_next1_274
      ·
        replace hF := if_t c60 hF
        refine lv_aload_n hx hb dX8_next1_21 rfl (lv_at hl 0 rfl) ?_
        refine lv_dup hx hb dX8_next1_22 rfl ?_
        refine g_StarWalkModel_pos E I h_k0.1 mw_4_183 dX8_next1_23 ?_
        refine lv_topi (fun x90 ex90 => ?_)
        obtain rfl : x56 = x90 := ex56.symm.symm.trans ex90.symm
        refine lv_iconst (v := 1) hx hb dX8_next1_26 (by decide) ?_
        refine lv_iadd hx hb dX8_next1_27 ?_
        refine lv_topi (fun x91 ex91 => ?_)
        replace hF := xl_i (ex91) hF
        have hx91 : x91.toInt = x56.toInt + 1 := by rw [ex91]; exact adI (a := x56.toInt) (b := 1) rfl rfl (by omega) (by omega)
        refine p_StarWalkModel_pos E I h_k0.1 mw_4_183 (by omega) dX8_next1_28 (fun H lo I => ?_)
        generalize ev92 : up1 v_8 k0 13 x91 = v92 at I
        replace hF := xl_i (ev92.symm) hF
        have wtv92_k0_13 : (v92.1 k0 13).toInt = x91.toInt := by rw [← ev92]; exact congrArg Int32.toInt (up1_s _ k0 13 x91)
        have wtv92_k0_15 : (v92.1 k0 15).toInt = (v_8.1 k0 15).toInt := by rw [← ev92, up1_n _ _ (Or.inr (by decide))]
        have wtv92_k0_16 : (v92.1 k0 16).toInt = (v_8.1 k0 16).toInt := by rw [← ev92, up1_n _ _ (Or.inr (by decide))]
        have wtv92_k0_17 : (v92.1 k0 17).toInt = (v_8.1 k0 17).toInt := by rw [← ev92, up1_n _ _ (Or.inr (by decide))]
        have wtv92_k0_14 : (v92.1 k0 14).toInt = (v_8.1 k0 14).toInt := by rw [← ev92, up1_n _ _ (Or.inr (by decide))]
        have wtv92_k0_12 : (v92.1 k0 12).toInt = (v_8.1 k0 12).toInt := by rw [← ev92, up1_n _ _ (Or.inr (by decide))]
        have rzv92 : ∀ k j : Nat, ¬ (k = k0 ∧ 13 ≤ j ∧ j ≤ 18) → v92.1 k j = v.1 k j := fun k j h => fz_u ev92 (by omega) (rB8_Z k j h)
        have rlv92_P : Fr k0 13 18 v v92 := rB8_P.put ev92 (by decide)
        refine lv_goto (tgt := 8) hx hb dX8_next1_31 (by decide) ?_
        exact ih_8 _ _ v92 I  rlv92_P rzv92 (by omega) (by omega) hF (by omega) ls (lv_sub hl [0] rfl)
  refine lv_aload_n hx hb dX8_next1_0 rfl (lv_at hl 0 rfl) ?_
  refine g_StarWalkModel_fault E I h_k0.1 mw_4_187 dX8_next1_1 ?_
  refine lv_topi (fun x93 ex93 => ?_)
  replace hF := xl_i (ex93) hF
  have twx93 : x93.toInt = (v.1 k0 17).toInt := congrArg Int32.toInt ex93
  have hx93 := r_StarWalkModel_fault I h_k0.1
  rw [← ex93] at hx93
  refine bz_le E (a := x93.toInt) rfl (tgt := 8) dX8_next1_4 (by decide) (fun c94 => ?_) (fun c94 => ?_)
  ·
    replace hF := if_l c94 hF
    exact L_8 ((2147483647 - (v.1 k0 13).toInt).toNat + 1) _ _ v I  (Fr.refl _ _ _ _) rz0 (by omega) (by omega) hF (Nat.lt_succ_self _) ls (lv_sub hl [0] rfl)
  ·
    replace hF := if_t c94 hF
    exact rV E I hr hlk (by rw [← hpost]; exact ⟨⟨I.2.2, (Fr.refl _ _ _ _), by omega, by omega, by omega⟩, hF.trans hres, rz0⟩) dX8_next1_7
def F_X8_readNumber (k0 : Nat) (a0 : Int32) (a1 : Int32) (v : St) : Int32 × St :=
xm (F_X8_looked k0 a0 a1 v) fun r1 u2 =>
xl (F_X8_next1 k0 u2) fun u4 =>
(r1, u4)
set_option maxHeartbeats 4000000 in
set_option maxRecDepth 100000 in
theorem c_X8_readNumber (l : Launch) (w : Wp) (g : Nat → Nat → Int32) (v : St) (k0 : Nat) (a0 : Int32) (a1 : Int32) (hq : Inj w) (hw : WF (wk w) g v) (h_k0 : oM w k0) : CTi w l yX8_readNumber (wsy yX8_readNumber prog_10_method_16_code 4 (some .int)) (rmL 4) [.ref (wq w k0), .int a0, .int a1] v (fun (r : Int32) (u : St) => (WF (wk w) g u ∧ Fr k0 13 18 v u ∧ (v.1 k0 13).toInt ≤ (u.1 k0 13).toInt ∧ ((u.1 k0 17).toInt = 0 → (v.1 k0 17).toInt = 0) ∧ (r.toInt = 0 ∨ (a0.toInt ≤ r.toInt ∧ r.toInt ≤ a1.toInt))) ∧ ((r, u) = F_X8_readNumber k0 a0 a1 v) ∧ (∀ k j : Nat, ¬ (k = k0 ∧ 13 ≤ j ∧ j ≤ 18) → u.1 k j = v.1 k j)) := by
  generalize hpost : (fun (r : Int32) (u : St) => (WF (wk w) g u ∧ Fr k0 13 18 v u ∧ (v.1 k0 13).toInt ≤ (u.1 k0 13).toInt ∧ ((u.1 k0 17).toInt = 0 → (v.1 k0 17).toInt = 0) ∧ (r.toInt = 0 ∨ (a0.toInt ≤ r.toInt ∧ r.toInt ≤ a1.toInt))) ∧ ((r, u) = F_X8_readNumber k0 a0 a1 v) ∧ (∀ k j : Nat, ¬ (k = k0 ∧ 13 ≤ j ∧ j ≤ 18) → u.1 k j = v.1 k j)) = post
  refine CTi.of prog_10_method_16_code 4 (some .int) "StarWalkModel" (by decide +kernel) rfl hq hw (Nat.le_of_ble_eq_true rfl) ?_
  intro pg en s m ar bl me cd ls E I hr hlk hl
  have hx := E.1.1
  have hb := E.1.2.1
  have hl : lv_has ls 4 [(0, .ref (wq w k0)), (1, .int a0), (2, .int a1)] := hl
  obtain ⟨res, hres⟩ : ∃ z, z = F_X8_readNumber k0 a0 a1 v := ⟨_, rfl⟩
  have hF := hres.symm
  unfold F_X8_readNumber at hF
  replace hres : res = F_X8_readNumber k0 a0 a1 v := hres
  have rz0 : ∀ k j : Nat, ¬ (k = k0 ∧ 13 ≤ j ∧ j ≤ 18) → v.1 k j = v.1 k j := fun _ _ _ => rfl
  refine lv_aload_n hx hb dX8_readNumber_0 rfl (lv_at hl 0 rfl) ?_
  refine lv_iload_n hx hb dX8_readNumber_1 rfl (lv_at hl 1 rfl) ?_
  refine lv_iload_n hx hb dX8_readNumber_2 rfl (lv_at hl 2 rfl) ?_
  refine cVi E I (c_X8_looked l w g v k0 a0 a1 E.2.2.1 I.2.2 h_k0  ) (cwV 2 E.1.2.2.2.2 (gWs (C := "StarWalkModel") mw_5_84 mw_5_86 mw_s_38 mw_1_9 mw_5_87) rfl rfl rfl (by decide +kernel) ⟨by decide, by decide⟩) h_k0.1.1 ((ce_o h_k0.1.2).trans rfl) rfl rfl hl.1 rfl (Nat.le_of_ble_eq_true rfl) dX8_readNumber_3 ⟨Nat.le_refl _, Nat.le_refl _⟩ (fun r1 u2 H lo hp hPS => ?_)
  obtain ⟨hp, hex, hfr⟩ := hp
  replace hF := xm_i hex hF
  obtain ⟨hwf, p3⟩ := hp
  have I : Wo w g s.heap u2 H lo := ⟨hPS.1, hPS.2, hwf⟩
  have wtu2_k0_13 : (u2.1 k0 13).toInt = (v.1 k0 13).toInt := congrArg Int32.toInt (p3.1 k0 13 (by omega))
  have wtu2_k0_15 : (u2.1 k0 15).toInt = (v.1 k0 15).toInt := congrArg Int32.toInt (p3.1 k0 15 (by omega))
  have wtu2_k0_16 : (u2.1 k0 16).toInt = (v.1 k0 16).toInt := congrArg Int32.toInt (p3.1 k0 16 (by omega))
  have p3_0 := p3.2.1
  have p3_1 := p3.2.2
  have rzu2 : ∀ k j : Nat, ¬ (k = k0 ∧ 13 ≤ j ∧ j ≤ 18) → u2.1 k j = v.1 k j := fun k j h => (hfr k j (fun z => h (by omega))).trans (rz0 k j h)
  have rlu2_P : Fr k0 13 18 v u2 := (Fr.refl _ _ _ _).tr p3.1 (by decide)
  refine lv_istore_n (lv' := [(3, .int r1), (0, .ref (wq w k0)), (1, .int a0), (2, .int a1)]) hx hb dX8_readNumber_6 rfl hl (by decide) rfl (fun ls hl => ?_)
  refine lv_aload_n hx hb dX8_readNumber_7 rfl (lv_at hl 1 rfl) ?_
  refine cVv E I (c_X8_next1 l w g u2 k0 E.2.2.1 I.2.2 h_k0  ) (cwV 0 E.1.2.2.2.2 (gWs (C := "StarWalkModel") mw_5_40 mw_5_42 mw_s_28 mw_1_9 mw_5_43) rfl rfl rfl (by decide +kernel) ⟨by decide, by decide⟩) h_k0.1.1 ((ce_o h_k0.1.2).trans rfl) rfl rfl hl.1 rfl (Nat.le_of_ble_eq_true rfl) dX8_readNumber_8 ⟨Nat.le_refl _, Nat.le_refl _⟩ (fun u4 H lo hp hPS => ?_)
  obtain ⟨hp, hex, hfr⟩ := hp
  replace hF := xl_i hex hF
  obtain ⟨hwf, p5⟩ := hp
  have I : Wo w g s.heap u4 H lo := ⟨hPS.1, hPS.2, hwf⟩
  have p5_0 := p5.2.1
  have p5_1 := p5.2.2.1
  have p5_2 := p5.2.2.2
  have rzu4 : ∀ k j : Nat, ¬ (k = k0 ∧ 13 ≤ j ∧ j ≤ 18) → u4.1 k j = v.1 k j := fun k j h => (hfr k j (fun z => h (by omega))).trans (rzu2 k j h)
  have rlu4_P : Fr k0 13 18 v u4 := rlu2_P.tr p5.1 (by decide)
  refine lv_iload_n hx hb dX8_readNumber_11 rfl (lv_at hl 0 rfl) ?_
  exact rI E I hr hlk rfl (by rw [← hpost]; exact ⟨⟨I.2.2, rlu4_P, by omega, by omega, by omega⟩, hF.trans hres, rzu4⟩) dX8_readNumber_12
def F_X8_readStar (k0 : Nat) (v : St) : St :=
xl (v.1 k0 6) fun x1 =>
xl ((4 : Int32) * x1) fun x2 =>
xl (x2 + (0 : Int32)) fun x3 =>
xm (F_X8_readNumber k0 (0 : Int32) (9 : Int32) v) fun r4 u5 =>
xl (up1 u5 (k0 + 4) x3.toNatClampNeg r4) fun v9 =>
xl (x2 + (1 : Int32)) fun x10 =>
xl (v9.1 (k0 + 4) x3.toNatClampNeg) fun x12 =>
xm (F_X8_readNumber k0 x12 (9 : Int32) v9) fun r13 u14 =>
xl (up1 u14 (k0 + 4) x10.toNatClampNeg r13) fun v17 =>
xl (x2 + (2 : Int32)) fun x18 =>
xm (F_X8_readNumber k0 (0 : Int32) (6 : Int32) v17) fun r19 u20 =>
xl (up1 u20 (k0 + 4) x18.toNatClampNeg r19) fun v24 =>
xl (v24.1 k0 6) fun x25 =>
xl (x25 + (1 : Int32)) fun x26 =>
xl (up1 v24 k0 6 x26) fun v27 =>
v27
set_option maxHeartbeats 4000000 in
set_option maxRecDepth 100000 in
theorem c_X8_readStar (l : Launch) (w : Wp) (g : Nat → Nat → Int32) (v : St) (k0 : Nat) (hq : Inj w) (hw : WF (wk w) g v) (h_k0 : oM w k0) (hs : (v.1 k0 6).toInt ≤ 4) : CTv w l yX8_readStar (wsy yX8_readStar prog_10_method_17_code 2 none) (rmL 5) [.ref (wq w k0)] v (fun (u : St) => (WF (wk w) g u ∧ (v.1 k0 13).toInt ≤ (u.1 k0 13).toInt ∧ ((u.1 k0 17).toInt = 0 → (v.1 k0 17).toInt = 0)) ∧ (u = F_X8_readStar k0 v) ∧ (∀ k j : Nat, ¬ ((k = k0 ∧ 6 ≤ j ∧ j ≤ 18 ∧ ¬ j = 12) ∨ k = k0 + 4) → u.1 k j = v.1 k j)) := by
  generalize hpost : (fun (u : St) => (WF (wk w) g u ∧ (v.1 k0 13).toInt ≤ (u.1 k0 13).toInt ∧ ((u.1 k0 17).toInt = 0 → (v.1 k0 17).toInt = 0)) ∧ (u = F_X8_readStar k0 v) ∧ (∀ k j : Nat, ¬ ((k = k0 ∧ 6 ≤ j ∧ j ≤ 18 ∧ ¬ j = 12) ∨ k = k0 + 4) → u.1 k j = v.1 k j)) = post
  refine CTv.of prog_10_method_17_code 2 none "StarWalkModel" (by decide +kernel) rfl hq hw (Nat.le_of_ble_eq_true rfl) ?_
  intro pg en s m ar bl me cd ls E I hr hlk hl
  have hx := E.1.1
  have hb := E.1.2.1
  have hl : lv_has ls 2 [(0, .ref (wq w k0))] := hl
  obtain ⟨res, hres⟩ : ∃ z, z = F_X8_readStar k0 v := ⟨_, rfl⟩
  have hF := hres.symm
  unfold F_X8_readStar at hF
  replace hres : res = F_X8_readStar k0 v := hres
  have rz0 : ∀ k j : Nat, ¬ ((k = k0 ∧ 6 ≤ j ∧ j ≤ 18 ∧ ¬ j = 12) ∨ k = k0 + 4) → v.1 k j = v.1 k j := fun _ _ _ => rfl
  refine lv_iconst (v := 4) hx hb dX8_readStar_0 (by decide) ?_
  refine lv_aload_n hx hb dX8_readStar_1 rfl (lv_at hl 0 rfl) ?_
  refine g_StarWalkModel_dStars E I h_k0.1 mw_4_176 dX8_readStar_2 ?_
  refine lv_topi (fun x1 ex1 => ?_)
  replace hF := xl_i (ex1) hF
  have twx1 : x1.toInt = (v.1 k0 6).toInt := congrArg Int32.toInt ex1
  have hx1 := r_StarWalkModel_dStars I h_k0.1
  rw [← ex1] at hx1
  refine lv_imul hx hb dX8_readStar_5 ?_
  refine lv_topi (fun x2 ex2 => ?_)
  replace hF := xl_i (ex2) hF
  have hx2 : x2.toInt = 4 * x1.toInt := by rw [ex2]; exact mlI (a := 4) (b := x1.toInt) rfl rfl (by omega) (by omega)
  refine lv_istore_n (lv' := [(1, .int x2), (0, .ref (wq w k0))]) hx hb dX8_readStar_6 rfl hl (by decide) rfl (fun ls hl => ?_)
  refine lv_aload_n hx hb dX8_readStar_7 rfl (lv_at hl 1 rfl) ?_
  refine g_StarWalkModel_draft E I h_k0.1 mw_4_175 dX8_readStar_8 ?_
  refine lv_iload_n hx hb dX8_readStar_11 rfl (lv_at hl 0 rfl) ?_
  refine lv_iconst (v := 0) hx hb dX8_readStar_12 (by decide) ?_
  refine lv_iadd hx hb dX8_readStar_13 ?_
  refine lv_topi (fun x3 ex3 => ?_)
  replace hF := xl_i (ex3) hF
  have hx3 : x3.toInt = x2.toInt + 0 := by rw [ex3]; exact adI (a := x2.toInt) (b := 0) rfl rfl (by omega) (by omega)
  refine lv_aload_n hx hb dX8_readStar_14 rfl (lv_at hl 1 rfl) ?_
  refine lv_iconst (v := 0) hx hb dX8_readStar_15 (by decide) ?_
  refine lv_bipush (v := 9) hx hb dX8_readStar_16 (by decide) ?_
  refine cVi E I (c_X8_readNumber l w g v k0 (0 : Int32) (9 : Int32) E.2.2.1 I.2.2 h_k0  ) (cwV 2 E.1.2.2.2.2 (gWs (C := "StarWalkModel") mw_5_80 mw_5_82 mw_s_37 mw_1_9 mw_5_83) rfl rfl rfl (by decide +kernel) ⟨by decide, by decide⟩) h_k0.1.1 ((ce_o h_k0.1.2).trans rfl) rfl rfl hl.1 rfl (Nat.le_of_ble_eq_true rfl) dX8_readStar_18 ⟨Nat.le_refl _, Nat.le_refl _⟩ (fun r4 u5 H lo hp hPS => ?_)
  have iz6 : (0 : Int32).toInt = 0 := rfl
  have iz7 : (9 : Int32).toInt = 9 := rfl
  obtain ⟨hp, hex, hfr⟩ := hp
  replace hF := xm_i hex hF
  obtain ⟨hwf, p8⟩ := hp
  have I : Wo w g s.heap u5 H lo := ⟨hPS.1, hPS.2, hwf⟩
  have wtu5_k0_6 : (u5.1 k0 6).toInt = (v.1 k0 6).toInt := congrArg Int32.toInt (p8.1 k0 6 (by omega))
  have wtu5_k0_7 : (u5.1 k0 7).toInt = (v.1 k0 7).toInt := congrArg Int32.toInt (p8.1 k0 7 (by omega))
  have p8_0 := p8.2.1
  have p8_1 := p8.2.2.1
  have p8_2 := p8.2.2.2
  have rzu5 : ∀ k j : Nat, ¬ ((k = k0 ∧ 6 ≤ j ∧ j ≤ 18 ∧ ¬ j = 12) ∨ k = k0 + 4) → u5.1 k j = v.1 k j := fun k j h => (hfr k j (fun z => h (by omega))).trans (rz0 k j h)
  refine pa_33 E I h_k0.2.2.2.2.1 (by omega) (by have ci := cnI (x := x3) (by omega); simp only [okk]; omega) dX8_readStar_21 (fun H lo I => ?_)
  generalize ev9 : up1 u5 (k0 + 4) x3.toNatClampNeg r4 = v9 at I
  replace hF := xl_i (ev9.symm) hF
  have wtv9_k0_13 : (v9.1 k0 13).toInt = (u5.1 k0 13).toInt := by rw [← ev9, up1_n _ _ (Or.inl (by omega))]
  have wtv9_k0_15 : (v9.1 k0 15).toInt = (u5.1 k0 15).toInt := by rw [← ev9, up1_n _ _ (Or.inl (by omega))]
  have wtv9_k0_16 : (v9.1 k0 16).toInt = (u5.1 k0 16).toInt := by rw [← ev9, up1_n _ _ (Or.inl (by omega))]
  have wtv9_k0_17 : (v9.1 k0 17).toInt = (u5.1 k0 17).toInt := by rw [← ev9, up1_n _ _ (Or.inl (by omega))]
  have wtv9_k0_6 : (v9.1 k0 6).toInt = (u5.1 k0 6).toInt := by rw [← ev9, up1_n _ _ (Or.inl (by omega))]
  have wtv9_k0_7 : (v9.1 k0 7).toInt = (u5.1 k0 7).toInt := by rw [← ev9, up1_n _ _ (Or.inl (by omega))]
  have rzv9 : ∀ k j : Nat, ¬ ((k = k0 ∧ 6 ≤ j ∧ j ≤ 18 ∧ ¬ j = 12) ∨ k = k0 + 4) → v9.1 k j = v.1 k j := fun k j h => fz_u ev9 (by have czx3 := cnI (x := x3) (by omega); omega) (rzu5 k j h)
  refine lv_aload_n hx hb dX8_readStar_22 rfl (lv_at hl 1 rfl) ?_
  refine g_StarWalkModel_draft E I h_k0.1 mw_4_175 dX8_readStar_23 ?_
  refine lv_iload_n hx hb dX8_readStar_26 rfl (lv_at hl 0 rfl) ?_
  refine lv_iconst (v := 1) hx hb dX8_readStar_27 (by decide) ?_
  refine lv_iadd hx hb dX8_readStar_28 ?_
  refine lv_topi (fun x10 ex10 => ?_)
  replace hF := xl_i (ex10) hF
  have hx10 : x10.toInt = x2.toInt + 1 := by rw [ex10]; exact adI (a := x2.toInt) (b := 1) rfl rfl (by omega) (by omega)
  refine lv_aload_n hx hb dX8_readStar_29 rfl (lv_at hl 1 rfl) ?_
  refine lv_aload_n hx hb dX8_readStar_30 rfl (lv_at hl 1 rfl) ?_
  refine g_StarWalkModel_draft E I h_k0.1 mw_4_175 dX8_readStar_31 ?_
  refine lv_iload_n hx hb dX8_readStar_34 rfl (lv_at hl 0 rfl) ?_
  refine lv_iconst (v := 0) hx hb dX8_readStar_35 (by decide) ?_
  refine lv_iadd hx hb dX8_readStar_36 ?_
  refine lv_topi (fun x11 ex11 => ?_)
  obtain rfl : x3 = x11 := ex3.trans ex11.symm
  refine ga_33 E I h_k0.2.2.2.2.1 (by omega) dX8_readStar_37 ?_
  refine lv_topi (fun x12 ex12 => ?_)
  replace hF := xl_i (ex12) hF
  refine lv_bipush (v := 9) hx hb dX8_readStar_38 (by decide) ?_
  refine cVi E I (c_X8_readNumber l w g v9 k0 x12 (9 : Int32) E.2.2.1 I.2.2 h_k0  ) (cwV 2 E.1.2.2.2.2 (gWs (C := "StarWalkModel") mw_5_80 mw_5_82 mw_s_37 mw_1_9 mw_5_83) rfl rfl rfl (by decide +kernel) ⟨by decide, by decide⟩) h_k0.1.1 ((ce_o h_k0.1.2).trans rfl) rfl rfl hl.1 rfl (Nat.le_of_ble_eq_true rfl) dX8_readStar_40 ⟨Nat.le_refl _, Nat.le_refl _⟩ (fun r13 u14 H lo hp hPS => ?_)
  have iz15 : (9 : Int32).toInt = 9 := rfl
  obtain ⟨hp, hex, hfr⟩ := hp
  replace hF := xm_i hex hF
  obtain ⟨hwf, p16⟩ := hp
  have I : Wo w g s.heap u14 H lo := ⟨hPS.1, hPS.2, hwf⟩
  have wtu14_k0_6 : (u14.1 k0 6).toInt = (v9.1 k0 6).toInt := congrArg Int32.toInt (p16.1 k0 6 (by omega))
  have wtu14_k0_7 : (u14.1 k0 7).toInt = (v9.1 k0 7).toInt := congrArg Int32.toInt (p16.1 k0 7 (by omega))
  have p16_0 := p16.2.1
  have p16_1 := p16.2.2.1
  have p16_2 := p16.2.2.2
  have rzu14 : ∀ k j : Nat, ¬ ((k = k0 ∧ 6 ≤ j ∧ j ≤ 18 ∧ ¬ j = 12) ∨ k = k0 + 4) → u14.1 k j = v.1 k j := fun k j h => (hfr k j (fun z => h (by omega))).trans (rzv9 k j h)
  refine pa_33 E I h_k0.2.2.2.2.1 (by omega) (by have ci := cnI (x := x10) (by omega); simp only [okk]; omega) dX8_readStar_43 (fun H lo I => ?_)
  generalize ev17 : up1 u14 (k0 + 4) x10.toNatClampNeg r13 = v17 at I
  replace hF := xl_i (ev17.symm) hF
  have wtv17_k0_13 : (v17.1 k0 13).toInt = (u14.1 k0 13).toInt := by rw [← ev17, up1_n _ _ (Or.inl (by omega))]
  have wtv17_k0_15 : (v17.1 k0 15).toInt = (u14.1 k0 15).toInt := by rw [← ev17, up1_n _ _ (Or.inl (by omega))]
  have wtv17_k0_16 : (v17.1 k0 16).toInt = (u14.1 k0 16).toInt := by rw [← ev17, up1_n _ _ (Or.inl (by omega))]
  have wtv17_k0_17 : (v17.1 k0 17).toInt = (u14.1 k0 17).toInt := by rw [← ev17, up1_n _ _ (Or.inl (by omega))]
  have wtv17_k0_6 : (v17.1 k0 6).toInt = (u14.1 k0 6).toInt := by rw [← ev17, up1_n _ _ (Or.inl (by omega))]
  have wtv17_k0_7 : (v17.1 k0 7).toInt = (u14.1 k0 7).toInt := by rw [← ev17, up1_n _ _ (Or.inl (by omega))]
  have rzv17 : ∀ k j : Nat, ¬ ((k = k0 ∧ 6 ≤ j ∧ j ≤ 18 ∧ ¬ j = 12) ∨ k = k0 + 4) → v17.1 k j = v.1 k j := fun k j h => fz_u ev17 (by have czx10 := cnI (x := x10) (by omega); omega) (rzu14 k j h)
  refine lv_aload_n hx hb dX8_readStar_44 rfl (lv_at hl 1 rfl) ?_
  refine g_StarWalkModel_draft E I h_k0.1 mw_4_175 dX8_readStar_45 ?_
  refine lv_iload_n hx hb dX8_readStar_48 rfl (lv_at hl 0 rfl) ?_
  refine lv_iconst (v := 2) hx hb dX8_readStar_49 (by decide) ?_
  refine lv_iadd hx hb dX8_readStar_50 ?_
  refine lv_topi (fun x18 ex18 => ?_)
  replace hF := xl_i (ex18) hF
  have hx18 : x18.toInt = x2.toInt + 2 := by rw [ex18]; exact adI (a := x2.toInt) (b := 2) rfl rfl (by omega) (by omega)
  refine lv_aload_n hx hb dX8_readStar_51 rfl (lv_at hl 1 rfl) ?_
  refine lv_iconst (v := 0) hx hb dX8_readStar_52 (by decide) ?_
  refine lv_bipush (v := 6) hx hb dX8_readStar_53 (by decide) ?_
  refine cVi E I (c_X8_readNumber l w g v17 k0 (0 : Int32) (6 : Int32) E.2.2.1 I.2.2 h_k0  ) (cwV 2 E.1.2.2.2.2 (gWs (C := "StarWalkModel") mw_5_80 mw_5_82 mw_s_37 mw_1_9 mw_5_83) rfl rfl rfl (by decide +kernel) ⟨by decide, by decide⟩) h_k0.1.1 ((ce_o h_k0.1.2).trans rfl) rfl rfl hl.1 rfl (Nat.le_of_ble_eq_true rfl) dX8_readStar_55 ⟨Nat.le_refl _, Nat.le_refl _⟩ (fun r19 u20 H lo hp hPS => ?_)
  have iz21 : (0 : Int32).toInt = 0 := rfl
  have iz22 : (6 : Int32).toInt = 6 := rfl
  obtain ⟨hp, hex, hfr⟩ := hp
  replace hF := xm_i hex hF
  obtain ⟨hwf, p23⟩ := hp
  have I : Wo w g s.heap u20 H lo := ⟨hPS.1, hPS.2, hwf⟩
  have wtu20_k0_6 : (u20.1 k0 6).toInt = (v17.1 k0 6).toInt := congrArg Int32.toInt (p23.1 k0 6 (by omega))
  have wtu20_k0_7 : (u20.1 k0 7).toInt = (v17.1 k0 7).toInt := congrArg Int32.toInt (p23.1 k0 7 (by omega))
  have p23_0 := p23.2.1
  have p23_1 := p23.2.2.1
  have p23_2 := p23.2.2.2
  have rzu20 : ∀ k j : Nat, ¬ ((k = k0 ∧ 6 ≤ j ∧ j ≤ 18 ∧ ¬ j = 12) ∨ k = k0 + 4) → u20.1 k j = v.1 k j := fun k j h => (hfr k j (fun z => h (by omega))).trans (rzv17 k j h)
  refine pa_33 E I h_k0.2.2.2.2.1 (by omega) (by have ci := cnI (x := x18) (by omega); simp only [okk]; omega) dX8_readStar_58 (fun H lo I => ?_)
  generalize ev24 : up1 u20 (k0 + 4) x18.toNatClampNeg r19 = v24 at I
  replace hF := xl_i (ev24.symm) hF
  have wtv24_k0_13 : (v24.1 k0 13).toInt = (u20.1 k0 13).toInt := by rw [← ev24, up1_n _ _ (Or.inl (by omega))]
  have wtv24_k0_15 : (v24.1 k0 15).toInt = (u20.1 k0 15).toInt := by rw [← ev24, up1_n _ _ (Or.inl (by omega))]
  have wtv24_k0_16 : (v24.1 k0 16).toInt = (u20.1 k0 16).toInt := by rw [← ev24, up1_n _ _ (Or.inl (by omega))]
  have wtv24_k0_17 : (v24.1 k0 17).toInt = (u20.1 k0 17).toInt := by rw [← ev24, up1_n _ _ (Or.inl (by omega))]
  have wtv24_k0_6 : (v24.1 k0 6).toInt = (u20.1 k0 6).toInt := by rw [← ev24, up1_n _ _ (Or.inl (by omega))]
  have wtv24_k0_7 : (v24.1 k0 7).toInt = (u20.1 k0 7).toInt := by rw [← ev24, up1_n _ _ (Or.inl (by omega))]
  have rzv24 : ∀ k j : Nat, ¬ ((k = k0 ∧ 6 ≤ j ∧ j ≤ 18 ∧ ¬ j = 12) ∨ k = k0 + 4) → v24.1 k j = v.1 k j := fun k j h => fz_u ev24 (by have czx18 := cnI (x := x18) (by omega); omega) (rzu20 k j h)
  refine lv_aload_n hx hb dX8_readStar_59 rfl (lv_at hl 1 rfl) ?_
  refine lv_dup hx hb dX8_readStar_60 rfl ?_
  refine g_StarWalkModel_dStars E I h_k0.1 mw_4_176 dX8_readStar_61 ?_
  refine lv_topi (fun x25 ex25 => ?_)
  replace hF := xl_i (ex25) hF
  have twx25 : x25.toInt = (v24.1 k0 6).toInt := congrArg Int32.toInt ex25
  have hx25 := r_StarWalkModel_dStars I h_k0.1
  rw [← ex25] at hx25
  refine lv_iconst (v := 1) hx hb dX8_readStar_64 (by decide) ?_
  refine lv_iadd hx hb dX8_readStar_65 ?_
  refine lv_topi (fun x26 ex26 => ?_)
  replace hF := xl_i (ex26) hF
  have hx26 : x26.toInt = x25.toInt + 1 := by rw [ex26]; exact adI (a := x25.toInt) (b := 1) rfl rfl (by omega) (by omega)
  refine p_StarWalkModel_dStars E I h_k0.1 mw_4_176 (by omega) dX8_readStar_66 (fun H lo I => ?_)
  generalize ev27 : up1 v24 k0 6 x26 = v27 at I
  replace hF := xl_i (ev27.symm) hF
  have wtv27_k0_13 : (v27.1 k0 13).toInt = (v24.1 k0 13).toInt := by rw [← ev27, up1_n _ _ (Or.inr (by decide))]
  have wtv27_k0_15 : (v27.1 k0 15).toInt = (v24.1 k0 15).toInt := by rw [← ev27, up1_n _ _ (Or.inr (by decide))]
  have wtv27_k0_16 : (v27.1 k0 16).toInt = (v24.1 k0 16).toInt := by rw [← ev27, up1_n _ _ (Or.inr (by decide))]
  have wtv27_k0_17 : (v27.1 k0 17).toInt = (v24.1 k0 17).toInt := by rw [← ev27, up1_n _ _ (Or.inr (by decide))]
  have wtv27_k0_6 : (v27.1 k0 6).toInt = x26.toInt := by rw [← ev27]; exact congrArg Int32.toInt (up1_s _ k0 6 x26)
  have wtv27_k0_7 : (v27.1 k0 7).toInt = (v24.1 k0 7).toInt := by rw [← ev27, up1_n _ _ (Or.inr (by decide))]
  have rzv27 : ∀ k j : Nat, ¬ ((k = k0 ∧ 6 ≤ j ∧ j ≤ 18 ∧ ¬ j = 12) ∨ k = k0 + 4) → v27.1 k j = v.1 k j := fun k j h => fz_u ev27 (by omega) (rzv24 k j h)
  exact rV E I hr hlk (by rw [← hpost]; exact ⟨⟨I.2.2, by omega, by omega⟩, hF.trans hres, rzv27⟩) dX8_readStar_69
def F_X8_readKnown (k0 : Nat) (v : St) : St :=
xl (fun (v_67 : St) =>
xl (F_X8_next1 k0 v_67) fun u1 =>
u1) fun J_67 =>
xl (fun (z64_1 : Int32) (v_64 : St) =>
xl (up1 v_64 k0 10 z64_1) fun v3 =>
(J_67 v3)) fun J_64 =>
xl (fun (y31_1 : Int32) (z31_1 : Int32) (v_31 : St) =>
xl (F_X8_needs k0 z31_1 (4 : Int32) v_31) fun u4 =>
xl (u4.1 k0 8) fun x6 =>
xl ((1 : Int32) <<< (y31_1 &&& 31)) fun x7 =>
xl (x6 ||| x7) fun x8 =>
xl (up1 u4 k0 8 x8) fun v9 =>
xl (v9.1 k0 10) fun x10 =>
if x10.toInt < y31_1.toInt then (
(J_64 y31_1 v9)) else (
xl (v9.1 k0 10) fun x12 =>
(J_64 x12 v9))) fun J_31 =>
xm (F_X8_looked k0 (0 : Int32) (4 : Int32) v) fun r13 u14 =>
xl (u14.1 k0 17) fun x18 =>
if x18.toInt = 0 then (
xl (u14.1 k0 8) fun x20 =>
xl (x20 >>> (r13 &&& 31)) fun x21 =>
xl (x21 &&& (1 : Int32)) fun x22 =>
if x22.toInt = 0 then (
(J_31 r13 (1 : Int32) u14)) else (
(J_31 r13 (0 : Int32) u14))) else (
(J_67 u14))
set_option maxHeartbeats 4000000 in
set_option maxRecDepth 100000 in
theorem c_X8_readKnown (l : Launch) (w : Wp) (g : Nat → Nat → Int32) (v : St) (k0 : Nat) (hq : Inj w) (hw : WF (wk w) g v) (h_k0 : oM w k0) : CTv w l yX8_readKnown (wsy yX8_readKnown prog_10_method_18_code 2 none) (rmL 4) [.ref (wq w k0)] v (fun (u : St) => (WF (wk w) g u ∧ (v.1 k0 13).toInt ≤ (u.1 k0 13).toInt ∧ ((u.1 k0 17).toInt = 0 → (v.1 k0 17).toInt = 0)) ∧ (u = F_X8_readKnown k0 v) ∧ (∀ k j : Nat, ¬ ((k = k0 ∧ 6 ≤ j ∧ j ≤ 18 ∧ ¬ j = 12) ∨ k = k0 + 4) → u.1 k j = v.1 k j)) := by
  generalize hpost : (fun (u : St) => (WF (wk w) g u ∧ (v.1 k0 13).toInt ≤ (u.1 k0 13).toInt ∧ ((u.1 k0 17).toInt = 0 → (v.1 k0 17).toInt = 0)) ∧ (u = F_X8_readKnown k0 v) ∧ (∀ k j : Nat, ¬ ((k = k0 ∧ 6 ≤ j ∧ j ≤ 18 ∧ ¬ j = 12) ∨ k = k0 + 4) → u.1 k j = v.1 k j)) = post
  refine CTv.of prog_10_method_18_code 2 none "StarWalkModel" (by decide +kernel) rfl hq hw (Nat.le_of_ble_eq_true rfl) ?_
  intro pg en s m ar bl me cd ls E I hr hlk hl
  have hx := E.1.1
  have hb := E.1.2.1
  have hl : lv_has ls 2 [(0, .ref (wq w k0))] := hl
  obtain ⟨res, hres⟩ : ∃ z, z = F_X8_readKnown k0 v := ⟨_, rfl⟩
  have hF := hres.symm
  unfold F_X8_readKnown at hF
  replace hres : res = F_X8_readKnown k0 v := hres
  have rz0 : ∀ k j : Nat, ¬ ((k = k0 ∧ 6 ≤ j ∧ j ≤ 18 ∧ ¬ j = 12) ∨ k = k0 + 4) → v.1 k j = v.1 k j := fun _ _ _ => rfl
  obtain ⟨J_67, eJ_67, hF⟩ := xl_e hF
  have B_67 : ∀ (H : Heap) (lo : List Loc) (v_67 : St), Wo w g s.heap v_67 H lo → (∀ k j : Nat, ¬ ((k = k0 ∧ 6 ≤ j ∧ j ≤ 18 ∧ ¬ j = 12) ∨ k = k0 + 4) → v_67.1 k j = v.1 k j) → ((v.1 k0 13).toInt ≤ (v_67.1 k0 13).toInt ∧ ((v_67.1 k0 17).toInt = 0 → (v.1 k0 17).toInt = 0)) → (J_67 v_67 = res) → ∀ (ls : Array Slot), lv_has ls 2 [(0, .ref (wq w k0))] → W pg l en (rmL 4) s m ar bl me cd H lo 0 0 (Zv w bl ar s post) (F0 m 67 ls []) := by
    intro H lo v_67 I  rB67_Z hV67_1 hF ls hl
    replace hF := ap1 eJ_67 hF
    refine lv_aload_n hx hb dX8_readKnown_67 rfl (lv_at hl 0 rfl) ?_
    refine cVv E I (c_X8_next1 l w g v_67 k0 E.2.2.1 I.2.2 h_k0  ) (cwV 0 E.1.2.2.2.2 (gWs (C := "StarWalkModel") mw_5_40 mw_5_42 mw_s_28 mw_1_9 mw_5_43) rfl rfl rfl (by decide +kernel) ⟨by decide, by decide⟩) h_k0.1.1 ((ce_o h_k0.1.2).trans rfl) rfl rfl hl.1 rfl (Nat.le_of_ble_eq_true rfl) dX8_readKnown_68 ⟨Nat.le_refl _, Nat.le_refl _⟩ (fun u1 H lo hp hPS => ?_)
    obtain ⟨hp, hex, hfr⟩ := hp
    replace hF := xl_i hex hF
    obtain ⟨hwf, p2⟩ := hp
    have I : Wo w g s.heap u1 H lo := ⟨hPS.1, hPS.2, hwf⟩
    have p2_0 := p2.2.1
    have p2_1 := p2.2.2.1
    have p2_2 := p2.2.2.2
    have rzu1 : ∀ k j : Nat, ¬ ((k = k0 ∧ 6 ≤ j ∧ j ≤ 18 ∧ ¬ j = 12) ∨ k = k0 + 4) → u1.1 k j = v.1 k j := fun k j h => (hfr k j (fun z => h (by omega))).trans (rB67_Z k j h)
    exact rV E I hr hlk (by rw [← hpost]; exact ⟨⟨I.2.2, by omega, by omega⟩, hF.trans hres, rzu1⟩) dX8_readKnown_71
  obtain ⟨J_64, eJ_64, hF⟩ := xl_e hF
  have B_64 : ∀ (H : Heap) (lo : List Loc) (v_64 : St), Wo w g s.heap v_64 H lo → ∀ (z64_1 : Int32), (∀ k j : Nat, ¬ ((k = k0 ∧ 6 ≤ j ∧ j ≤ 18 ∧ ¬ j = 12) ∨ k = k0 + 4) → v_64.1 k j = v.1 k j) → ((v.1 k0 13).toInt ≤ (v_64.1 k0 13).toInt ∧ ((v_64.1 k0 17).toInt = 0 → (v.1 k0 17).toInt = 0)) → (J_64 z64_1 v_64 = res) → ∀ (ls : Array Slot), lv_has ls 2 [(0, .ref (wq w k0))] → W pg l en (rmL 4) s m ar bl me cd H lo 0 0 (Zv w bl ar s post) (F0 m 64 ls [.int z64_1, .ref (wq w k0)]) := by
    intro H lo v_64 I z64_1 rB64_Z hV64_1 hF ls hl
    replace hF := ap2 eJ_64 hF
    refine p_StarWalkModel_highest E I h_k0.1 mw_4_180 dX8_readKnown_64 (fun H lo I => ?_)
    generalize ev3 : up1 v_64 k0 10 z64_1 = v3 at I
    replace hF := xl_i (ev3.symm) hF
    have wtv3_k0_13 : (v3.1 k0 13).toInt = (v_64.1 k0 13).toInt := by rw [← ev3, up1_n _ _ (Or.inr (by decide))]
    have wtv3_k0_15 : (v3.1 k0 15).toInt = (v_64.1 k0 15).toInt := by rw [← ev3, up1_n _ _ (Or.inr (by decide))]
    have wtv3_k0_16 : (v3.1 k0 16).toInt = (v_64.1 k0 16).toInt := by rw [← ev3, up1_n _ _ (Or.inr (by decide))]
    have wtv3_k0_17 : (v3.1 k0 17).toInt = (v_64.1 k0 17).toInt := by rw [← ev3, up1_n _ _ (Or.inr (by decide))]
    have rzv3 : ∀ k j : Nat, ¬ ((k = k0 ∧ 6 ≤ j ∧ j ≤ 18 ∧ ¬ j = 12) ∨ k = k0 + 4) → v3.1 k j = v.1 k j := fun k j h => fz_u ev3 (by omega) (rB64_Z k j h)
    exact B_67 _ _ v3 I  rzv3 (by omega) hF ls (lv_sub hl [0] rfl)
  obtain ⟨J_31, eJ_31, hF⟩ := xl_e hF
  have B_31 : ∀ (H : Heap) (lo : List Loc) (v_31 : St), Wo w g s.heap v_31 H lo → ∀ (y31_1 : Int32) (z31_1 : Int32), (0 ≤ z31_1.toInt ∧ z31_1.toInt ≤ 1) → (∀ k j : Nat, ¬ ((k = k0 ∧ 6 ≤ j ∧ j ≤ 18 ∧ ¬ j = 12) ∨ k = k0 + 4) → v_31.1 k j = v.1 k j) → ((v.1 k0 13).toInt ≤ (v_31.1 k0 13).toInt ∧ ((v_31.1 k0 17).toInt = 0 → (v.1 k0 17).toInt = 0)) → (J_31 y31_1 z31_1 v_31 = res) → ∀ (ls : Array Slot), lv_has ls 2 [(0, .ref (wq w k0)), (1, .int y31_1)] → W pg l en (rmL 4) s m ar bl me cd H lo 0 0 (Zv w bl ar s post) (F0 m 31 ls [.int z31_1, .ref (wq w k0)]) := by
    intro H lo v_31 I y31_1 z31_1 hz31_1 rB31_Z hV31_2 hF ls hl
    replace hF := ap3 eJ_31 hF
    refine lv_iconst (v := 4) hx hb dX8_readKnown_31 (by decide) ?_
    refine cVv E I (c_X8_needs l w g v_31 k0 z31_1 (4 : Int32) E.2.2.1 I.2.2 h_k0 (by decide) ) (cwV 2 E.1.2.2.2.2 (gWs (C := "StarWalkModel") mw_5_52 mw_5_54 mw_s_30 mw_1_9 mw_5_55) rfl rfl rfl (by decide +kernel) ⟨by decide, by decide⟩) h_k0.1.1 ((ce_o h_k0.1.2).trans rfl) rfl rfl hl.1 rfl (Nat.le_of_ble_eq_true rfl) dX8_readKnown_32 ⟨Nat.le_refl _, Nat.le_refl _⟩ (fun u4 H lo hp hPS => ?_)
    obtain ⟨hp, hex, hfr⟩ := hp
    replace hF := xl_i hex hF
    obtain ⟨hwf, p5⟩ := hp
    have I : Wo w g s.heap u4 H lo := ⟨hPS.1, hPS.2, hwf⟩
    have wtu4_k0_13 : (u4.1 k0 13).toInt = (v_31.1 k0 13).toInt := congrArg Int32.toInt (p5.1 k0 13 (by omega))
    have wtu4_k0_15 : (u4.1 k0 15).toInt = (v_31.1 k0 15).toInt := congrArg Int32.toInt (p5.1 k0 15 (by omega))
    have wtu4_k0_16 : (u4.1 k0 16).toInt = (v_31.1 k0 16).toInt := congrArg Int32.toInt (p5.1 k0 16 (by omega))
    have p5_0 := p5.2
    have rzu4 : ∀ k j : Nat, ¬ ((k = k0 ∧ 6 ≤ j ∧ j ≤ 18 ∧ ¬ j = 12) ∨ k = k0 + 4) → u4.1 k j = v.1 k j := fun k j h => (hfr k j (fun z => h (by omega))).trans (rB31_Z k j h)
    refine lv_aload_n hx hb dX8_readKnown_35 rfl (lv_at hl 0 rfl) ?_
    refine lv_dup hx hb dX8_readKnown_36 rfl ?_
    refine g_StarWalkModel_knownOnes E I h_k0.1 mw_4_178 dX8_readKnown_37 ?_
    refine lv_topi (fun x6 ex6 => ?_)
    replace hF := xl_i (ex6) hF
    refine lv_iconst (v := 1) hx hb dX8_readKnown_40 (by decide) ?_
    refine lv_iload_n hx hb dX8_readKnown_41 rfl (lv_at hl 1 rfl) ?_
    refine lv_ishl hx hb dX8_readKnown_42 ?_
    refine lv_topi (fun x7 ex7 => ?_)
    replace hF := xl_i (ex7) hF
    refine lv_ior hx hb dX8_readKnown_43 ?_
    refine lv_topi (fun x8 ex8 => ?_)
    replace hF := xl_i (ex8) hF
    refine p_StarWalkModel_knownOnes E I h_k0.1 mw_4_178 dX8_readKnown_44 (fun H lo I => ?_)
    generalize ev9 : up1 u4 k0 8 x8 = v9 at I
    replace hF := xl_i (ev9.symm) hF
    have wtv9_k0_13 : (v9.1 k0 13).toInt = (u4.1 k0 13).toInt := by rw [← ev9, up1_n _ _ (Or.inr (by decide))]
    have wtv9_k0_15 : (v9.1 k0 15).toInt = (u4.1 k0 15).toInt := by rw [← ev9, up1_n _ _ (Or.inr (by decide))]
    have wtv9_k0_16 : (v9.1 k0 16).toInt = (u4.1 k0 16).toInt := by rw [← ev9, up1_n _ _ (Or.inr (by decide))]
    have wtv9_k0_17 : (v9.1 k0 17).toInt = (u4.1 k0 17).toInt := by rw [← ev9, up1_n _ _ (Or.inr (by decide))]
    have rzv9 : ∀ k j : Nat, ¬ ((k = k0 ∧ 6 ≤ j ∧ j ≤ 18 ∧ ¬ j = 12) ∨ k = k0 + 4) → v9.1 k j = v.1 k j := fun k j h => fz_u ev9 (by omega) (rzu4 k j h)
    refine lv_aload_n hx hb dX8_readKnown_47 rfl (lv_at hl 0 rfl) ?_
    refine lv_iload_n hx hb dX8_readKnown_48 rfl (lv_at hl 1 rfl) ?_
    refine lv_aload_n hx hb dX8_readKnown_49 rfl (lv_at hl 0 rfl) ?_
    refine g_StarWalkModel_highest E I h_k0.1 mw_4_180 dX8_readKnown_50 ?_
    refine lv_topi (fun x10 ex10 => ?_)
    replace hF := xl_i (ex10) hF
    refine bi_le E (a := y31_1.toInt) (b := x10.toInt) rfl rfl (tgt := 60) dX8_readKnown_53 (by decide) (fun c11 => ?_) (fun c11 => ?_)
    ·
      have rgy31_1 := i32_rng y31_1
      have rgx10 := i32_rng x10
      replace hF := if_l c11 hF
      refine lv_aload_n hx hb dX8_readKnown_60 rfl (lv_at hl 0 rfl) ?_
      refine g_StarWalkModel_highest E I h_k0.1 mw_4_180 dX8_readKnown_61 ?_
      refine lv_topi (fun x12 ex12 => ?_)
      replace hF := xl_i (ex12) hF
      exact B_64 _ _ v9 I x12 rzv9 (by omega) hF ls (lv_sub hl [0] rfl)
    ·
      have rgy31_1 := i32_rng y31_1
      have rgx10 := i32_rng x10
      replace hF := if_t c11 hF
      refine lv_iload_n hx hb dX8_readKnown_56 rfl (lv_at hl 1 rfl) ?_
      refine lv_goto (tgt := 64) hx hb dX8_readKnown_57 (by decide) ?_
      exact B_64 _ _ v9 I y31_1 rzv9 (by omega) hF ls (lv_sub hl [0] rfl)
  refine lv_aload_n hx hb dX8_readKnown_0 rfl (lv_at hl 0 rfl) ?_
  refine lv_iconst (v := 0) hx hb dX8_readKnown_1 (by decide) ?_
  refine lv_iconst (v := 4) hx hb dX8_readKnown_2 (by decide) ?_
  refine cVi E I (c_X8_looked l w g v k0 (0 : Int32) (4 : Int32) E.2.2.1 I.2.2 h_k0  ) (cwV 2 E.1.2.2.2.2 (gWs (C := "StarWalkModel") mw_5_84 mw_5_86 mw_s_38 mw_1_9 mw_5_87) rfl rfl rfl (by decide +kernel) ⟨by decide, by decide⟩) h_k0.1.1 ((ce_o h_k0.1.2).trans rfl) rfl rfl hl.1 rfl (Nat.le_of_ble_eq_true rfl) dX8_readKnown_3 ⟨Nat.le_refl _, Nat.le_refl _⟩ (fun r13 u14 H lo hp hPS => ?_)
  have iz15 : (0 : Int32).toInt = 0 := rfl
  have iz16 : (4 : Int32).toInt = 4 := rfl
  obtain ⟨hp, hex, hfr⟩ := hp
  replace hF := xm_i hex hF
  obtain ⟨hwf, p17⟩ := hp
  have I : Wo w g s.heap u14 H lo := ⟨hPS.1, hPS.2, hwf⟩
  have wtu14_k0_13 : (u14.1 k0 13).toInt = (v.1 k0 13).toInt := congrArg Int32.toInt (p17.1 k0 13 (by omega))
  have wtu14_k0_15 : (u14.1 k0 15).toInt = (v.1 k0 15).toInt := congrArg Int32.toInt (p17.1 k0 15 (by omega))
  have wtu14_k0_16 : (u14.1 k0 16).toInt = (v.1 k0 16).toInt := congrArg Int32.toInt (p17.1 k0 16 (by omega))
  have p17_0 := p17.2.1
  have p17_1 := p17.2.2
  have rzu14 : ∀ k j : Nat, ¬ ((k = k0 ∧ 6 ≤ j ∧ j ≤ 18 ∧ ¬ j = 12) ∨ k = k0 + 4) → u14.1 k j = v.1 k j := fun k j h => (hfr k j (fun z => h (by omega))).trans (rz0 k j h)
  refine lv_istore_n (lv' := [(1, .int r13), (0, .ref (wq w k0))]) hx hb dX8_readKnown_6 rfl hl (by decide) rfl (fun ls hl => ?_)
  refine lv_aload_n hx hb dX8_readKnown_7 rfl (lv_at hl 1 rfl) ?_
  refine g_StarWalkModel_fault E I h_k0.1 mw_4_187 dX8_readKnown_8 ?_
  refine lv_topi (fun x18 ex18 => ?_)
  replace hF := xl_i (ex18) hF
  have twx18 : x18.toInt = (u14.1 k0 17).toInt := congrArg Int32.toInt ex18
  have hx18 := r_StarWalkModel_fault I h_k0.1
  rw [← ex18] at hx18
  refine bz_ne E (a := x18.toInt) rfl (tgt := 67) dX8_readKnown_11 (by decide) (fun c19 => ?_) (fun c19 => ?_)
  ·
    replace hF := if_f c19 hF
    exact B_67 _ _ u14 I  rzu14 (by omega) hF ls (lv_sub hl [1] rfl)
  ·
    replace hF := if_t c19 hF
    refine lv_aload_n hx hb dX8_readKnown_14 rfl (lv_at hl 1 rfl) ?_
    refine lv_aload_n hx hb dX8_readKnown_15 rfl (lv_at hl 1 rfl) ?_
    refine g_StarWalkModel_knownOnes E I h_k0.1 mw_4_178 dX8_readKnown_16 ?_
    refine lv_topi (fun x20 ex20 => ?_)
    replace hF := xl_i (ex20) hF
    refine lv_iload_n hx hb dX8_readKnown_19 rfl (lv_at hl 0 rfl) ?_
    refine lv_ishr hx hb dX8_readKnown_20 ?_
    refine lv_topi (fun x21 ex21 => ?_)
    replace hF := xl_i (ex21) hF
    refine lv_iconst (v := 1) hx hb dX8_readKnown_21 (by decide) ?_
    refine lv_iand hx hb dX8_readKnown_22 ?_
    refine lv_topi (fun x22 ex22 => ?_)
    replace hF := xl_i (ex22) hF
    have hx22 := anI (x := x21) (y := (1 : Int32)) (b := 1) rfl (by decide)
    rw [← ex22] at hx22
    refine bz_ne E (a := x22.toInt) rfl (tgt := 30) dX8_readKnown_23 (by decide) (fun c23 => ?_) (fun c23 => ?_)
    ·
      replace hF := if_f c23 hF
      refine lv_iconst (v := 0) hx hb dX8_readKnown_30 (by decide) ?_
      exact B_31 _ _ u14 I r13 (0 : Int32) (by decide) rzu14 (by omega) hF ls (lv_sub hl [1, 0] rfl)
    ·
      replace hF := if_t c23 hF
      refine lv_iconst (v := 1) hx hb dX8_readKnown_26 (by decide) ?_
      refine lv_goto (tgt := 31) hx hb dX8_readKnown_27 (by decide) ?_
      exact B_31 _ _ u14 I r13 (1 : Int32) (by decide) rzu14 (by omega) hF ls (lv_sub hl [1, 0] rfl)
def F_X8_readCloud (k0 : Nat) (v : St) : St :=
xl (fun (v_52 : St) =>
xl (F_X8_next1 k0 v_52) fun u1 =>
u1) fun J_52 =>
xl (fun (y35_1 : Int32) (z35_1 : Int32) (v_35 : St) =>
xl (F_X8_needs k0 z35_1 (4 : Int32) v_35) fun u3 =>
xl (u3.1 (k0 + 4) (28 : Int32).toNatClampNeg) fun x5 =>
xl ((1 : Int32) <<< (y35_1 &&& 31)) fun x6 =>
xl (x5 ||| x6) fun x7 =>
xl (up1 u3 (k0 + 4) (28 : Int32).toNatClampNeg x7) fun v8 =>
(J_52 v8)) fun J_35 =>
xm (F_X8_looked k0 (0 : Int32) (9 : Int32) v) fun r9 u10 =>
xl (u10.1 k0 17) fun x14 =>
if x14.toInt = 0 then (
xl (u10.1 (k0 + 4) (28 : Int32).toNatClampNeg) fun x16 =>
xl (x16 >>> (r9 &&& 31)) fun x17 =>
xl (x17 &&& (1 : Int32)) fun x18 =>
if x18.toInt = 0 then (
(J_35 r9 (1 : Int32) u10)) else (
(J_35 r9 (0 : Int32) u10))) else (
(J_52 u10))
set_option maxHeartbeats 4000000 in
set_option maxRecDepth 100000 in
theorem c_X8_readCloud (l : Launch) (w : Wp) (g : Nat → Nat → Int32) (v : St) (k0 : Nat) (hq : Inj w) (hw : WF (wk w) g v) (h_k0 : oM w k0) : CTv w l yX8_readCloud (wsy yX8_readCloud prog_10_method_19_code 2 none) (rmL 4) [.ref (wq w k0)] v (fun (u : St) => (WF (wk w) g u ∧ (v.1 k0 13).toInt ≤ (u.1 k0 13).toInt ∧ ((u.1 k0 17).toInt = 0 → (v.1 k0 17).toInt = 0)) ∧ (u = F_X8_readCloud k0 v) ∧ (∀ k j : Nat, ¬ ((k = k0 ∧ 6 ≤ j ∧ j ≤ 18 ∧ ¬ j = 12) ∨ k = k0 + 4) → u.1 k j = v.1 k j)) := by
  generalize hpost : (fun (u : St) => (WF (wk w) g u ∧ (v.1 k0 13).toInt ≤ (u.1 k0 13).toInt ∧ ((u.1 k0 17).toInt = 0 → (v.1 k0 17).toInt = 0)) ∧ (u = F_X8_readCloud k0 v) ∧ (∀ k j : Nat, ¬ ((k = k0 ∧ 6 ≤ j ∧ j ≤ 18 ∧ ¬ j = 12) ∨ k = k0 + 4) → u.1 k j = v.1 k j)) = post
  refine CTv.of prog_10_method_19_code 2 none "StarWalkModel" (by decide +kernel) rfl hq hw (Nat.le_of_ble_eq_true rfl) ?_
  intro pg en s m ar bl me cd ls E I hr hlk hl
  have hx := E.1.1
  have hb := E.1.2.1
  have hl : lv_has ls 2 [(0, .ref (wq w k0))] := hl
  obtain ⟨res, hres⟩ : ∃ z, z = F_X8_readCloud k0 v := ⟨_, rfl⟩
  have hF := hres.symm
  unfold F_X8_readCloud at hF
  replace hres : res = F_X8_readCloud k0 v := hres
  have rz0 : ∀ k j : Nat, ¬ ((k = k0 ∧ 6 ≤ j ∧ j ≤ 18 ∧ ¬ j = 12) ∨ k = k0 + 4) → v.1 k j = v.1 k j := fun _ _ _ => rfl
  obtain ⟨J_52, eJ_52, hF⟩ := xl_e hF
  have B_52 : ∀ (H : Heap) (lo : List Loc) (v_52 : St), Wo w g s.heap v_52 H lo → (∀ k j : Nat, ¬ ((k = k0 ∧ 6 ≤ j ∧ j ≤ 18 ∧ ¬ j = 12) ∨ k = k0 + 4) → v_52.1 k j = v.1 k j) → ((v.1 k0 13).toInt ≤ (v_52.1 k0 13).toInt ∧ ((v_52.1 k0 17).toInt = 0 → (v.1 k0 17).toInt = 0)) → (J_52 v_52 = res) → ∀ (ls : Array Slot), lv_has ls 2 [(0, .ref (wq w k0))] → W pg l en (rmL 4) s m ar bl me cd H lo 0 0 (Zv w bl ar s post) (F0 m 52 ls []) := by
    intro H lo v_52 I  rB52_Z hV52_1 hF ls hl
    replace hF := ap1 eJ_52 hF
    refine lv_aload_n hx hb dX8_readCloud_52 rfl (lv_at hl 0 rfl) ?_
    refine cVv E I (c_X8_next1 l w g v_52 k0 E.2.2.1 I.2.2 h_k0  ) (cwV 0 E.1.2.2.2.2 (gWs (C := "StarWalkModel") mw_5_40 mw_5_42 mw_s_28 mw_1_9 mw_5_43) rfl rfl rfl (by decide +kernel) ⟨by decide, by decide⟩) h_k0.1.1 ((ce_o h_k0.1.2).trans rfl) rfl rfl hl.1 rfl (Nat.le_of_ble_eq_true rfl) dX8_readCloud_53 ⟨Nat.le_refl _, Nat.le_refl _⟩ (fun u1 H lo hp hPS => ?_)
    obtain ⟨hp, hex, hfr⟩ := hp
    replace hF := xl_i hex hF
    obtain ⟨hwf, p2⟩ := hp
    have I : Wo w g s.heap u1 H lo := ⟨hPS.1, hPS.2, hwf⟩
    have p2_0 := p2.2.1
    have p2_1 := p2.2.2.1
    have p2_2 := p2.2.2.2
    have rzu1 : ∀ k j : Nat, ¬ ((k = k0 ∧ 6 ≤ j ∧ j ≤ 18 ∧ ¬ j = 12) ∨ k = k0 + 4) → u1.1 k j = v.1 k j := fun k j h => (hfr k j (fun z => h (by omega))).trans (rB52_Z k j h)
    exact rV E I hr hlk (by rw [← hpost]; exact ⟨⟨I.2.2, by omega, by omega⟩, hF.trans hres, rzu1⟩) dX8_readCloud_56
  obtain ⟨J_35, eJ_35, hF⟩ := xl_e hF
  have B_35 : ∀ (H : Heap) (lo : List Loc) (v_35 : St), Wo w g s.heap v_35 H lo → ∀ (y35_1 : Int32) (z35_1 : Int32), (0 ≤ z35_1.toInt ∧ z35_1.toInt ≤ 1) → (∀ k j : Nat, ¬ ((k = k0 ∧ 6 ≤ j ∧ j ≤ 18 ∧ ¬ j = 12) ∨ k = k0 + 4) → v_35.1 k j = v.1 k j) → ((v.1 k0 13).toInt ≤ (v_35.1 k0 13).toInt ∧ ((v_35.1 k0 17).toInt = 0 → (v.1 k0 17).toInt = 0)) → (J_35 y35_1 z35_1 v_35 = res) → ∀ (ls : Array Slot), lv_has ls 2 [(0, .ref (wq w k0)), (1, .int y35_1)] → W pg l en (rmL 4) s m ar bl me cd H lo 0 0 (Zv w bl ar s post) (F0 m 35 ls [.int z35_1, .ref (wq w k0)]) := by
    intro H lo v_35 I y35_1 z35_1 hz35_1 rB35_Z hV35_2 hF ls hl
    replace hF := ap3 eJ_35 hF
    refine lv_iconst (v := 4) hx hb dX8_readCloud_35 (by decide) ?_
    refine cVv E I (c_X8_needs l w g v_35 k0 z35_1 (4 : Int32) E.2.2.1 I.2.2 h_k0 (by decide) ) (cwV 2 E.1.2.2.2.2 (gWs (C := "StarWalkModel") mw_5_52 mw_5_54 mw_s_30 mw_1_9 mw_5_55) rfl rfl rfl (by decide +kernel) ⟨by decide, by decide⟩) h_k0.1.1 ((ce_o h_k0.1.2).trans rfl) rfl rfl hl.1 rfl (Nat.le_of_ble_eq_true rfl) dX8_readCloud_36 ⟨Nat.le_refl _, Nat.le_refl _⟩ (fun u3 H lo hp hPS => ?_)
    obtain ⟨hp, hex, hfr⟩ := hp
    replace hF := xl_i hex hF
    obtain ⟨hwf, p4⟩ := hp
    have I : Wo w g s.heap u3 H lo := ⟨hPS.1, hPS.2, hwf⟩
    have wtu3_k0_13 : (u3.1 k0 13).toInt = (v_35.1 k0 13).toInt := congrArg Int32.toInt (p4.1 k0 13 (by omega))
    have wtu3_k0_15 : (u3.1 k0 15).toInt = (v_35.1 k0 15).toInt := congrArg Int32.toInt (p4.1 k0 15 (by omega))
    have wtu3_k0_16 : (u3.1 k0 16).toInt = (v_35.1 k0 16).toInt := congrArg Int32.toInt (p4.1 k0 16 (by omega))
    have p4_0 := p4.2
    have rzu3 : ∀ k j : Nat, ¬ ((k = k0 ∧ 6 ≤ j ∧ j ≤ 18 ∧ ¬ j = 12) ∨ k = k0 + 4) → u3.1 k j = v.1 k j := fun k j h => (hfr k j (fun z => h (by omega))).trans (rB35_Z k j h)
    refine lv_aload_n hx hb dX8_readCloud_39 rfl (lv_at hl 0 rfl) ?_
    refine g_StarWalkModel_draft E I h_k0.1 mw_4_175 dX8_readCloud_40 ?_
    refine lv_bipush (v := 28) hx hb dX8_readCloud_43 (by decide) ?_
    refine lv_dup2_11 hx hb dX8_readCloud_45 rfl rfl ?_
    refine ga_33 E I h_k0.2.2.2.2.1 (by decide) dX8_readCloud_46 ?_
    refine lv_topi (fun x5 ex5 => ?_)
    replace hF := xl_i (ex5) hF
    refine lv_iconst (v := 1) hx hb dX8_readCloud_47 (by decide) ?_
    refine lv_iload_n hx hb dX8_readCloud_48 rfl (lv_at hl 1 rfl) ?_
    refine lv_ishl hx hb dX8_readCloud_49 ?_
    refine lv_topi (fun x6 ex6 => ?_)
    replace hF := xl_i (ex6) hF
    refine lv_ior hx hb dX8_readCloud_50 ?_
    refine lv_topi (fun x7 ex7 => ?_)
    replace hF := xl_i (ex7) hF
    refine pa_33 E I h_k0.2.2.2.2.1 (by decide) (by have ci : (28 : Int32).toNatClampNeg = 28 := rfl; rw [ci]; simp only [okk]; omega) dX8_readCloud_51 (fun H lo I => ?_)
    generalize ev8 : up1 u3 (k0 + 4) (28 : Int32).toNatClampNeg x7 = v8 at I
    replace hF := xl_i (ev8.symm) hF
    have wtv8_k0_13 : (v8.1 k0 13).toInt = (u3.1 k0 13).toInt := by rw [← ev8, up1_n _ _ (Or.inl (by omega))]
    have wtv8_k0_15 : (v8.1 k0 15).toInt = (u3.1 k0 15).toInt := by rw [← ev8, up1_n _ _ (Or.inl (by omega))]
    have wtv8_k0_16 : (v8.1 k0 16).toInt = (u3.1 k0 16).toInt := by rw [← ev8, up1_n _ _ (Or.inl (by omega))]
    have wtv8_k0_17 : (v8.1 k0 17).toInt = (u3.1 k0 17).toInt := by rw [← ev8, up1_n _ _ (Or.inl (by omega))]
    have rzv8 : ∀ k j : Nat, ¬ ((k = k0 ∧ 6 ≤ j ∧ j ≤ 18 ∧ ¬ j = 12) ∨ k = k0 + 4) → v8.1 k j = v.1 k j := fun k j h => fz_u ev8 (by have cl28 : (28 : Int32).toNatClampNeg = 28 := rfl; omega) (rzu3 k j h)
    exact B_52 _ _ v8 I  rzv8 (by omega) hF ls (lv_sub hl [0] rfl)
  refine lv_aload_n hx hb dX8_readCloud_0 rfl (lv_at hl 0 rfl) ?_
  refine lv_iconst (v := 0) hx hb dX8_readCloud_1 (by decide) ?_
  refine lv_bipush (v := 9) hx hb dX8_readCloud_2 (by decide) ?_
  refine cVi E I (c_X8_looked l w g v k0 (0 : Int32) (9 : Int32) E.2.2.1 I.2.2 h_k0  ) (cwV 2 E.1.2.2.2.2 (gWs (C := "StarWalkModel") mw_5_84 mw_5_86 mw_s_38 mw_1_9 mw_5_87) rfl rfl rfl (by decide +kernel) ⟨by decide, by decide⟩) h_k0.1.1 ((ce_o h_k0.1.2).trans rfl) rfl rfl hl.1 rfl (Nat.le_of_ble_eq_true rfl) dX8_readCloud_4 ⟨Nat.le_refl _, Nat.le_refl _⟩ (fun r9 u10 H lo hp hPS => ?_)
  have iz11 : (0 : Int32).toInt = 0 := rfl
  have iz12 : (9 : Int32).toInt = 9 := rfl
  obtain ⟨hp, hex, hfr⟩ := hp
  replace hF := xm_i hex hF
  obtain ⟨hwf, p13⟩ := hp
  have I : Wo w g s.heap u10 H lo := ⟨hPS.1, hPS.2, hwf⟩
  have wtu10_k0_13 : (u10.1 k0 13).toInt = (v.1 k0 13).toInt := congrArg Int32.toInt (p13.1 k0 13 (by omega))
  have wtu10_k0_15 : (u10.1 k0 15).toInt = (v.1 k0 15).toInt := congrArg Int32.toInt (p13.1 k0 15 (by omega))
  have wtu10_k0_16 : (u10.1 k0 16).toInt = (v.1 k0 16).toInt := congrArg Int32.toInt (p13.1 k0 16 (by omega))
  have p13_0 := p13.2.1
  have p13_1 := p13.2.2
  have rzu10 : ∀ k j : Nat, ¬ ((k = k0 ∧ 6 ≤ j ∧ j ≤ 18 ∧ ¬ j = 12) ∨ k = k0 + 4) → u10.1 k j = v.1 k j := fun k j h => (hfr k j (fun z => h (by omega))).trans (rz0 k j h)
  refine lv_istore_n (lv' := [(1, .int r9), (0, .ref (wq w k0))]) hx hb dX8_readCloud_7 rfl hl (by decide) rfl (fun ls hl => ?_)
  refine lv_aload_n hx hb dX8_readCloud_8 rfl (lv_at hl 1 rfl) ?_
  refine g_StarWalkModel_fault E I h_k0.1 mw_4_187 dX8_readCloud_9 ?_
  refine lv_topi (fun x14 ex14 => ?_)
  replace hF := xl_i (ex14) hF
  have twx14 : x14.toInt = (u10.1 k0 17).toInt := congrArg Int32.toInt ex14
  have hx14 := r_StarWalkModel_fault I h_k0.1
  rw [← ex14] at hx14
  refine bz_ne E (a := x14.toInt) rfl (tgt := 52) dX8_readCloud_12 (by decide) (fun c15 => ?_) (fun c15 => ?_)
  ·
    replace hF := if_f c15 hF
    exact B_52 _ _ u10 I  rzu10 (by omega) hF ls (lv_sub hl [1] rfl)
  ·
    replace hF := if_t c15 hF
    refine lv_aload_n hx hb dX8_readCloud_15 rfl (lv_at hl 1 rfl) ?_
    refine lv_aload_n hx hb dX8_readCloud_16 rfl (lv_at hl 1 rfl) ?_
    refine g_StarWalkModel_draft E I h_k0.1 mw_4_175 dX8_readCloud_17 ?_
    refine lv_bipush (v := 28) hx hb dX8_readCloud_20 (by decide) ?_
    refine ga_33 E I h_k0.2.2.2.2.1 (by decide) dX8_readCloud_22 ?_
    refine lv_topi (fun x16 ex16 => ?_)
    replace hF := xl_i (ex16) hF
    refine lv_iload_n hx hb dX8_readCloud_23 rfl (lv_at hl 0 rfl) ?_
    refine lv_ishr hx hb dX8_readCloud_24 ?_
    refine lv_topi (fun x17 ex17 => ?_)
    replace hF := xl_i (ex17) hF
    refine lv_iconst (v := 1) hx hb dX8_readCloud_25 (by decide) ?_
    refine lv_iand hx hb dX8_readCloud_26 ?_
    refine lv_topi (fun x18 ex18 => ?_)
    replace hF := xl_i (ex18) hF
    have hx18 := anI (x := x17) (y := (1 : Int32)) (b := 1) rfl (by decide)
    rw [← ex18] at hx18
    refine bz_ne E (a := x18.toInt) rfl (tgt := 34) dX8_readCloud_27 (by decide) (fun c19 => ?_) (fun c19 => ?_)
    ·
      replace hF := if_f c19 hF
      refine lv_iconst (v := 0) hx hb dX8_readCloud_34 (by decide) ?_
      exact B_35 _ _ u10 I r9 (0 : Int32) (by decide) rzu10 (by omega) hF ls (lv_sub hl [1, 0] rfl)
    ·
      replace hF := if_t c19 hF
      refine lv_iconst (v := 1) hx hb dX8_readCloud_30 (by decide) ?_
      refine lv_goto (tgt := 35) hx hb dX8_readCloud_31 (by decide) ?_
      exact B_35 _ _ u10 I r9 (1 : Int32) (by decide) rzu10 (by omega) hF ls (lv_sub hl [1, 0] rfl)
