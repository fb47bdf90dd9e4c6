def F_X8_readPlan (k0 : Nat) (v : St) : St :=
xl (fun (self_0 : St → St) (v_0 : St) =>
xl (fun (v_104 : St) =>
xl (F_X8_next1 k0 v_104) fun u1 =>
(self_0 u1)) fun J_104 =>
xl (fun (z101_1 : Int32) (v_101 : St) =>
xl (up1 v_101 k0 10 z101_1) fun v3 =>
(J_104 v3)) fun J_101 =>
xl (fun (v_97 : St) =>
xl (v_97.1 k0 10) fun x4 =>
(J_101 x4 v_97)) fun J_97 =>
xl (fun (z33_1 : Int32) (v_33 : St) =>
xl (F_X8_needs k0 z33_1 (5 : Int32) v_33) fun u5 =>
xm (F_X8_looked k0 (0 : Int32) (6 : Int32) u5) fun r7 u8 =>
xl (u8.1 k0 17) fun x12 =>
if x12.toInt = 0 then (
xl (u8.1 (k0 + 4) (32 : Int32).toNatClampNeg) fun x14 =>
xl ((33 : Int32) + x14) fun x15 =>
xl (up1 u8 (k0 + 4) x15.toNatClampNeg r7) fun v16 =>
xl (v16.1 (k0 + 4) (32 : Int32).toNatClampNeg) fun x17 =>
xl (x17 + (1 : Int32)) fun x18 =>
xl (up1 v16 (k0 + 4) (32 : Int32).toNatClampNeg x18) fun v19 =>
if r7.toInt < 5 then (
xl (v19.1 k0 10) fun x21 =>
if x21.toInt < r7.toInt then (
(J_101 r7 v19)) else (
(J_97 v19))) else (
(J_97 v19))) else (
(J_104 u8))) fun J_33 =>
xl (v_0.1 k0 17) fun x23 =>
if x23.toInt = 0 then (
xl (v_0.1 k0 15) fun x25 =>
if x25.toInt = 2 then (
xl (v_0.1 (k0 + 4) (32 : Int32).toNatClampNeg) fun x27 =>
if x27.toInt < 8 then (
(J_33 (1 : Int32) v_0)) else (
(J_33 (0 : Int32) v_0))) else (
v_0)) else (
v_0)) fun P_0 =>
(lp P_0 (fun _ => v) (tm (v.1 k0 13).toInt (v.1 k0 17).toInt (v.1 k0 15).toInt + 1) v)
set_option maxHeartbeats 4000000 in
set_option maxRecDepth 100000 in
theorem c_X8_readPlan (l : Launch) (w : Wp) (g : Nat → Nat → Int32) (v : St) (k0 : Nat) (hq : Inj w) (hw : WF (wk w) g v) (h_k0 : oM w k0) : CTv w l yX8_readPlan (wsy yX8_readPlan prog_10_method_20_code 2 none) (rmL 5) [.ref (wq w k0)] v (fun (u : St) => (WF (wk w) g u ∧ (v.1 k0 13).toInt ≤ (u.1 k0 13).toInt ∧ ((u.1 k0 17).toInt = 0 → (v.1 k0 17).toInt = 0)) ∧ (u = F_X8_readPlan k0 v) ∧ (∀ k j : Nat, ¬ ((k = k0 ∧ 6 ≤ j ∧ j ≤ 18 ∧ ¬ j = 12) ∨ k = k0 + 4) → u.1 k j = v.1 k j)) := by
  generalize hpost : (fun (u : St) => (WF (wk w) g u ∧ (v.1 k0 13).toInt ≤ (u.1 k0 13).toInt ∧ ((u.1 k0 17).toInt = 0 → (v.1 k0 17).toInt = 0)) ∧ (u = F_X8_readPlan k0 v) ∧ (∀ k j : Nat, ¬ ((k = k0 ∧ 6 ≤ j ∧ j ≤ 18 ∧ ¬ j = 12) ∨ k = k0 + 4) → u.1 k j = v.1 k j)) = post
  refine CTv.of prog_10_method_20_code 2 none "StarWalkModel" (by decide +kernel) rfl hq hw (Nat.le_of_ble_eq_true rfl) ?_
  intro pg en s m ar bl me cd ls E I hr hlk hl
  have hx := E.1.1
  have hb := E.1.2.1
  have hl : lv_has ls 2 [(0, .ref (wq w k0))] := hl
  obtain ⟨res, hres⟩ : ∃ z, z = F_X8_readPlan k0 v := ⟨_, rfl⟩
  have hF := hres.symm
  unfold F_X8_readPlan at hF
  replace hres : res = F_X8_readPlan k0 v := hres
  have rz0 : ∀ k j : Nat, ¬ ((k = k0 ∧ 6 ≤ j ∧ j ≤ 18 ∧ ¬ j = 12) ∨ k = k0 + 4) → v.1 k j = v.1 k j := fun _ _ _ => rfl
  obtain ⟨P_0, eP_0, hF⟩ := xl_e hF
  have L_0 : ∀ (n : Nat), ∀ (H : Heap) (lo : List Loc) (v_0 : St), Wo w g s.heap v_0 H lo → (∀ k j : Nat, ¬ ((k = k0 ∧ 6 ≤ j ∧ j ≤ 18 ∧ ¬ j = 12) ∨ k = k0 + 4) → v_0.1 k j = v.1 k j) → ((v.1 k0 13).toInt ≤ (v_0.1 k0 13).toInt ∧ ((v_0.1 k0 17).toInt = 0 → (v.1 k0 17).toInt = 0)) → (lp P_0 (fun _ => v) n v_0 = res) → tm (v_0.1 k0 13).toInt (v_0.1 k0 17).toInt (v_0.1 k0 15).toInt < n → ∀ (ls : Array Slot), lv_has ls 2 [(0, .ref (wq w k0))] → W pg l en (rmL 5) s m ar bl me cd H lo 0 0 (Zv w bl ar s post) (F0 m 0 ls []) := by
    intro n
    induction n with
    | zero => intro H lo v_0 I  rB0_Z hV0_1 hF hm; exact absurd hm (Nat.not_lt_zero _)
    | succ n ih_0 =>
      intro H lo v_0 I  rB0_Z hV0_1 hF hm ls hl
      replace hF := lpa1 eP_0 hF
      obtain ⟨J_104, eJ_104, hF⟩ := xl_e hF
      have B_104 : ∀ (H : Heap) (lo : List Loc) (v_104 : St), Wo w g s.heap v_104 H lo → (∀ k j : Nat, ¬ ((k = k0 ∧ 6 ≤ j ∧ j ≤ 18 ∧ ¬ j = 12) ∨ k = k0 + 4) → v_104.1 k j = v.1 k j) → ((v_0.1 k0 13).toInt ≤ (v_104.1 k0 13).toInt ∧ ((v_104.1 k0 17).toInt = 0 → (v_0.1 k0 17).toInt = 0) ∧ (v_0.1 k0 17).toInt = 0 ∧ ¬ (v_0.1 k0 15).toInt = 0) → (J_104 v_104 = res) → ∀ (ls : Array Slot), lv_has ls 2 [(0, .ref (wq w k0))] → W pg l en (rmL 5) s m ar bl me cd H lo 0 0 (Zv w bl ar s post) (F0 m 104 ls []) := by
        intro H lo v_104 I  rB104_Z hV104_1 hF ls hl
        replace hF := ap1 eJ_104 hF
        refine lv_aload_n hx hb dX8_readPlan_104 rfl (lv_at hl 0 rfl) ?_
        refine cVv E I (c_X8_next1 l w g v_104 k0 E.2.2.1 I.2.2 h_k0  ) (cwV 0 E.1.2.2.2.2 (gWs (C := "StarWalkModel") mw_5_40 mw_5_42 mw_s_28 mw_1_9 mw_5_43) rfl rfl rfl (by decide +kernel) ⟨by decide, by decide⟩) h_k0.1.1 ((ce_o h_k0.1.2).trans rfl) rfl rfl hl.1 rfl (Nat.le_of_ble_eq_true rfl) dX8_readPlan_105 ⟨Nat.le_refl _, Nat.le_refl _⟩ (fun u1 H lo hp hPS => ?_)
        obtain ⟨hp, hex, hfr⟩ := hp
        replace hF := xl_i hex hF
        obtain ⟨hwf, p2⟩ := hp
        have I : Wo w g s.heap u1 H lo := ⟨hPS.1, hPS.2, hwf⟩
        have wtu1_k04_32 : (u1.1 (k0 + 4) 32).toInt = (v_104.1 (k0 + 4) 32).toInt := congrArg Int32.toInt (p2.1 (k0 + 4) 32 (by omega))
        have p2_0 := p2.2.1
        have p2_1 := p2.2.2.1
        have p2_2 := p2.2.2.2
        have rzu1 : ∀ k j : Nat, ¬ ((k = k0 ∧ 6 ≤ j ∧ j ≤ 18 ∧ ¬ j = 12) ∨ k = k0 + 4) → u1.1 k j = v.1 k j := fun k j h => (hfr k j (fun z => h (by omega))).trans (rB104_Z k j h)
        refine lv_goto (tgt := 0) hx hb dX8_readPlan_108 (by decide) ?_
        exact ih_0 _ _ u1 I  rzu1 (by omega) hF (by have hp := r_StarWalkModel_pos I h_k0.1; exact Nat.lt_of_lt_of_le (tm_lt (by omega) (by omega) (by omega) (by omega) (fun a b => by omega)) (Nat.le_of_lt_succ hm)) ls (lv_sub hl [0] rfl)
      obtain ⟨J_101, eJ_101, hF⟩ := xl_e hF
      have B_101 : ∀ (H : Heap) (lo : List Loc) (v_101 : St), Wo w g s.heap v_101 H lo → ∀ (z101_1 : Int32), (∀ k j : Nat, ¬ ((k = k0 ∧ 6 ≤ j ∧ j ≤ 18 ∧ ¬ j = 12) ∨ k = k0 + 4) → v_101.1 k j = v.1 k j) → ((v_0.1 k0 13).toInt ≤ (v_101.1 k0 13).toInt ∧ ((v_101.1 k0 17).toInt = 0 → (v_0.1 k0 17).toInt = 0) ∧ (v_0.1 k0 17).toInt = 0 ∧ ¬ (v_0.1 k0 15).toInt = 0) → (J_101 z101_1 v_101 = res) → ∀ (ls : Array Slot), lv_has ls 2 [(0, .ref (wq w k0))] → W pg l en (rmL 5) s m ar bl me cd H lo 0 0 (Zv w bl ar s post) (F0 m 101 ls [.int z101_1, .ref (wq w k0)]) := by
        intro H lo v_101 I z101_1 rB101_Z hV101_1 hF ls hl
        replace hF := ap2 eJ_101 hF
        refine p_StarWalkModel_highest E I h_k0.1 mw_4_180 dX8_readPlan_101 (fun H lo I => ?_)
        generalize ev3 : up1 v_101 k0 10 z101_1 = v3 at I
        replace hF := xl_i (ev3.symm) hF
        have wtv3_k0_13 : (v3.1 k0 13).toInt = (v_101.1 k0 13).toInt := by rw [← ev3, up1_n _ _ (Or.inr (by decide))]
        have wtv3_k0_15 : (v3.1 k0 15).toInt = (v_101.1 k0 15).toInt := by rw [← ev3, up1_n _ _ (Or.inr (by decide))]
        have wtv3_k0_16 : (v3.1 k0 16).toInt = (v_101.1 k0 16).toInt := by rw [← ev3, up1_n _ _ (Or.inr (by decide))]
        have wtv3_k0_17 : (v3.1 k0 17).toInt = (v_101.1 k0 17).toInt := by rw [← ev3, up1_n _ _ (Or.inr (by decide))]
        have wtv3_k04_32 : (v3.1 (k0 + 4) 32).toInt = (v_101.1 (k0 + 4) 32).toInt := by rw [← ev3, up1_n _ _ (Or.inl (by omega))]
        have rzv3 : ∀ k j : Nat, ¬ ((k = k0 ∧ 6 ≤ j ∧ j ≤ 18 ∧ ¬ j = 12) ∨ k = k0 + 4) → v3.1 k j = v.1 k j := fun k j h => fz_u ev3 (by omega) (rB101_Z k j h)
        exact B_104 _ _ v3 I  rzv3 (by omega) hF ls (lv_sub hl [0] rfl)
      obtain ⟨J_97, eJ_97, hF⟩ := xl_e hF
      have B_97 : ∀ (H : Heap) (lo : List Loc) (v_97 : St), Wo w g s.heap v_97 H lo → (∀ k j : Nat, ¬ ((k = k0 ∧ 6 ≤ j ∧ j ≤ 18 ∧ ¬ j = 12) ∨ k = k0 + 4) → v_97.1 k j = v.1 k j) → ((v_0.1 k0 13).toInt ≤ (v_97.1 k0 13).toInt ∧ ((v_97.1 k0 17).toInt = 0 → (v_0.1 k0 17).toInt = 0) ∧ (v_0.1 k0 17).toInt = 0 ∧ ¬ (v_0.1 k0 15).toInt = 0) → (J_97 v_97 = res) → ∀ (ls : Array Slot), lv_has ls 2 [(0, .ref (wq w k0))] → W pg l en (rmL 5) s m ar bl me cd H lo 0 0 (Zv w bl ar s post) (F0 m 97 ls [.ref (wq w k0)]) := by
        intro H lo v_97 I  rB97_Z hV97_1 hF ls hl
        replace hF := ap1 eJ_97 hF
        refine lv_aload_n hx hb dX8_readPlan_97 rfl (lv_at hl 0 rfl) ?_
        refine g_StarWalkModel_highest E I h_k0.1 mw_4_180 dX8_readPlan_98 ?_
        refine lv_topi (fun x4 ex4 => ?_)
        replace hF := xl_i (ex4) hF
        exact B_101 _ _ v_97 I x4 rB97_Z (by omega) hF ls (lv_sub hl [0] rfl)
      obtain ⟨J_33, eJ_33, hF⟩ := xl_e hF
      have B_33 : ∀ (H : Heap) (lo : List Loc) (v_33 : St), Wo w g s.heap v_33 H lo → ∀ (z33_1 : Int32), (0 ≤ z33_1.toInt ∧ z33_1.toInt ≤ 1) → (∀ k j : Nat, ¬ ((k = k0 ∧ 6 ≤ j ∧ j ≤ 18 ∧ ¬ j = 12) ∨ k = k0 + 4) → v_33.1 k j = v.1 k j) → ((v_0.1 k0 13).toInt ≤ (v_33.1 k0 13).toInt ∧ ((v_33.1 k0 17).toInt = 0 → (v_0.1 k0 17).toInt = 0) ∧ (v_0.1 k0 17).toInt = 0 ∧ ¬ (v_0.1 k0 15).toInt = 0) → (¬ z33_1.toInt = 0 → (v_33.1 (k0 + 4) 32).toInt ≤ 7) → (J_33 z33_1 v_33 = res) → ∀ (ls : Array Slot), lv_has ls 2 [(0, .ref (wq w k0))] → W pg l en (rmL 5) s m ar bl me cd H lo 0 0 (Zv w bl ar s post) (F0 m 33 ls [.int z33_1, .ref (wq w k0)]) := by
        intro H lo v_33 I z33_1 hz33_1 rB33_Z hV33_2 iv33_0 hF ls hl
        replace hF := ap2 eJ_33 hF
        refine lv_iconst (v := 5) hx hb dX8_readPlan_33 (by decide) ?_
        refine cVv E I (c_X8_needs l w g v_33 k0 z33_1 (5 : Int32) E.2.2.1 I.2.2 h_k0 (by decide) ) (cwV 2 E.1.2.2.2.2 (gWs (C := "StarWalkModel") mw_5_52 mw_5_54 mw_s_30 mw_1_9 mw_5_55) rfl rfl rfl (by decide +kernel) ⟨by decide, by decide⟩) h_k0.1.1 ((ce_o h_k0.1.2).trans rfl) rfl rfl hl.1 rfl (Nat.le_of_ble_eq_true rfl) dX8_readPlan_34 ⟨Nat.le_refl _, Nat.le_refl _⟩ (fun u5 H lo hp hPS => ?_)
        obtain ⟨hp, hex, hfr⟩ := hp
        replace hF := xl_i hex hF
        obtain ⟨hwf, p6⟩ := hp
        have I : Wo w g s.heap u5 H lo := ⟨hPS.1, hPS.2, hwf⟩
        have wtu5_k0_13 : (u5.1 k0 13).toInt = (v_33.1 k0 13).toInt := congrArg Int32.toInt (p6.1 k0 13 (by omega))
        have wtu5_k0_15 : (u5.1 k0 15).toInt = (v_33.1 k0 15).toInt := congrArg Int32.toInt (p6.1 k0 15 (by omega))
        have wtu5_k0_16 : (u5.1 k0 16).toInt = (v_33.1 k0 16).toInt := congrArg Int32.toInt (p6.1 k0 16 (by omega))
        have wtu5_k04_32 : (u5.1 (k0 + 4) 32).toInt = (v_33.1 (k0 + 4) 32).toInt := congrArg Int32.toInt (p6.1 (k0 + 4) 32 (by omega))
        have p6_0 := p6.2
        have rzu5 : ∀ k j : Nat, ¬ ((k = k0 ∧ 6 ≤ j ∧ j ≤ 18 ∧ ¬ j = 12) ∨ k = k0 + 4) → u5.1 k j = v.1 k j := fun k j h => (hfr k j (fun z => h (by omega))).trans (rB33_Z k j h)
        refine lv_aload_n hx hb dX8_readPlan_37 rfl (lv_at hl 0 rfl) ?_
        refine lv_iconst (v := 0) hx hb dX8_readPlan_38 (by decide) ?_
        refine lv_bipush (v := 6) hx hb dX8_readPlan_39 (by decide) ?_
        refine cVi E I (c_X8_looked l w g u5 k0 (0 : Int32) (6 : Int32) E.2.2.1 I.2.2 h_k0  ) (cwV 2 E.1.2.2.2.2 (gWs (C := "StarWalkModel") mw_5_84 mw_5_86 mw_s_38 mw_1_9 mw_5_87) rfl rfl rfl (by decide +kernel) ⟨by decide, by decide⟩) h_k0.1.1 ((ce_o h_k0.1.2).trans rfl) rfl rfl hl.1 rfl (Nat.le_of_ble_eq_true rfl) dX8_readPlan_41 ⟨Nat.le_refl _, Nat.le_refl _⟩ (fun r7 u8 H lo hp hPS => ?_)
        have iz9 : (0 : Int32).toInt = 0 := rfl
        have iz10 : (6 : Int32).toInt = 6 := rfl
        obtain ⟨hp, hex, hfr⟩ := hp
        replace hF := xm_i hex hF
        obtain ⟨hwf, p11⟩ := hp
        have I : Wo w g s.heap u8 H lo := ⟨hPS.1, hPS.2, hwf⟩
        have wtu8_k0_13 : (u8.1 k0 13).toInt = (u5.1 k0 13).toInt := congrArg Int32.toInt (p11.1 k0 13 (by omega))
        have wtu8_k0_15 : (u8.1 k0 15).toInt = (u5.1 k0 15).toInt := congrArg Int32.toInt (p11.1 k0 15 (by omega))
        have wtu8_k0_16 : (u8.1 k0 16).toInt = (u5.1 k0 16).toInt := congrArg Int32.toInt (p11.1 k0 16 (by omega))
        have wtu8_k04_32 : (u8.1 (k0 + 4) 32).toInt = (u5.1 (k0 + 4) 32).toInt := congrArg Int32.toInt (p11.1 (k0 + 4) 32 (by omega))
        have p11_0 := p11.2.1
        have p11_1 := p11.2.2
        have rzu8 : ∀ k j : Nat, ¬ ((k = k0 ∧ 6 ≤ j ∧ j ≤ 18 ∧ ¬ j = 12) ∨ k = k0 + 4) → u8.1 k j = v.1 k j := fun k j h => (hfr k j (fun z => h (by omega))).trans (rzu5 k j h)
        refine lv_istore_n (lv' := [(1, .int r7), (0, .ref (wq w k0))]) hx hb dX8_readPlan_44 rfl hl (by decide) rfl (fun ls hl => ?_)
        refine lv_aload_n hx hb dX8_readPlan_45 rfl (lv_at hl 1 rfl) ?_
        refine g_StarWalkModel_fault E I h_k0.1 mw_4_187 dX8_readPlan_46 ?_
        refine lv_topi (fun x12 ex12 => ?_)
        replace hF := xl_i (ex12) hF
        have twx12 : x12.toInt = (u8.1 k0 17).toInt := congrArg Int32.toInt ex12
        have hx12 := r_StarWalkModel_fault I h_k0.1
        rw [← ex12] at hx12
        refine bz_ne E (a := x12.toInt) rfl (tgt := 104) dX8_readPlan_49 (by decide) (fun c13 => ?_) (fun c13 => ?_)
        ·
          replace hF := if_f c13 hF
          exact B_104 _ _ u8 I  rzu8 (by omega) hF ls (lv_sub hl [1] rfl)
        ·
          replace hF := if_t c13 hF
          refine lv_aload_n hx hb dX8_readPlan_52 rfl (lv_at hl 1 rfl) ?_
          refine g_StarWalkModel_draft E I h_k0.1 mw_4_175 dX8_readPlan_53 ?_
          refine lv_bipush (v := 33) hx hb dX8_readPlan_56 (by decide) ?_
          refine lv_aload_n hx hb dX8_readPlan_58 rfl (lv_at hl 1 rfl) ?_
          refine g_StarWalkModel_draft E I h_k0.1 mw_4_175 dX8_readPlan_59 ?_
          refine lv_bipush (v := 32) hx hb dX8_readPlan_62 (by decide) ?_
          refine ga_33 E I h_k0.2.2.2.2.1 (by decide) dX8_readPlan_64 ?_
          refine lv_topi (fun x14 ex14 => ?_)
          replace hF := xl_i (ex14) hF
          have hx14 : 0 ≤ x14.toInt ∧ x14.toInt ≤ 8 := by have h := ra_33 I h_k0.2.2.2.2.1 32; rw [ex14]; exact h.2.2.1 rfl
          have twx14 : x14.toInt = (u8.1 (k0 + 4) 32).toInt := congrArg Int32.toInt ex14
          refine lv_iadd hx hb dX8_readPlan_65 ?_
          refine lv_topi (fun x15 ex15 => ?_)
          replace hF := xl_i (ex15) hF
          have hx15 : x15.toInt = 33 + x14.toInt := by rw [ex15]; exact adI (a := 33) (b := x14.toInt) rfl rfl (by omega) (by omega)
          refine lv_iload_n hx hb dX8_readPlan_66 rfl (lv_at hl 0 rfl) ?_
          refine pa_33 E I h_k0.2.2.2.2.1 (by omega) (by have ci := cnI (x := x15) (by omega); simp only [okk]; omega) dX8_readPlan_67 (fun H lo I => ?_)
          generalize ev16 : up1 u8 (k0 + 4) x15.toNatClampNeg r7 = v16 at I
          replace hF := xl_i (ev16.symm) hF
          have wtv16_k0_13 : (v16.1 k0 13).toInt = (u8.1 k0 13).toInt := by rw [← ev16, up1_n _ _ (Or.inl (by omega))]
          have wtv16_k0_15 : (v16.1 k0 15).toInt = (u8.1 k0 15).toInt := by rw [← ev16, up1_n _ _ (Or.inl (by omega))]
          have wtv16_k0_16 : (v16.1 k0 16).toInt = (u8.1 k0 16).toInt := by rw [← ev16, up1_n _ _ (Or.inl (by omega))]
          have wtv16_k0_17 : (v16.1 k0 17).toInt = (u8.1 k0 17).toInt := by rw [← ev16, up1_n _ _ (Or.inl (by omega))]
          have wtv16_k04_32 : (v16.1 (k0 + 4) 32).toInt = (u8.1 (k0 + 4) 32).toInt := by rw [← ev16, up1_n _ _ (Or.inr (by have := cnI (x := x15) (by omega); omega))]
          have rzv16 : ∀ k j : Nat, ¬ ((k = k0 ∧ 6 ≤ j ∧ j ≤ 18 ∧ ¬ j = 12) ∨ k = k0 + 4) → v16.1 k j = v.1 k j := fun k j h => fz_u ev16 (by have czx15 := cnI (x := x15) (by omega); omega) (rzu8 k j h)
          refine lv_aload_n hx hb dX8_readPlan_68 rfl (lv_at hl 1 rfl) ?_
          refine g_StarWalkModel_draft E I h_k0.1 mw_4_175 dX8_readPlan_69 ?_
          refine lv_bipush (v := 32) hx hb dX8_readPlan_72 (by decide) ?_
          refine lv_dup2_11 hx hb dX8_readPlan_74 rfl rfl ?_
          refine ga_33 E I h_k0.2.2.2.2.1 (by decide) dX8_readPlan_75 ?_
          refine lv_topi (fun x17 ex17 => ?_)
          replace hF := xl_i (ex17) hF
          have hx17 : 0 ≤ x17.toInt ∧ x17.toInt ≤ 8 := by have h := ra_33 I h_k0.2.2.2.2.1 32; rw [ex17]; exact h.2.2.1 rfl
          have twx17 : x17.toInt = (v16.1 (k0 + 4) 32).toInt := congrArg Int32.toInt ex17
          refine lv_iconst (v := 1) hx hb dX8_readPlan_76 (by decide) ?_
          refine lv_iadd hx hb dX8_readPlan_77 ?_
          refine lv_topi (fun x18 ex18 => ?_)
          replace hF := xl_i (ex18) hF
          have hx18 : x18.toInt = x17.toInt + 1 := by rw [ex18]; exact adI (a := x17.toInt) (b := 1) rfl rfl (by omega) (by omega)
          refine pa_33 E I h_k0.2.2.2.2.1 (by decide) (by have ci : (32 : Int32).toNatClampNeg = 32 := rfl; rw [ci]; simp only [okk]; omega) dX8_readPlan_78 (fun H lo I => ?_)
          generalize ev19 : up1 v16 (k0 + 4) (32 : Int32).toNatClampNeg x18 = v19 at I
          replace hF := xl_i (ev19.symm) hF
          have wtv19_k0_13 : (v19.1 k0 13).toInt = (v16.1 k0 13).toInt := by rw [← ev19, up1_n _ _ (Or.inl (by omega))]
          have wtv19_k0_15 : (v19.1 k0 15).toInt = (v16.1 k0 15).toInt := by rw [← ev19, up1_n _ _ (Or.inl (by omega))]
          have wtv19_k0_16 : (v19.1 k0 16).toInt = (v16.1 k0 16).toInt := by rw [← ev19, up1_n _ _ (Or.inl (by omega))]
          have wtv19_k0_17 : (v19.1 k0 17).toInt = (v16.1 k0 17).toInt := by rw [← ev19, up1_n _ _ (Or.inl (by omega))]
          have wtv19_k04_32 : (v19.1 (k0 + 4) 32).toInt = x18.toInt := by rw [← ev19]; exact congrArg Int32.toInt (up1_s _ (k0 + 4) 32 x18)
          have rzv19 : ∀ k j : Nat, ¬ ((k = k0 ∧ 6 ≤ j ∧ j ≤ 18 ∧ ¬ j = 12) ∨ k = k0 + 4) → v19.1 k j = v.1 k j := fun k j h => fz_u ev19 (by have cl32 : (32 : Int32).toNatClampNeg = 32 := rfl; omega) (rzv16 k j h)
          refine lv_aload_n hx hb dX8_readPlan_79 rfl (lv_at hl 1 rfl) ?_
          refine lv_iload_n hx hb dX8_readPlan_80 rfl (lv_at hl 0 rfl) ?_
          refine lv_iconst (v := 5) hx hb dX8_readPlan_81 (by decide) ?_
          refine bi_ge E (a := r7.toInt) (b := 5) rfl rfl (tgt := 97) dX8_readPlan_82 (by decide) (fun c20 => ?_) (fun c20 => ?_)
          ·
            replace hF := if_l c20 hF
            exact B_97 _ _ v19 I  rzv19 (by omega) hF ls (lv_sub hl [1] rfl)
          ·
            replace hF := if_t c20 hF
            refine lv_iload_n hx hb dX8_readPlan_85 rfl (lv_at hl 0 rfl) ?_
            refine lv_aload_n hx hb dX8_readPlan_86 rfl (lv_at hl 1 rfl) ?_
            refine g_StarWalkModel_highest E I h_k0.1 mw_4_180 dX8_readPlan_87 ?_
            refine lv_topi (fun x21 ex21 => ?_)
            replace hF := xl_i (ex21) hF
            refine bi_le E (a := r7.toInt) (b := x21.toInt) rfl rfl (tgt := 97) dX8_readPlan_90 (by decide) (fun c22 => ?_) (fun c22 => ?_)
            ·
              have rgr7 := i32_rng r7
              have rgx21 := i32_rng x21
              replace hF := if_l c22 hF
              exact B_97 _ _ v19 I  rzv19 (by omega) hF ls (lv_sub hl [1] rfl)
            ·
              have rgr7 := i32_rng r7
              have rgx21 := i32_rng x21
              replace hF := if_t c22 hF
              refine lv_iload_n hx hb dX8_readPlan_93 rfl (lv_at hl 0 rfl) ?_
              refine lv_goto (tgt := 101) hx hb dX8_readPlan_94 (by decide) ?_
              exact B_101 _ _ v19 I r7 rzv19 (by omega) hF ls (lv_sub hl [1] rfl)
      refine lv_aload_n hx hb dX8_readPlan_0 rfl (lv_at hl 0 rfl) ?_
      refine g_StarWalkModel_fault E I h_k0.1 mw_4_187 dX8_readPlan_1 ?_
      refine lv_topi (fun x23 ex23 => ?_)
      replace hF := xl_i (ex23) hF
      have twx23 : x23.toInt = (v_0.1 k0 17).toInt := congrArg Int32.toInt ex23
      have hx23 := r_StarWalkModel_fault I h_k0.1
      rw [← ex23] at hx23
      refine bz_ne E (a := x23.toInt) rfl (tgt := 111) dX8_readPlan_4 (by decide) (fun c24 => ?_) (fun c24 => ?_)
      ·
        replace hF := if_f c24 hF
        exact rV E I hr hlk (by rw [← hpost]; exact ⟨⟨I.2.2, by omega, by omega⟩, hF.trans hres, rB0_Z⟩) dX8_readPlan_111
      ·
        replace hF := if_t c24 hF
        refine lv_aload_n hx hb dX8_readPlan_7 rfl (lv_at hl 0 rfl) ?_
        refine g_StarWalkModel_sort E I h_k0.1 mw_4_185 dX8_readPlan_8 ?_
        refine lv_topi (fun x25 ex25 => ?_)
        replace hF := xl_i (ex25) hF
        have twx25 : x25.toInt = (v_0.1 k0 15).toInt := congrArg Int32.toInt ex25
        refine lv_iconst (v := 2) hx hb dX8_readPlan_11 (by decide) ?_
        refine bi_ne E (a := x25.toInt) (b := 2) rfl rfl (tgt := 111) dX8_readPlan_12 (by decide) (fun c26 => ?_) (fun c26 => ?_)
        ·
          replace hF := if_f c26 hF
          exact rV E I hr hlk (by rw [← hpost]; exact ⟨⟨I.2.2, by omega, by omega⟩, hF.trans hres, rB0_Z⟩) dX8_readPlan_111
        ·
          replace hF := if_t c26 hF
          refine lv_aload_n hx hb dX8_readPlan_15 rfl (lv_at hl 0 rfl) ?_
          refine lv_aload_n hx hb dX8_readPlan_16 rfl (lv_at hl 0 rfl) ?_
          refine g_StarWalkModel_draft E I h_k0.1 mw_4_175 dX8_readPlan_17 ?_
          refine lv_bipush (v := 32) hx hb dX8_readPlan_20 (by decide) ?_
          refine ga_33 E I h_k0.2.2.2.2.1 (by decide) dX8_readPlan_22 ?_
          refine lv_topi (fun x27 ex27 => ?_)
          replace hF := xl_i (ex27) hF
          have hx27 : 0 ≤ x27.toInt ∧ x27.toInt ≤ 8 := by have h := ra_33 I h_k0.2.2.2.2.1 32; rw [ex27]; exact h.2.2.1 rfl
          have twx27 : x27.toInt = (v_0.1 (k0 + 4) 32).toInt := congrArg Int32.toInt ex27
          refine lv_bipush (v := 8) hx hb dX8_readPlan_23 (by decide) ?_
          refine bi_ge E (a := x27.toInt) (b := 8) rfl rfl (tgt := 32) dX8_readPlan_25 (by decide) (fun c28 => ?_) (fun c28 => ?_)
          ·
            replace hF := if_l c28 hF
            refine lv_iconst (v := 0) hx hb dX8_readPlan_32 (by decide) ?_
            exact B_33 _ _ v_0 I (0 : Int32) (by decide) rB0_Z (by omega) (fun h => absurd rfl h) hF ls (lv_sub hl [0] rfl)
          ·
            replace hF := if_t c28 hF
            refine lv_iconst (v := 1) hx hb dX8_readPlan_28 (by decide) ?_
            refine lv_goto (tgt := 33) hx hb dX8_readPlan_29 (by decide) ?_
            exact B_33 _ _ v_0 I (1 : Int32) (by decide) rB0_Z (by omega) (fun _ => by omega) hF ls (lv_sub hl [0] rfl)
  exact L_0 (tm (v.1 k0 13).toInt (v.1 k0 17).toInt (v.1 k0 15).toInt + 1) _ _ v I  rz0 (by omega) hF (Nat.lt_succ_self _) ls (lv_sub hl [0] rfl)
def F_X8_readLineOf (k0 : Nat) (a0 : Int32) (v : St) : St :=
if a0.toInt = 4 then (
xl (F_X8_readStar k0 v) fun u2 =>
u2) else (
if a0.toInt = 5 then (
xl (F_X8_readKnown k0 v) fun u5 =>
u5) else (
if a0.toInt = 6 then (
xl (F_X8_readCloud k0 v) fun u8 =>
u8) else (
if a0.toInt = 7 then (
xm (F_X8_readNumber k0 (1 : Int32) (40 : Int32) v) fun r11 u12 =>
xl (up1 u12 (k0 + 4) (24 : Int32).toNatClampNeg r11) fun v16 =>
xm (F_X8_readNumber k0 (0 : Int32) (9 : Int32) v16) fun r17 u18 =>
xl (up1 u18 (k0 + 4) (25 : Int32).toNatClampNeg r17) fun v22 =>
v22) else (
if a0.toInt = 8 then (
xm (F_X8_readNumber k0 (0 : Int32) (10 : Int32) v) fun r24 u25 =>
xl (up1 u25 (k0 + 4) (26 : Int32).toNatClampNeg r24) fun v29 =>
v29) else (
if a0.toInt = 9 then (
xm (F_X8_readNumber k0 (0 : Int32) (99 : Int32) v) fun r31 u32 =>
xl (up1 u32 (k0 + 4) (27 : Int32).toNatClampNeg r31) fun v36 =>
v36) else (
if a0.toInt = 10 then (
xl (F_X8_readPlan k0 v) fun u38 =>
u38) else (
xl (v.1 k0 7) fun x40 =>
xl ((20 : Int32) + x40) fun x41 =>
xl (up1 v (k0 + 4) x41.toNatClampNeg a0) fun v42 =>
xl (v42.1 k0 7) fun x43 =>
xl (x43 + (1 : Int32)) fun x44 =>
xl (up1 v42 k0 7 x44) fun v45 =>
v45)))))))
set_option maxHeartbeats 4000000 in
set_option maxRecDepth 100000 in
theorem c_X8_readLineOf (l : Launch) (w : Wp) (g : Nat → Nat → Int32) (v : St) (k0 : Nat) (a0 : Int32) (hq : Inj w) (hw : WF (wk w) g v) (h_k0 : oM w k0) (h_a0 : 0 ≤ a0.toInt ∧ a0.toInt ≤ 10) (hk : (a0.toInt = 4 → (v.1 k0 6).toInt ≤ 4) ∧ (a0.toInt ≤ 3 → (v.1 k0 7).toInt ≤ 2)) : CTv w l yX8_readLineOf (wsy yX8_readLineOf prog_10_method_21_code 2 none) (rmL 6) [.ref (wq w k0), .int a0] v (fun (u : St) => (WF (wk w) g u ∧ (v.1 k0 13).toInt ≤ (u.1 k0 13).toInt ∧ ((u.1 k0 17).toInt = 0 → (v.1 k0 17).toInt = 0)) ∧ (u = F_X8_readLineOf k0 a0 v) ∧ (∀ k j : Nat, ¬ ((k = k0 ∧ 6 ≤ j ∧ j ≤ 18 ∧ ¬ j = 12) ∨ k = k0 + 4) → u.1 k j = v.1 k j)) := by
  generalize hpost : (fun (u : St) => (WF (wk w) g u ∧ (v.1 k0 13).toInt ≤ (u.1 k0 13).toInt ∧ ((u.1 k0 17).toInt = 0 → (v.1 k0 17).toInt = 0)) ∧ (u = F_X8_readLineOf k0 a0 v) ∧ (∀ k j : Nat, ¬ ((k = k0 ∧ 6 ≤ j ∧ j ≤ 18 ∧ ¬ j = 12) ∨ k = k0 + 4) → u.1 k j = v.1 k j)) = post
  refine CTv.of prog_10_method_21_code 2 none "StarWalkModel" (by decide +kernel) rfl hq hw (Nat.le_of_ble_eq_true rfl) ?_
  intro pg en s m ar bl me cd ls E I hr hlk hl
  have hx := E.1.1
  have hb := E.1.2.1
  have hl : lv_has ls 2 [(0, .ref (wq w k0)), (1, .int a0)] := hl
  obtain ⟨res, hres⟩ : ∃ z, z = F_X8_readLineOf k0 a0 v := ⟨_, rfl⟩
  have hF := hres.symm
  unfold F_X8_readLineOf at hF
  replace hres : res = F_X8_readLineOf k0 a0 v := hres
  have rz0 : ∀ k j : Nat, ¬ ((k = k0 ∧ 6 ≤ j ∧ j ≤ 18 ∧ ¬ j = 12) ∨ k = k0 + 4) → v.1 k j = v.1 k j := fun _ _ _ => rfl
  refine lv_iload_n hx hb dX8_readLineOf_0 rfl (lv_at hl 1 rfl) ?_
  by_cases c1 : a0.toInt = 4
  ·
    replace hF := if_t c1 hF
    refine lv_tableIn hx hb dX8_readLineOf_1 (by omega) (by omega) (by rw [c1]; rfl) (tgt := 44) (by decide) ?_
    refine lv_aload_n hx hb dX8_readLineOf_44 rfl (lv_at hl 0 rfl) ?_
    refine cVv E I (c_X8_readStar l w g v k0 E.2.2.1 I.2.2 h_k0  (by omega)) (cwV 0 E.1.2.2.2.2 (gWs (C := "StarWalkModel") mw_5_76 mw_5_78 mw_s_36 mw_1_9 mw_5_79) rfl rfl rfl (by decide +kernel) ⟨by decide, by decide⟩) h_k0.1.1 ((ce_o h_k0.1.2).trans rfl) rfl rfl hl.1 rfl (Nat.le_of_ble_eq_true rfl) dX8_readLineOf_45 ⟨Nat.le_refl _, Nat.le_refl _⟩ (fun u2 H lo hp hPS => ?_)
    obtain ⟨hp, hex, hfr⟩ := hp
    replace hF := xl_i hex hF
    obtain ⟨hwf, p3⟩ := hp
    have I : Wo w g s.heap u2 H lo := ⟨hPS.1, hPS.2, hwf⟩
    have p3_0 := p3.1
    have p3_1 := p3.2
    have rzu2 : ∀ k j : Nat, ¬ ((k = k0 ∧ 6 ≤ j ∧ j ≤ 18 ∧ ¬ j = 12) ∨ k = k0 + 4) → u2.1 k j = v.1 k j := fun k j h => (hfr k j (fun z => h (by rcases z with z | z <;> omega))).trans (rz0 k j h)
    refine lv_goto (tgt := 160) hx hb dX8_readLineOf_48 (by decide) ?_
    exact rV E I hr hlk (by rw [← hpost]; exact ⟨⟨I.2.2, by omega, by omega⟩, hF.trans hres, rzu2⟩) dX8_readLineOf_160
  replace hF := if_f c1 hF
  by_cases c4 : a0.toInt = 5
  ·
    replace hF := if_t c4 hF
    refine lv_tableIn hx hb dX8_readLineOf_1 (by omega) (by omega) (by rw [c4]; rfl) (tgt := 51) (by decide) ?_
    refine lv_aload_n hx hb dX8_readLineOf_51 rfl (lv_at hl 0 rfl) ?_
    refine cVv E I (c_X8_readKnown l w g v k0 E.2.2.1 I.2.2 h_k0  ) (cwV 0 E.1.2.2.2.2 (gWs (C := "StarWalkModel") mw_5_88 mw_5_90 mw_s_39 mw_1_9 mw_5_91) rfl rfl rfl (by decide +kernel) ⟨by decide, by decide⟩) h_k0.1.1 ((ce_o h_k0.1.2).trans rfl) rfl rfl hl.1 rfl (Nat.le_of_ble_eq_true rfl) dX8_readLineOf_52 ⟨Nat.le_refl _, Nat.le_refl _⟩ (fun u5 H lo hp hPS => ?_)
    obtain ⟨hp, hex, hfr⟩ := hp
    replace hF := xl_i hex hF
    obtain ⟨hwf, p6⟩ := hp
    have I : Wo w g s.heap u5 H lo := ⟨hPS.1, hPS.2, hwf⟩
    have p6_0 := p6.1
    have p6_1 := p6.2
    have rzu5 : ∀ k j : Nat, ¬ ((k = k0 ∧ 6 ≤ j ∧ j ≤ 18 ∧ ¬ j = 12) ∨ k = k0 + 4) → u5.1 k j = v.1 k j := fun k j h => (hfr k j (fun z => h (by rcases z with z | z <;> omega))).trans (rz0 k j h)
    refine lv_goto (tgt := 160) hx hb dX8_readLineOf_55 (by decide) ?_
    exact rV E I hr hlk (by rw [← hpost]; exact ⟨⟨I.2.2, by omega, by omega⟩, hF.trans hres, rzu5⟩) dX8_readLineOf_160
  replace hF := if_f c4 hF
  by_cases c7 : a0.toInt = 6
  ·
    replace hF := if_t c7 hF
    refine lv_tableIn hx hb dX8_readLineOf_1 (by omega) (by omega) (by rw [c7]; rfl) (tgt := 58) (by decide) ?_
    refine lv_aload_n hx hb dX8_readLineOf_58 rfl (lv_at hl 0 rfl) ?_
    refine cVv E I (c_X8_readCloud l w g v k0 E.2.2.1 I.2.2 h_k0  ) (cwV 0 E.1.2.2.2.2 (gWs (C := "StarWalkModel") mw_5_92 mw_5_94 mw_s_40 mw_1_9 mw_5_95) rfl rfl rfl (by decide +kernel) ⟨by decide, by decide⟩) h_k0.1.1 ((ce_o h_k0.1.2).trans rfl) rfl rfl hl.1 rfl (Nat.le_of_ble_eq_true rfl) dX8_readLineOf_59 ⟨Nat.le_refl _, Nat.le_refl _⟩ (fun u8 H lo hp hPS => ?_)
    obtain ⟨hp, hex, hfr⟩ := hp
    replace hF := xl_i hex hF
    obtain ⟨hwf, p9⟩ := hp
    have I : Wo w g s.heap u8 H lo := ⟨hPS.1, hPS.2, hwf⟩
    have p9_0 := p9.1
    have p9_1 := p9.2
    have rzu8 : ∀ k j : Nat, ¬ ((k = k0 ∧ 6 ≤ j ∧ j ≤ 18 ∧ ¬ j = 12) ∨ k = k0 + 4) → u8.1 k j = v.1 k j := fun k j h => (hfr k j (fun z => h (by rcases z with z | z <;> omega))).trans (rz0 k j h)
    refine lv_goto (tgt := 160) hx hb dX8_readLineOf_62 (by decide) ?_
    exact rV E I hr hlk (by rw [← hpost]; exact ⟨⟨I.2.2, by omega, by omega⟩, hF.trans hres, rzu8⟩) dX8_readLineOf_160
  replace hF := if_f c7 hF
  by_cases c10 : a0.toInt = 7
  ·
    replace hF := if_t c10 hF
    refine lv_tableIn hx hb dX8_readLineOf_1 (by omega) (by omega) (by rw [c10]; rfl) (tgt := 65) (by decide) ?_
    refine lv_aload_n hx hb dX8_readLineOf_65 rfl (lv_at hl 0 rfl) ?_
    refine g_StarWalkModel_draft E I h_k0.1 mw_4_175 dX8_readLineOf_66 ?_
    refine lv_bipush (v := 24) hx hb dX8_readLineOf_69 (by decide) ?_
    refine lv_aload_n hx hb dX8_readLineOf_71 rfl (lv_at hl 0 rfl) ?_
    refine lv_iconst (v := 1) hx hb dX8_readLineOf_72 (by decide) ?_
    refine lv_bipush (v := 40) hx hb dX8_readLineOf_73 (by decide) ?_
    refine cVi E I (c_X8_readNumber l w g v k0 (1 : Int32) (40 : Int32) E.2.2.1 I.2.2 h_k0  ) (cwV 2 E.1.2.2.2.2 (gWs (C := "StarWalkModel") mw_5_80 mw_5_82 mw_s_37 mw_1_9 mw_5_83) rfl rfl rfl (by decide +kernel) ⟨by decide, by decide⟩) h_k0.1.1 ((ce_o h_k0.1.2).trans rfl) rfl rfl hl.1 rfl (Nat.le_of_ble_eq_true rfl) dX8_readLineOf_75 ⟨Nat.le_refl _, Nat.le_refl _⟩ (fun r11 u12 H lo hp hPS => ?_)
    have iz13 : (1 : Int32).toInt = 1 := rfl
    have iz14 : (40 : Int32).toInt = 40 := rfl
    obtain ⟨hp, hex, hfr⟩ := hp
    replace hF := xm_i hex hF
    obtain ⟨hwf, p15⟩ := hp
    have I : Wo w g s.heap u12 H lo := ⟨hPS.1, hPS.2, hwf⟩
    have wtu12_k0_6 : (u12.1 k0 6).toInt = (v.1 k0 6).toInt := congrArg Int32.toInt (p15.1 k0 6 (by omega))
    have wtu12_k0_7 : (u12.1 k0 7).toInt = (v.1 k0 7).toInt := congrArg Int32.toInt (p15.1 k0 7 (by omega))
    have p15_0 := p15.2.1
    have p15_1 := p15.2.2.1
    have p15_2 := p15.2.2.2
    have rzu12 : ∀ k j : Nat, ¬ ((k = k0 ∧ 6 ≤ j ∧ j ≤ 18 ∧ ¬ j = 12) ∨ k = k0 + 4) → u12.1 k j = v.1 k j := fun k j h => (hfr k j (fun z => h (by omega))).trans (rz0 k j h)
    refine pa_33 E I h_k0.2.2.2.2.1 (by decide) (by have ci : (24 : Int32).toNatClampNeg = 24 := rfl; rw [ci]; simp only [okk]; omega) dX8_readLineOf_78 (fun H lo I => ?_)
    generalize ev16 : up1 u12 (k0 + 4) (24 : Int32).toNatClampNeg r11 = v16 at I
    replace hF := xl_i (ev16.symm) hF
    have wtv16_k0_13 : (v16.1 k0 13).toInt = (u12.1 k0 13).toInt := by rw [← ev16, up1_n _ _ (Or.inl (by omega))]
    have wtv16_k0_15 : (v16.1 k0 15).toInt = (u12.1 k0 15).toInt := by rw [← ev16, up1_n _ _ (Or.inl (by omega))]
    have wtv16_k0_16 : (v16.1 k0 16).toInt = (u12.1 k0 16).toInt := by rw [← ev16, up1_n _ _ (Or.inl (by omega))]
    have wtv16_k0_17 : (v16.1 k0 17).toInt = (u12.1 k0 17).toInt := by rw [← ev16, up1_n _ _ (Or.inl (by omega))]
    have wtv16_k0_6 : (v16.1 k0 6).toInt = (u12.1 k0 6).toInt := by rw [← ev16, up1_n _ _ (Or.inl (by omega))]
    have wtv16_k0_7 : (v16.1 k0 7).toInt = (u12.1 k0 7).toInt := by rw [← ev16, up1_n _ _ (Or.inl (by omega))]
    have rzv16 : ∀ k j : Nat, ¬ ((k = k0 ∧ 6 ≤ j ∧ j ≤ 18 ∧ ¬ j = 12) ∨ k = k0 + 4) → v16.1 k j = v.1 k j := fun k j h => fz_u ev16 (by have cl24 : (24 : Int32).toNatClampNeg = 24 := rfl; omega) (rzu12 k j h)
    refine lv_aload_n hx hb dX8_readLineOf_79 rfl (lv_at hl 0 rfl) ?_
    refine g_StarWalkModel_draft E I h_k0.1 mw_4_175 dX8_readLineOf_80 ?_
    refine lv_bipush (v := 25) hx hb dX8_readLineOf_83 (by decide) ?_
    refine lv_aload_n hx hb dX8_readLineOf_85 rfl (lv_at hl 0 rfl) ?_
    refine lv_iconst (v := 0) hx hb dX8_readLineOf_86 (by decide) ?_
    refine lv_bipush (v := 9) hx hb dX8_readLineOf_87 (by decide) ?_
    refine cVi E I (c_X8_readNumber l w g v16 k0 (0 : Int32) (9 : Int32) E.2.2.1 I.2.2 h_k0  ) (cwV 2 E.1.2.2.2.2 (gWs (C := "StarWalkModel") mw_5_80 mw_5_82 mw_s_37 mw_1_9 mw_5_83) rfl rfl rfl (by decide +kernel) ⟨by decide, by decide⟩) h_k0.1.1 ((ce_o h_k0.1.2).trans rfl) rfl rfl hl.1 rfl (Nat.le_of_ble_eq_true rfl) dX8_readLineOf_89 ⟨Nat.le_refl _, Nat.le_refl _⟩ (fun r17 u18 H lo hp hPS => ?_)
    have iz19 : (0 : Int32).toInt = 0 := rfl
    have iz20 : (9 : Int32).toInt = 9 := rfl
    obtain ⟨hp, hex, hfr⟩ := hp
    replace hF := xm_i hex hF
    obtain ⟨hwf, p21⟩ := hp
    have I : Wo w g s.heap u18 H lo := ⟨hPS.1, hPS.2, hwf⟩
    have wtu18_k0_6 : (u18.1 k0 6).toInt = (v16.1 k0 6).toInt := congrArg Int32.toInt (p21.1 k0 6 (by omega))
    have wtu18_k0_7 : (u18.1 k0 7).toInt = (v16.1 k0 7).toInt := congrArg Int32.toInt (p21.1 k0 7 (by omega))
    have p21_0 := p21.2.1
    have p21_1 := p21.2.2.1
    have p21_2 := p21.2.2.2
    have rzu18 : ∀ k j : Nat, ¬ ((k = k0 ∧ 6 ≤ j ∧ j ≤ 18 ∧ ¬ j = 12) ∨ k = k0 + 4) → u18.1 k j = v.1 k j := fun k j h => (hfr k j (fun z => h (by omega))).trans (rzv16 k j h)
    refine pa_33 E I h_k0.2.2.2.2.1 (by decide) (by have ci : (25 : Int32).toNatClampNeg = 25 := rfl; rw [ci]; simp only [okk]; omega) dX8_readLineOf_92 (fun H lo I => ?_)
    generalize ev22 : up1 u18 (k0 + 4) (25 : Int32).toNatClampNeg r17 = v22 at I
    replace hF := xl_i (ev22.symm) hF
    have wtv22_k0_13 : (v22.1 k0 13).toInt = (u18.1 k0 13).toInt := by rw [← ev22, up1_n _ _ (Or.inl (by omega))]
    have wtv22_k0_15 : (v22.1 k0 15).toInt = (u18.1 k0 15).toInt := by rw [← ev22, up1_n _ _ (Or.inl (by omega))]
    have wtv22_k0_16 : (v22.1 k0 16).toInt = (u18.1 k0 16).toInt := by rw [← ev22, up1_n _ _ (Or.inl (by omega))]
    have wtv22_k0_17 : (v22.1 k0 17).toInt = (u18.1 k0 17).toInt := by rw [← ev22, up1_n _ _ (Or.inl (by omega))]
    have wtv22_k0_6 : (v22.1 k0 6).toInt = (u18.1 k0 6).toInt := by rw [← ev22, up1_n _ _ (Or.inl (by omega))]
    have wtv22_k0_7 : (v22.1 k0 7).toInt = (u18.1 k0 7).toInt := by rw [← ev22, up1_n _ _ (Or.inl (by omega))]
    have rzv22 : ∀ k j : Nat, ¬ ((k = k0 ∧ 6 ≤ j ∧ j ≤ 18 ∧ ¬ j = 12) ∨ k = k0 + 4) → v22.1 k j = v.1 k j := fun k j h => fz_u ev22 (by have cl25 : (25 : Int32).toNatClampNeg = 25 := rfl; omega) (rzu18 k j h)
    refine lv_goto (tgt := 160) hx hb dX8_readLineOf_93 (by decide) ?_
    exact rV E I hr hlk (by rw [← hpost]; exact ⟨⟨I.2.2, by omega, by omega⟩, hF.trans hres, rzv22⟩) dX8_readLineOf_160
  replace hF := if_f c10 hF
  by_cases c23 : a0.toInt = 8
  ·
    replace hF := if_t c23 hF
    refine lv_tableIn hx hb dX8_readLineOf_1 (by omega) (by omega) (by rw [c23]; rfl) (tgt := 96) (by decide) ?_
    refine lv_aload_n hx hb dX8_readLineOf_96 rfl (lv_at hl 0 rfl) ?_
    refine g_StarWalkModel_draft E I h_k0.1 mw_4_175 dX8_readLineOf_97 ?_
    refine lv_bipush (v := 26) hx hb dX8_readLineOf_100 (by decide) ?_
    refine lv_aload_n hx hb dX8_readLineOf_102 rfl (lv_at hl 0 rfl) ?_
    refine lv_iconst (v := 0) hx hb dX8_readLineOf_103 (by decide) ?_
    refine lv_bipush (v := 10) hx hb dX8_readLineOf_104 (by decide) ?_
    refine cVi E I (c_X8_readNumber l w g v k0 (0 : Int32) (10 : Int32) E.2.2.1 I.2.2 h_k0  ) (cwV 2 E.1.2.2.2.2 (gWs (C := "StarWalkModel") mw_5_80 mw_5_82 mw_s_37 mw_1_9 mw_5_83) rfl rfl rfl (by decide +kernel) ⟨by decide, by decide⟩) h_k0.1.1 ((ce_o h_k0.1.2).trans rfl) rfl rfl hl.1 rfl (Nat.le_of_ble_eq_true rfl) dX8_readLineOf_106 ⟨Nat.le_refl _, Nat.le_refl _⟩ (fun r24 u25 H lo hp hPS => ?_)
    have iz26 : (0 : Int32).toInt = 0 := rfl
    have iz27 : (10 : Int32).toInt = 10 := rfl
    obtain ⟨hp, hex, hfr⟩ := hp
    replace hF := xm_i hex hF
    obtain ⟨hwf, p28⟩ := hp
    have I : Wo w g s.heap u25 H lo := ⟨hPS.1, hPS.2, hwf⟩
    have wtu25_k0_6 : (u25.1 k0 6).toInt = (v.1 k0 6).toInt := congrArg Int32.toInt (p28.1 k0 6 (by omega))
    have wtu25_k0_7 : (u25.1 k0 7).toInt = (v.1 k0 7).toInt := congrArg Int32.toInt (p28.1 k0 7 (by omega))
    have p28_0 := p28.2.1
    have p28_1 := p28.2.2.1
    have p28_2 := p28.2.2.2
    have rzu25 : ∀ k j : Nat, ¬ ((k = k0 ∧ 6 ≤ j ∧ j ≤ 18 ∧ ¬ j = 12) ∨ k = k0 + 4) → u25.1 k j = v.1 k j := fun k j h => (hfr k j (fun z => h (by omega))).trans (rz0 k j h)
    refine pa_33 E I h_k0.2.2.2.2.1 (by decide) (by have ci : (26 : Int32).toNatClampNeg = 26 := rfl; rw [ci]; simp only [okk]; omega) dX8_readLineOf_109 (fun H lo I => ?_)
    generalize ev29 : up1 u25 (k0 + 4) (26 : Int32).toNatClampNeg r24 = v29 at I
    replace hF := xl_i (ev29.symm) hF
    have wtv29_k0_13 : (v29.1 k0 13).toInt = (u25.1 k0 13).toInt := by rw [← ev29, up1_n _ _ (Or.inl (by omega))]
    have wtv29_k0_15 : (v29.1 k0 15).toInt = (u25.1 k0 15).toInt := by rw [← ev29, up1_n _ _ (Or.inl (by omega))]
    have wtv29_k0_16 : (v29.1 k0 16).toInt = (u25.1 k0 16).toInt := by rw [← ev29, up1_n _ _ (Or.inl (by omega))]
    have wtv29_k0_17 : (v29.1 k0 17).toInt = (u25.1 k0 17).toInt := by rw [← ev29, up1_n _ _ (Or.inl (by omega))]
    have wtv29_k0_6 : (v29.1 k0 6).toInt = (u25.1 k0 6).toInt := by rw [← ev29, up1_n _ _ (Or.inl (by omega))]
    have wtv29_k0_7 : (v29.1 k0 7).toInt = (u25.1 k0 7).toInt := by rw [← ev29, up1_n _ _ (Or.inl (by omega))]
    have rzv29 : ∀ k j : Nat, ¬ ((k = k0 ∧ 6 ≤ j ∧ j ≤ 18 ∧ ¬ j = 12) ∨ k = k0 + 4) → v29.1 k j = v.1 k j := fun k j h => fz_u ev29 (by have cl26 : (26 : Int32).toNatClampNeg = 26 := rfl; omega) (rzu25 k j h)
    refine lv_goto (tgt := 160) hx hb dX8_readLineOf_110 (by decide) ?_
    exact rV E I hr hlk (by rw [← hpost]; exact ⟨⟨I.2.2, by omega, by omega⟩, hF.trans hres, rzv29⟩) dX8_readLineOf_160
  replace hF := if_f c23 hF
  by_cases c30 : a0.toInt = 9
  ·
    replace hF := if_t c30 hF
    refine lv_tableIn hx hb dX8_readLineOf_1 (by omega) (by omega) (by rw [c30]; rfl) (tgt := 113) (by decide) ?_
    refine lv_aload_n hx hb dX8_readLineOf_113 rfl (lv_at hl 0 rfl) ?_
    refine g_StarWalkModel_draft E I h_k0.1 mw_4_175 dX8_readLineOf_114 ?_
    refine lv_bipush (v := 27) hx hb dX8_readLineOf_117 (by decide) ?_
    refine lv_aload_n hx hb dX8_readLineOf_119 rfl (lv_at hl 0 rfl) ?_
    refine lv_iconst (v := 0) hx hb dX8_readLineOf_120 (by decide) ?_
    refine lv_bipush (v := 99) hx hb dX8_readLineOf_121 (by decide) ?_
    refine cVi E I (c_X8_readNumber l w g v k0 (0 : Int32) (99 : Int32) E.2.2.1 I.2.2 h_k0  ) (cwV 2 E.1.2.2.2.2 (gWs (C := "StarWalkModel") mw_5_80 mw_5_82 mw_s_37 mw_1_9 mw_5_83) rfl rfl rfl (by decide +kernel) ⟨by decide, by decide⟩) h_k0.1.1 ((ce_o h_k0.1.2).trans rfl) rfl rfl hl.1 rfl (Nat.le_of_ble_eq_true rfl) dX8_readLineOf_123 ⟨Nat.le_refl _, Nat.le_refl _⟩ (fun r31 u32 H lo hp hPS => ?_)
    have iz33 : (0 : Int32).toInt = 0 := rfl
    have iz34 : (99 : Int32).toInt = 99 := rfl
    obtain ⟨hp, hex, hfr⟩ := hp
    replace hF := xm_i hex hF
    obtain ⟨hwf, p35⟩ := hp
    have I : Wo w g s.heap u32 H lo := ⟨hPS.1, hPS.2, hwf⟩
    have wtu32_k0_6 : (u32.1 k0 6).toInt = (v.1 k0 6).toInt := congrArg Int32.toInt (p35.1 k0 6 (by omega))
    have wtu32_k0_7 : (u32.1 k0 7).toInt = (v.1 k0 7).toInt := congrArg Int32.toInt (p35.1 k0 7 (by omega))
    have p35_0 := p35.2.1
    have p35_1 := p35.2.2.1
    have p35_2 := p35.2.2.2
    have rzu32 : ∀ k j : Nat, ¬ ((k = k0 ∧ 6 ≤ j ∧ j ≤ 18 ∧ ¬ j = 12) ∨ k = k0 + 4) → u32.1 k j = v.1 k j := fun k j h => (hfr k j (fun z => h (by omega))).trans (rz0 k j h)
    refine pa_33 E I h_k0.2.2.2.2.1 (by decide) (by have ci : (27 : Int32).toNatClampNeg = 27 := rfl; rw [ci]; simp only [okk]; omega) dX8_readLineOf_126 (fun H lo I => ?_)
    generalize ev36 : up1 u32 (k0 + 4) (27 : Int32).toNatClampNeg r31 = v36 at I
    replace hF := xl_i (ev36.symm) hF
    have wtv36_k0_13 : (v36.1 k0 13).toInt = (u32.1 k0 13).toInt := by rw [← ev36, up1_n _ _ (Or.inl (by omega))]
    have wtv36_k0_15 : (v36.1 k0 15).toInt = (u32.1 k0 15).toInt := by rw [← ev36, up1_n _ _ (Or.inl (by omega))]
    have wtv36_k0_16 : (v36.1 k0 16).toInt = (u32.1 k0 16).toInt := by rw [← ev36, up1_n _ _ (Or.inl (by omega))]
    have wtv36_k0_17 : (v36.1 k0 17).toInt = (u32.1 k0 17).toInt := by rw [← ev36, up1_n _ _ (Or.inl (by omega))]
    have wtv36_k0_6 : (v36.1 k0 6).toInt = (u32.1 k0 6).toInt := by rw [← ev36, up1_n _ _ (Or.inl (by omega))]
    have wtv36_k0_7 : (v36.1 k0 7).toInt = (u32.1 k0 7).toInt := by rw [← ev36, up1_n _ _ (Or.inl (by omega))]
    have rzv36 : ∀ k j : Nat, ¬ ((k = k0 ∧ 6 ≤ j ∧ j ≤ 18 ∧ ¬ j = 12) ∨ k = k0 + 4) → v36.1 k j = v.1 k j := fun k j h => fz_u ev36 (by have cl27 : (27 : Int32).toNatClampNeg = 27 := rfl; omega) (rzu32 k j h)
    refine lv_goto (tgt := 160) hx hb dX8_readLineOf_127 (by decide) ?_
    exact rV E I hr hlk (by rw [← hpost]; exact ⟨⟨I.2.2, by omega, by omega⟩, hF.trans hres, rzv36⟩) dX8_readLineOf_160
  replace hF := if_f c30 hF
  by_cases c37 : a0.toInt = 10
  ·
    replace hF := if_t c37 hF
    refine lv_tableIn hx hb dX8_readLineOf_1 (by omega) (by omega) (by rw [c37]; rfl) (tgt := 130) (by decide) ?_
    refine lv_aload_n hx hb dX8_readLineOf_130 rfl (lv_at hl 0 rfl) ?_
    refine cVv E I (c_X8_readPlan l w g v k0 E.2.2.1 I.2.2 h_k0  ) (cwV 0 E.1.2.2.2.2 (gWs (C := "StarWalkModel") mw_5_96 mw_5_98 mw_s_41 mw_1_9 mw_5_99) rfl rfl rfl (by decide +kernel) ⟨by decide, by decide⟩) h_k0.1.1 ((ce_o h_k0.1.2).trans rfl) rfl rfl hl.1 rfl (Nat.le_of_ble_eq_true rfl) dX8_readLineOf_131 ⟨Nat.le_refl _, Nat.le_refl _⟩ (fun u38 H lo hp hPS => ?_)
    obtain ⟨hp, hex, hfr⟩ := hp
    replace hF := xl_i hex hF
    obtain ⟨hwf, p39⟩ := hp
    have I : Wo w g s.heap u38 H lo := ⟨hPS.1, hPS.2, hwf⟩
    have p39_0 := p39.1
    have p39_1 := p39.2
    have rzu38 : ∀ k j : Nat, ¬ ((k = k0 ∧ 6 ≤ j ∧ j ≤ 18 ∧ ¬ j = 12) ∨ k = k0 + 4) → u38.1 k j = v.1 k j := fun k j h => (hfr k j (fun z => h (by rcases z with z | z <;> omega))).trans (rz0 k j h)
    refine lv_goto (tgt := 160) hx hb dX8_readLineOf_134 (by decide) ?_
    exact rV E I hr hlk (by rw [← hpost]; exact ⟨⟨I.2.2, by omega, by omega⟩, hF.trans hres, rzu38⟩) dX8_readLineOf_160
  replace hF := if_f c37 hF
  refine lv_tableOut hx hb dX8_readLineOf_1 (by omega) (tgt := 137) (by decide) ?_
  refine lv_aload_n hx hb dX8_readLineOf_137 rfl (lv_at hl 0 rfl) ?_
  refine g_StarWalkModel_draft E I h_k0.1 mw_4_175 dX8_readLineOf_138 ?_
  refine lv_bipush (v := 20) hx hb dX8_readLineOf_141 (by decide) ?_
  refine lv_aload_n hx hb dX8_readLineOf_143 rfl (lv_at hl 0 rfl) ?_
  refine g_StarWalkModel_dWalkers E I h_k0.1 mw_4_177 dX8_readLineOf_144 ?_
  refine lv_topi (fun x40 ex40 => ?_)
  replace hF := xl_i (ex40) hF
  have twx40 : x40.toInt = (v.1 k0 7).toInt := congrArg Int32.toInt ex40
  have hx40 := r_StarWalkModel_dWalkers I h_k0.1
  rw [← ex40] at hx40
  refine lv_iadd hx hb dX8_readLineOf_147 ?_
  refine lv_topi (fun x41 ex41 => ?_)
  replace hF := xl_i (ex41) hF
  have hx41 : x41.toInt = 20 + x40.toInt := by rw [ex41]; exact adI (a := 20) (b := x40.toInt) rfl rfl (by omega) (by omega)
  refine lv_iload_n hx hb dX8_readLineOf_148 rfl (lv_at hl 1 rfl) ?_
  refine pa_33 E I h_k0.2.2.2.2.1 (by omega) (by have ci := cnI (x := x41) (by omega); simp only [okk]; omega) dX8_readLineOf_149 (fun H lo I => ?_)
  generalize ev42 : up1 v (k0 + 4) x41.toNatClampNeg a0 = v42 at I
  replace hF := xl_i (ev42.symm) hF
  have wtv42_k0_13 : (v42.1 k0 13).toInt = (v.1 k0 13).toInt := by rw [← ev42, up1_n _ _ (Or.inl (by omega))]
  have wtv42_k0_15 : (v42.1 k0 15).toInt = (v.1 k0 15).toInt := by rw [← ev42, up1_n _ _ (Or.inl (by omega))]
  have wtv42_k0_16 : (v42.1 k0 16).toInt = (v.1 k0 16).toInt := by rw [← ev42, up1_n _ _ (Or.inl (by omega))]
  have wtv42_k0_17 : (v42.1 k0 17).toInt = (v.1 k0 17).toInt := by rw [← ev42, up1_n _ _ (Or.inl (by omega))]
  have wtv42_k0_6 : (v42.1 k0 6).toInt = (v.1 k0 6).toInt := by rw [← ev42, up1_n _ _ (Or.inl (by omega))]
  have wtv42_k0_7 : (v42.1 k0 7).toInt = (v.1 k0 7).toInt := by rw [← ev42, up1_n _ _ (Or.inl (by omega))]
  have rzv42 : ∀ k j : Nat, ¬ ((k = k0 ∧ 6 ≤ j ∧ j ≤ 18 ∧ ¬ j = 12) ∨ k = k0 + 4) → v42.1 k j = v.1 k j := fun k j h => fz_u ev42 (by have czx41 := cnI (x := x41) (by omega); omega) (rz0 k j h)
  refine lv_aload_n hx hb dX8_readLineOf_150 rfl (lv_at hl 0 rfl) ?_
  refine lv_dup hx hb dX8_readLineOf_151 rfl ?_
  refine g_StarWalkModel_dWalkers E I h_k0.1 mw_4_177 dX8_readLineOf_152 ?_
  refine lv_topi (fun x43 ex43 => ?_)
  replace hF := xl_i (ex43) hF
  have twx43 : x43.toInt = (v42.1 k0 7).toInt := congrArg Int32.toInt ex43
  have hx43 := r_StarWalkModel_dWalkers I h_k0.1
  rw [← ex43] at hx43
  refine lv_iconst (v := 1) hx hb dX8_readLineOf_155 (by decide) ?_
  refine lv_iadd hx hb dX8_readLineOf_156 ?_
  refine lv_topi (fun x44 ex44 => ?_)
  replace hF := xl_i (ex44) hF
  have hx44 : x44.toInt = x43.toInt + 1 := by rw [ex44]; exact adI (a := x43.toInt) (b := 1) rfl rfl (by omega) (by omega)
  refine p_StarWalkModel_dWalkers E I h_k0.1 mw_4_177 (by omega) dX8_readLineOf_157 (fun H lo I => ?_)
  generalize ev45 : up1 v42 k0 7 x44 = v45 at I
  replace hF := xl_i (ev45.symm) hF
  have wtv45_k0_13 : (v45.1 k0 13).toInt = (v42.1 k0 13).toInt := by rw [← ev45, up1_n _ _ (Or.inr (by decide))]
  have wtv45_k0_15 : (v45.1 k0 15).toInt = (v42.1 k0 15).toInt := by rw [← ev45, up1_n _ _ (Or.inr (by decide))]
  have wtv45_k0_16 : (v45.1 k0 16).toInt = (v42.1 k0 16).toInt := by rw [← ev45, up1_n _ _ (Or.inr (by decide))]
  have wtv45_k0_17 : (v45.1 k0 17).toInt = (v42.1 k0 17).toInt := by rw [← ev45, up1_n _ _ (Or.inr (by decide))]
  have wtv45_k0_6 : (v45.1 k0 6).toInt = (v42.1 k0 6).toInt := by rw [← ev45, up1_n _ _ (Or.inr (by decide))]
  have wtv45_k0_7 : (v45.1 k0 7).toInt = x44.toInt := by rw [← ev45]; exact congrArg Int32.toInt (up1_s _ k0 7 x44)
  have rzv45 : ∀ k j : Nat, ¬ ((k = k0 ∧ 6 ≤ j ∧ j ≤ 18 ∧ ¬ j = 12) ∨ k = k0 + 4) → v45.1 k j = v.1 k j := fun k j h => fz_u ev45 (by omega) (rzv42 k j h)
  exact rV E I hr hlk (by rw [← hpost]; exact ⟨⟨I.2.2, by omega, by omega⟩, hF.trans hres, rzv45⟩) dX8_readLineOf_160
def F_X8_readLine (k0 : Nat) (v : St) : St :=
xl (fun (v_166 : St) =>
xl (F_X8_next1 k0 v_166) fun u1 =>
u1) fun J_166 =>
xl (fun (z162_1 : Int32) (v_162 : St) =>
xl (F_X8_needs k0 z162_1 (2 : Int32) v_162) fun u3 =>
(J_166 u3)) fun J_162 =>
xl (fun (y124_1 : Int32) (v_124 : St) =>
xl (F_X8_next1 k0 v_124) fun u5 =>
xl (u5.1 k0 17) fun x7 =>
if 0 < x7.toInt then (
u5) else (
xl (F_X8_readLineOf k0 y124_1 u5) fun u9 =>
xl (u9.1 k0 17) fun x11 =>
if x11.toInt = 0 then (
xl (u9.1 k0 15) fun x13 =>
if x13.toInt = 3 then (
(J_162 (1 : Int32) u9)) else (
(J_162 (0 : Int32) u9))) else (
(J_166 u9)))) fun J_124 =>
xl (fun (y108_1 : Int32) (z108_1 : Int32) (v_108 : St) =>
xl (F_X8_needs k0 z108_1 (4 : Int32) v_108) fun u15 =>
xl (u15.1 k0 9) fun x17 =>
xl ((1 : Int32) <<< (y108_1 &&& 31)) fun x18 =>
xl (x17 ||| x18) fun x19 =>
xl (up1 u15 k0 9 x19) fun v20 =>
(J_124 y108_1 v20)) fun J_108 =>
xl (fun (y74_1 : Int32) (z74_1 : Int32) (v_74 : St) =>
xl (F_X8_needs k0 z74_1 (5 : Int32) v_74) fun u21 =>
xl (u21.1 k0 17) fun x23 =>
if x23.toInt = 0 then (
if y74_1.toInt < 7 then (
(J_124 y74_1 u21)) else (
xl (u21.1 k0 9) fun x26 =>
xl (x26 >>> (y74_1 &&& 31)) fun x27 =>
xl (x27 &&& (1 : Int32)) fun x28 =>
if x28.toInt = 0 then (
(J_108 y74_1 (1 : Int32) u21)) else (
(J_108 y74_1 (0 : Int32) u21)))) else (
(J_124 y74_1 u21))) fun J_74 =>
xl (fun (y69_1 : Int32) (v_69 : St) =>
(J_74 y69_1 (1 : Int32) v_69)) fun J_69 =>
xl (fun (y30_1 : Int32) (z30_1 : Int32) =>
xl (F_X8_needs k0 z30_1 (2 : Int32) v) fun u30 =>
if y30_1.toInt = 4 then (
xl (u30.1 k0 6) fun x36 =>
if x36.toInt < 5 then (
(J_74 y30_1 (1 : Int32) u30)) else (
(J_74 y30_1 (0 : Int32) u30))) else (
if 4 < y30_1.toInt then (
(J_69 y30_1 u30)) else (
xl (u30.1 k0 7) fun x34 =>
if x34.toInt < 3 then (
(J_69 y30_1 u30)) else (
(J_74 y30_1 (0 : Int32) u30))))) fun J_30 =>
xl (fun (z17_0 : Int32) =>
if z17_0.toInt = (-4) then (
(J_30 z17_0 (0 : Int32))) else (
(J_30 z17_0 (1 : Int32)))) fun J_17 =>
xl (v.1 k0 15) fun x39 =>
if x39.toInt = 1 then (
xl (F_X8_lineNow k0 v) fun r41 =>
(J_17 r41)) else (
(J_17 (-4 : Int32)))
set_option maxHeartbeats 4000000 in
set_option maxRecDepth 100000 in
theorem c_X8_readLine (l : Launch) (w : Wp) (g : Nat → Nat → Int32) (v : St) (k0 : Nat) (hq : Inj w) (hw : WF (wk w) g v) (h_k0 : oM w k0) : CTv w l yX8_readLine (wsy yX8_readLine prog_10_method_22_code 2 none) (rmL 7) [.ref (wq w k0)] v (fun (u : St) => (WF (wk w) g u ∧ (v.1 k0 13).toInt ≤ (u.1 k0 13).toInt ∧ ((u.1 k0 17).toInt = 0 → (v.1 k0 17).toInt = 0) ∧ ((u.1 k0 17).toInt = 0 → ¬ (u.1 k0 15).toInt = 0 → (v.1 k0 13).toInt < (u.1 k0 13).toInt)) ∧ (u = F_X8_readLine k0 v) ∧ (∀ k j : Nat, ¬ ((k = k0 ∧ 6 ≤ j ∧ j ≤ 18 ∧ ¬ j = 12) ∨ k = k0 + 4) → u.1 k j = v.1 k j)) := by
  generalize hpost : (fun (u : St) => (WF (wk w) g u ∧ (v.1 k0 13).toInt ≤ (u.1 k0 13).toInt ∧ ((u.1 k0 17).toInt = 0 → (v.1 k0 17).toInt = 0) ∧ ((u.1 k0 17).toInt = 0 → ¬ (u.1 k0 15).toInt = 0 → (v.1 k0 13).toInt < (u.1 k0 13).toInt)) ∧ (u = F_X8_readLine k0 v) ∧ (∀ k j : Nat, ¬ ((k = k0 ∧ 6 ≤ j ∧ j ≤ 18 ∧ ¬ j = 12) ∨ k = k0 + 4) → u.1 k j = v.1 k j)) = post
  refine CTv.of prog_10_method_22_code 2 none "StarWalkModel" (by decide +kernel) rfl hq hw (Nat.le_of_ble_eq_true rfl) ?_
  intro pg en s m ar bl me cd ls E I hr hlk hl
  have hx := E.1.1
  have hb := E.1.2.1
  have hl : lv_has ls 2 [(0, .ref (wq w k0))] := hl
  obtain ⟨res, hres⟩ : ∃ z, z = F_X8_readLine k0 v := ⟨_, rfl⟩
  have hF := hres.symm
  unfold F_X8_readLine at hF
  replace hres : res = F_X8_readLine k0 v := hres
  have rz0 : ∀ k j : Nat, ¬ ((k = k0 ∧ 6 ≤ j ∧ j ≤ 18 ∧ ¬ j = 12) ∨ k = k0 + 4) → v.1 k j = v.1 k j := fun _ _ _ => rfl
  obtain ⟨J_166, eJ_166, hF⟩ := xl_e hF
  have B_166 : ∀ (H : Heap) (lo : List Loc) (v_166 : St), Wo w g s.heap v_166 H lo → (∀ k j : Nat, ¬ ((k = k0 ∧ 6 ≤ j ∧ j ≤ 18 ∧ ¬ j = 12) ∨ k = k0 + 4) → v_166.1 k j = v.1 k j) → ((v.1 k0 13).toInt ≤ (v_166.1 k0 13).toInt ∧ ((v_166.1 k0 17).toInt = 0 → (v.1 k0 17).toInt = 0)) → (J_166 v_166 = res) → ∀ (ls : Array Slot), lv_has ls 2 [(0, .ref (wq w k0))] → W pg l en (rmL 7) s m ar bl me cd H lo 0 0 (Zv w bl ar s post) (F0 m 166 ls []) := by
    intro H lo v_166 I  rB166_Z hV166_1 hF ls hl
    replace hF := ap1 eJ_166 hF
    refine lv_aload_n hx hb dX8_readLine_166 rfl (lv_at hl 0 rfl) ?_
    refine cVv E I (c_X8_next1 l w g v_166 k0 E.2.2.1 I.2.2 h_k0  ) (cwV 0 E.1.2.2.2.2 (gWs (C := "StarWalkModel") mw_5_40 mw_5_42 mw_s_28 mw_1_9 mw_5_43) rfl rfl rfl (by decide +kernel) ⟨by decide, by decide⟩) h_k0.1.1 ((ce_o h_k0.1.2).trans rfl) rfl rfl hl.1 rfl (Nat.le_of_ble_eq_true rfl) dX8_readLine_167 ⟨Nat.le_refl _, Nat.le_refl _⟩ (fun u1 H lo hp hPS => ?_)
    obtain ⟨hp, hex, hfr⟩ := hp
    replace hF := xl_i hex hF
    obtain ⟨hwf, p2⟩ := hp
    have I : Wo w g s.heap u1 H lo := ⟨hPS.1, hPS.2, hwf⟩
    have wtu1_k0_6 : (u1.1 k0 6).toInt = (v_166.1 k0 6).toInt := congrArg Int32.toInt (p2.1 k0 6 (by omega))
    have wtu1_k0_7 : (u1.1 k0 7).toInt = (v_166.1 k0 7).toInt := congrArg Int32.toInt (p2.1 k0 7 (by omega))
    have p2_0 := p2.2.1
    have p2_1 := p2.2.2.1
    have p2_2 := p2.2.2.2
    have rzu1 : ∀ k j : Nat, ¬ ((k = k0 ∧ 6 ≤ j ∧ j ≤ 18 ∧ ¬ j = 12) ∨ k = k0 + 4) → u1.1 k j = v.1 k j := fun k j h => (hfr k j (fun z => h (by omega))).trans (rB166_Z k j h)
    exact rV E I hr hlk (by rw [← hpost]; exact ⟨⟨I.2.2, by omega, by omega, by omega⟩, hF.trans hres, rzu1⟩) dX8_readLine_170
  obtain ⟨J_162, eJ_162, hF⟩ := xl_e hF
  have B_162 : ∀ (H : Heap) (lo : List Loc) (v_162 : St), Wo w g s.heap v_162 H lo → ∀ (z162_1 : Int32), (0 ≤ z162_1.toInt ∧ z162_1.toInt ≤ 1) → (∀ k j : Nat, ¬ ((k = k0 ∧ 6 ≤ j ∧ j ≤ 18 ∧ ¬ j = 12) ∨ k = k0 + 4) → v_162.1 k j = v.1 k j) → ((v.1 k0 13).toInt ≤ (v_162.1 k0 13).toInt ∧ ((v_162.1 k0 17).toInt = 0 → (v.1 k0 17).toInt = 0)) → (J_162 z162_1 v_162 = res) → ∀ (ls : Array Slot), lv_has ls 2 [(0, .ref (wq w k0))] → W pg l en (rmL 7) s m ar bl me cd H lo 0 0 (Zv w bl ar s post) (F0 m 162 ls [.int z162_1, .ref (wq w k0)]) := by
    intro H lo v_162 I z162_1 hz162_1 rB162_Z hV162_2 hF ls hl
    replace hF := ap2 eJ_162 hF
    refine lv_iconst (v := 2) hx hb dX8_readLine_162 (by decide) ?_
    refine cVv E I (c_X8_needs l w g v_162 k0 z162_1 (2 : Int32) E.2.2.1 I.2.2 h_k0 (by decide) ) (cwV 2 E.1.2.2.2.2 (gWs (C := "StarWalkModel") mw_5_52 mw_5_54 mw_s_30 mw_1_9 mw_5_55) rfl rfl rfl (by decide +kernel) ⟨by decide, by decide⟩) h_k0.1.1 ((ce_o h_k0.1.2).trans rfl) rfl rfl hl.1 rfl (Nat.le_of_ble_eq_true rfl) dX8_readLine_163 ⟨Nat.le_refl _, Nat.le_refl _⟩ (fun u3 H lo hp hPS => ?_)
    obtain ⟨hp, hex, hfr⟩ := hp
    replace hF := xl_i hex hF
    obtain ⟨hwf, p4⟩ := hp
    have I : Wo w g s.heap u3 H lo := ⟨hPS.1, hPS.2, hwf⟩
    have wtu3_k0_13 : (u3.1 k0 13).toInt = (v_162.1 k0 13).toInt := congrArg Int32.toInt (p4.1 k0 13 (by omega))
    have wtu3_k0_15 : (u3.1 k0 15).toInt = (v_162.1 k0 15).toInt := congrArg Int32.toInt (p4.1 k0 15 (by omega))
    have wtu3_k0_16 : (u3.1 k0 16).toInt = (v_162.1 k0 16).toInt := congrArg Int32.toInt (p4.1 k0 16 (by omega))
    have wtu3_k0_6 : (u3.1 k0 6).toInt = (v_162.1 k0 6).toInt := congrArg Int32.toInt (p4.1 k0 6 (by omega))
    have wtu3_k0_7 : (u3.1 k0 7).toInt = (v_162.1 k0 7).toInt := congrArg Int32.toInt (p4.1 k0 7 (by omega))
    have p4_0 := p4.2
    have rzu3 : ∀ k j : Nat, ¬ ((k = k0 ∧ 6 ≤ j ∧ j ≤ 18 ∧ ¬ j = 12) ∨ k = k0 + 4) → u3.1 k j = v.1 k j := fun k j h => (hfr k j (fun z => h (by omega))).trans (rB162_Z k j h)
    exact B_166 _ _ u3 I  rzu3 (by omega) hF ls (lv_sub hl [0] rfl)
  obtain ⟨J_124, eJ_124, hF⟩ := xl_e hF
  have B_124 : ∀ (H : Heap) (lo : List Loc) (v_124 : St), Wo w g s.heap v_124 H lo → ∀ (y124_1 : Int32), (-4 ≤ y124_1.toInt ∧ y124_1.toInt ≤ 10) → (∀ k j : Nat, ¬ ((k = k0 ∧ 6 ≤ j ∧ j ≤ 18 ∧ ¬ j = 12) ∨ k = k0 + 4) → v_124.1 k j = v.1 k j) → ((v.1 k0 13).toInt ≤ (v_124.1 k0 13).toInt ∧ ((v_124.1 k0 17).toInt = 0 → (v.1 k0 17).toInt = 0)) → ((v_124.1 k0 17).toInt = 0 → 0 ≤ y124_1.toInt ∧ (y124_1.toInt = 4 → (v_124.1 k0 6).toInt ≤ 4) ∧ (y124_1.toInt ≤ 3 → (v_124.1 k0 7).toInt ≤ 2)) → (J_124 y124_1 v_124 = res) → ∀ (ls : Array Slot), lv_has ls 2 [(0, .ref (wq w k0)), (1, .int y124_1)] → W pg l en (rmL 7) s m ar bl me cd H lo 0 0 (Zv w bl ar s post) (F0 m 124 ls []) := by
    intro H lo v_124 I y124_1 hy124_1 rB124_Z hV124_2 iv124_0 hF ls hl
    replace hF := ap2 eJ_124 hF
    refine lv_aload_n hx hb dX8_readLine_124 rfl (lv_at hl 0 rfl) ?_
    refine cVv E I (c_X8_next1 l w g v_124 k0 E.2.2.1 I.2.2 h_k0  ) (cwV 0 E.1.2.2.2.2 (gWs (C := "StarWalkModel") mw_5_40 mw_5_42 mw_s_28 mw_1_9 mw_5_43) rfl rfl rfl (by decide +kernel) ⟨by decide, by decide⟩) h_k0.1.1 ((ce_o h_k0.1.2).trans rfl) rfl rfl hl.1 rfl (Nat.le_of_ble_eq_true rfl) dX8_readLine_125 ⟨Nat.le_refl _, Nat.le_refl _⟩ (fun u5 H lo hp hPS => ?_)
    obtain ⟨hp, hex, hfr⟩ := hp
    replace hF := xl_i hex hF
    obtain ⟨hwf, p6⟩ := hp
    have I : Wo w g s.heap u5 H lo := ⟨hPS.1, hPS.2, hwf⟩
    have wtu5_k0_6 : (u5.1 k0 6).toInt = (v_124.1 k0 6).toInt := congrArg Int32.toInt (p6.1 k0 6 (by omega))
    have wtu5_k0_7 : (u5.1 k0 7).toInt = (v_124.1 k0 7).toInt := congrArg Int32.toInt (p6.1 k0 7 (by omega))
    have p6_0 := p6.2.1
    have p6_1 := p6.2.2.1
    have p6_2 := p6.2.2.2
    have rzu5 : ∀ k j : Nat, ¬ ((k = k0 ∧ 6 ≤ j ∧ j ≤ 18 ∧ ¬ j = 12) ∨ k = k0 + 4) → u5.1 k j = v.1 k j := fun k j h => (hfr k j (fun z => h (by omega))).trans (rB124_Z k j h)
    refine lv_aload_n hx hb dX8_readLine_128 rfl (lv_at hl 0 rfl) ?_
    refine g_StarWalkModel_fault E I h_k0.1 mw_4_187 dX8_readLine_129 ?_
    refine lv_topi (fun x7 ex7 => ?_)
    replace hF := xl_i (ex7) hF
    have twx7 : x7.toInt = (u5.1 k0 17).toInt := congrArg Int32.toInt ex7
    have hx7 := r_StarWalkModel_fault I h_k0.1
    rw [← ex7] at hx7
    refine bz_le E (a := x7.toInt) rfl (tgt := 136) dX8_readLine_132 (by decide) (fun c8 => ?_) (fun c8 => ?_)
    ·
      replace hF := if_l c8 hF
      refine lv_aload_n hx hb dX8_readLine_136 rfl (lv_at hl 0 rfl) ?_
      refine lv_iload_n hx hb dX8_readLine_137 rfl (lv_at hl 1 rfl) ?_
      refine cVv E I (c_X8_readLineOf l w g u5 k0 y124_1 E.2.2.1 I.2.2 h_k0 (by omega) (by omega)) (cwV 1 E.1.2.2.2.2 (gWs (C := "StarWalkModel") mw_5_72 mw_5_74 mw_s_35 mw_1_9 mw_5_75) rfl rfl rfl (by decide +kernel) ⟨by decide, by decide⟩) h_k0.1.1 ((ce_o h_k0.1.2).trans rfl) rfl rfl hl.1 rfl (Nat.le_of_ble_eq_true rfl) dX8_readLine_138 ⟨Nat.le_refl _, Nat.le_refl _⟩ (fun u9 H lo hp hPS => ?_)
      obtain ⟨hp, hex, hfr⟩ := hp
      replace hF := xl_i hex hF
      obtain ⟨hwf, p10⟩ := hp
      have I : Wo w g s.heap u9 H lo := ⟨hPS.1, hPS.2, hwf⟩
      have p10_0 := p10.1
      have p10_1 := p10.2
      have rzu9 : ∀ k j : Nat, ¬ ((k = k0 ∧ 6 ≤ j ∧ j ≤ 18 ∧ ¬ j = 12) ∨ k = k0 + 4) → u9.1 k j = v.1 k j := fun k j h => (hfr k j (fun z => h (by rcases z with z | z <;> omega))).trans (rzu5 k j h)
      refine lv_aload_n hx hb dX8_readLine_141 rfl (lv_at hl 0 rfl) ?_
      refine g_StarWalkModel_fault E I h_k0.1 mw_4_187 dX8_readLine_142 ?_
      refine lv_topi (fun x11 ex11 => ?_)
      replace hF := xl_i (ex11) hF
      have twx11 : x11.toInt = (u9.1 k0 17).toInt := congrArg Int32.toInt ex11
      have hx11 := r_StarWalkModel_fault I h_k0.1
      rw [← ex11] at hx11
      refine bz_ne E (a := x11.toInt) rfl (tgt := 166) dX8_readLine_145 (by decide) (fun c12 => ?_) (fun c12 => ?_)
      ·
        replace hF := if_f c12 hF
        exact B_166 _ _ u9 I  rzu9 (by omega) hF ls (lv_sub hl [0] rfl)
      ·
        replace hF := if_t c12 hF
        refine lv_aload_n hx hb dX8_readLine_148 rfl (lv_at hl 0 rfl) ?_
        refine lv_aload_n hx hb dX8_readLine_149 rfl (lv_at hl 0 rfl) ?_
        refine g_StarWalkModel_sort E I h_k0.1 mw_4_185 dX8_readLine_150 ?_
        refine lv_topi (fun x13 ex13 => ?_)
        replace hF := xl_i (ex13) hF
        have twx13 : x13.toInt = (u9.1 k0 15).toInt := congrArg Int32.toInt ex13
        refine lv_iconst (v := 3) hx hb dX8_readLine_153 (by decide) ?_
        refine bi_ne E (a := x13.toInt) (b := 3) rfl rfl (tgt := 161) dX8_readLine_154 (by decide) (fun c14 => ?_) (fun c14 => ?_)
        ·
          replace hF := if_f c14 hF
          refine lv_iconst (v := 0) hx hb dX8_readLine_161 (by decide) ?_
          exact B_162 _ _ u9 I (0 : Int32) (by decide) rzu9 (by omega) hF ls (lv_sub hl [0] rfl)
        ·
          replace hF := if_t c14 hF
          refine lv_iconst (v := 1) hx hb dX8_readLine_157 (by decide) ?_
          refine lv_goto (tgt := 162) hx hb dX8_readLine_158 (by decide) ?_
          exact B_162 _ _ u9 I (1 : Int32) (by decide) rzu9 (by omega) hF ls (lv_sub hl [0] rfl)
    ·
      replace hF := if_t c8 hF
      exact rV E I hr hlk (by rw [← hpost]; exact ⟨⟨I.2.2, by omega, by omega, by omega⟩, hF.trans hres, rzu5⟩) dX8_readLine_135
  obtain ⟨J_108, eJ_108, hF⟩ := xl_e hF
  have B_108 : ∀ (H : Heap) (lo : List Loc) (v_108 : St), Wo w g s.heap v_108 H lo → ∀ (y108_1 : Int32) (z108_1 : Int32), (7 ≤ y108_1.toInt ∧ y108_1.toInt ≤ 10) → (0 ≤ z108_1.toInt ∧ z108_1.toInt ≤ 1) → (∀ k j : Nat, ¬ ((k = k0 ∧ 6 ≤ j ∧ j ≤ 18 ∧ ¬ j = 12) ∨ k = k0 + 4) → v_108.1 k j = v.1 k j) → ((v.1 k0 13).toInt ≤ (v_108.1 k0 13).toInt ∧ ((v_108.1 k0 17).toInt = 0 → (v.1 k0 17).toInt = 0)) → ((v_108.1 k0 17).toInt = 0 → 0 ≤ y108_1.toInt ∧ (y108_1.toInt = 4 → (v_108.1 k0 6).toInt ≤ 4) ∧ (y108_1.toInt ≤ 3 → (v_108.1 k0 7).toInt ≤ 2)) → (J_108 y108_1 z108_1 v_108 = res) → ∀ (ls : Array Slot), lv_has ls 2 [(0, .ref (wq w k0)), (1, .int y108_1)] → W pg l en (rmL 7) s m ar bl me cd H lo 0 0 (Zv w bl ar s post) (F0 m 108 ls [.int z108_1, .ref (wq w k0)]) := by
    intro H lo v_108 I y108_1 z108_1 hy108_1 hz108_1 rB108_Z hV108_3 iv108_0 hF ls hl
    replace hF := ap3 eJ_108 hF
    refine lv_iconst (v := 4) hx hb dX8_readLine_108 (by decide) ?_
    refine cVv E I (c_X8_needs l w g v_108 k0 z108_1 (4 : Int32) E.2.2.1 I.2.2 h_k0 (by decide) ) (cwV 2 E.1.2.2.2.2 (gWs (C := "StarWalkModel") mw_5_52 mw_5_54 mw_s_30 mw_1_9 mw_5_55) rfl rfl rfl (by decide +kernel) ⟨by decide, by decide⟩) h_k0.1.1 ((ce_o h_k0.1.2).trans rfl) rfl rfl hl.1 rfl (Nat.le_of_ble_eq_true rfl) dX8_readLine_109 ⟨Nat.le_refl _, Nat.le_refl _⟩ (fun u15 H lo hp hPS => ?_)
    obtain ⟨hp, hex, hfr⟩ := hp
    replace hF := xl_i hex hF
    obtain ⟨hwf, p16⟩ := hp
    have I : Wo w g s.heap u15 H lo := ⟨hPS.1, hPS.2, hwf⟩
    have wtu15_k0_13 : (u15.1 k0 13).toInt = (v_108.1 k0 13).toInt := congrArg Int32.toInt (p16.1 k0 13 (by omega))
    have wtu15_k0_15 : (u15.1 k0 15).toInt = (v_108.1 k0 15).toInt := congrArg Int32.toInt (p16.1 k0 15 (by omega))
    have wtu15_k0_16 : (u15.1 k0 16).toInt = (v_108.1 k0 16).toInt := congrArg Int32.toInt (p16.1 k0 16 (by omega))
    have wtu15_k0_6 : (u15.1 k0 6).toInt = (v_108.1 k0 6).toInt := congrArg Int32.toInt (p16.1 k0 6 (by omega))
    have wtu15_k0_7 : (u15.1 k0 7).toInt = (v_108.1 k0 7).toInt := congrArg Int32.toInt (p16.1 k0 7 (by omega))
    have p16_0 := p16.2
    have rzu15 : ∀ k j : Nat, ¬ ((k = k0 ∧ 6 ≤ j ∧ j ≤ 18 ∧ ¬ j = 12) ∨ k = k0 + 4) → u15.1 k j = v.1 k j := fun k j h => (hfr k j (fun z => h (by omega))).trans (rB108_Z k j h)
    refine lv_aload_n hx hb dX8_readLine_112 rfl (lv_at hl 0 rfl) ?_
    refine lv_dup hx hb dX8_readLine_113 rfl ?_
    refine g_StarWalkModel_toldLines E I h_k0.1 mw_4_179 dX8_readLine_114 ?_
    refine lv_topi (fun x17 ex17 => ?_)
    replace hF := xl_i (ex17) hF
    refine lv_iconst (v := 1) hx hb dX8_readLine_117 (by decide) ?_
    refine lv_iload_n hx hb dX8_readLine_118 rfl (lv_at hl 1 rfl) ?_
    refine lv_ishl hx hb dX8_readLine_119 ?_
    refine lv_topi (fun x18 ex18 => ?_)
    replace hF := xl_i (ex18) hF
    refine lv_ior hx hb dX8_readLine_120 ?_
    refine lv_topi (fun x19 ex19 => ?_)
    replace hF := xl_i (ex19) hF
    refine p_StarWalkModel_toldLines E I h_k0.1 mw_4_179 dX8_readLine_121 (fun H lo I => ?_)
    generalize ev20 : up1 u15 k0 9 x19 = v20 at I
    replace hF := xl_i (ev20.symm) hF
    have wtv20_k0_13 : (v20.1 k0 13).toInt = (u15.1 k0 13).toInt := by rw [← ev20, up1_n _ _ (Or.inr (by decide))]
    have wtv20_k0_15 : (v20.1 k0 15).toInt = (u15.1 k0 15).toInt := by rw [← ev20, up1_n _ _ (Or.inr (by decide))]
    have wtv20_k0_16 : (v20.1 k0 16).toInt = (u15.1 k0 16).toInt := by rw [← ev20, up1_n _ _ (Or.inr (by decide))]
    have wtv20_k0_17 : (v20.1 k0 17).toInt = (u15.1 k0 17).toInt := by rw [← ev20, up1_n _ _ (Or.inr (by decide))]
    have wtv20_k0_6 : (v20.1 k0 6).toInt = (u15.1 k0 6).toInt := by rw [← ev20, up1_n _ _ (Or.inr (by decide))]
    have wtv20_k0_7 : (v20.1 k0 7).toInt = (u15.1 k0 7).toInt := by rw [← ev20, up1_n _ _ (Or.inr (by decide))]
    have rzv20 : ∀ k j : Nat, ¬ ((k = k0 ∧ 6 ≤ j ∧ j ≤ 18 ∧ ¬ j = 12) ∨ k = k0 + 4) → v20.1 k j = v.1 k j := fun k j h => fz_u ev20 (by omega) (rzu15 k j h)
    exact B_124 _ _ v20 I y108_1 (by omega) rzv20 (by omega) (by omega) hF ls (lv_sub hl [0, 1] rfl)
  obtain ⟨J_74, eJ_74, hF⟩ := xl_e hF
  have B_74 : ∀ (H : Heap) (lo : List Loc) (v_74 : St), Wo w g s.heap v_74 H lo → ∀ (y74_1 : Int32) (z74_1 : Int32), (-4 ≤ y74_1.toInt ∧ y74_1.toInt ≤ 10) → (0 ≤ z74_1.toInt ∧ z74_1.toInt ≤ 1) → (∀ k j : Nat, ¬ ((k = k0 ∧ 6 ≤ j ∧ j ≤ 18 ∧ ¬ j = 12) ∨ k = k0 + 4) → v_74.1 k j = v.1 k j) → ((v.1 k0 13).toInt ≤ (v_74.1 k0 13).toInt ∧ ((v_74.1 k0 17).toInt = 0 → (v.1 k0 17).toInt = 0)) → ((v_74.1 k0 17).toInt = 0 → 0 ≤ y74_1.toInt) → (¬ z74_1.toInt = 0 → (y74_1.toInt = 4 → (v_74.1 k0 6).toInt ≤ 4) ∧ (y74_1.toInt ≤ 3 → (v_74.1 k0 7).toInt ≤ 2)) → (J_74 y74_1 z74_1 v_74 = res) → ∀ (ls : Array Slot), lv_has ls 2 [(0, .ref (wq w k0)), (1, .int y74_1)] → W pg l en (rmL 7) s m ar bl me cd H lo 0 0 (Zv w bl ar s post) (F0 m 74 ls [.int z74_1, .ref (wq w k0)]) := by
    intro H lo v_74 I y74_1 z74_1 hy74_1 hz74_1 rB74_Z hV74_3 iv74_0 iv74_1 hF ls hl
    replace hF := ap3 eJ_74 hF
    refine lv_iconst (v := 5) hx hb dX8_readLine_74 (by decide) ?_
    refine cVv E I (c_X8_needs l w g v_74 k0 z74_1 (5 : Int32) E.2.2.1 I.2.2 h_k0 (by decide) ) (cwV 2 E.1.2.2.2.2 (gWs (C := "StarWalkModel") mw_5_52 mw_5_54 mw_s_30 mw_1_9 mw_5_55) rfl rfl rfl (by decide +kernel) ⟨by decide, by decide⟩) h_k0.1.1 ((ce_o h_k0.1.2).trans rfl) rfl rfl hl.1 rfl (Nat.le_of_ble_eq_true rfl) dX8_readLine_75 ⟨Nat.le_refl _, Nat.le_refl _⟩ (fun u21 H lo hp hPS => ?_)
    obtain ⟨hp, hex, hfr⟩ := hp
    replace hF := xl_i hex hF
    obtain ⟨hwf, p22⟩ := hp
    have I : Wo w g s.heap u21 H lo := ⟨hPS.1, hPS.2, hwf⟩
    have wtu21_k0_13 : (u21.1 k0 13).toInt = (v_74.1 k0 13).toInt := congrArg Int32.toInt (p22.1 k0 13 (by omega))
    have wtu21_k0_15 : (u21.1 k0 15).toInt = (v_74.1 k0 15).toInt := congrArg Int32.toInt (p22.1 k0 15 (by omega))
    have wtu21_k0_16 : (u21.1 k0 16).toInt = (v_74.1 k0 16).toInt := congrArg Int32.toInt (p22.1 k0 16 (by omega))
    have wtu21_k0_6 : (u21.1 k0 6).toInt = (v_74.1 k0 6).toInt := congrArg Int32.toInt (p22.1 k0 6 (by omega))
    have wtu21_k0_7 : (u21.1 k0 7).toInt = (v_74.1 k0 7).toInt := congrArg Int32.toInt (p22.1 k0 7 (by omega))
    have p22_0 := p22.2
    have rzu21 : ∀ k j : Nat, ¬ ((k = k0 ∧ 6 ≤ j ∧ j ≤ 18 ∧ ¬ j = 12) ∨ k = k0 + 4) → u21.1 k j = v.1 k j := fun k j h => (hfr k j (fun z => h (by omega))).trans (rB74_Z k j h)
    refine lv_aload_n hx hb dX8_readLine_78 rfl (lv_at hl 0 rfl) ?_
    refine g_StarWalkModel_fault E I h_k0.1 mw_4_187 dX8_readLine_79 ?_
    refine lv_topi (fun x23 ex23 => ?_)
    replace hF := xl_i (ex23) hF
    have twx23 : x23.toInt = (u21.1 k0 17).toInt := congrArg Int32.toInt ex23
    have hx23 := r_StarWalkModel_fault I h_k0.1
    rw [← ex23] at hx23
    refine bz_ne E (a := x23.toInt) rfl (tgt := 124) dX8_readLine_82 (by decide) (fun c24 => ?_) (fun c24 => ?_)
    ·
      replace hF := if_f c24 hF
      exact B_124 _ _ u21 I y74_1 (by omega) rzu21 (by omega) (by omega) hF ls (lv_sub hl [0, 1] rfl)
    ·
      replace hF := if_t c24 hF
      refine lv_iload_n hx hb dX8_readLine_85 rfl (lv_at hl 1 rfl) ?_
      refine lv_bipush (v := 7) hx hb dX8_readLine_86 (by decide) ?_
      refine bi_lt E (a := y74_1.toInt) (b := 7) rfl rfl (tgt := 124) dX8_readLine_88 (by decide) (fun c25 => ?_) (fun c25 => ?_)
      ·
        replace hF := if_t c25 hF
        exact B_124 _ _ u21 I y74_1 (by omega) rzu21 (by omega) (by omega) hF ls (lv_sub hl [0, 1] rfl)
      ·
        replace hF := if_l c25 hF
        refine lv_aload_n hx hb dX8_readLine_91 rfl (lv_at hl 0 rfl) ?_
        refine lv_aload_n hx hb dX8_readLine_92 rfl (lv_at hl 0 rfl) ?_
        refine g_StarWalkModel_toldLines E I h_k0.1 mw_4_179 dX8_readLine_93 ?_
        refine lv_topi (fun x26 ex26 => ?_)
        replace hF := xl_i (ex26) hF
        refine lv_iload_n hx hb dX8_readLine_96 rfl (lv_at hl 1 rfl) ?_
        refine lv_ishr hx hb dX8_readLine_97 ?_
        refine lv_topi (fun x27 ex27 => ?_)
        replace hF := xl_i (ex27) hF
        refine lv_iconst (v := 1) hx hb dX8_readLine_98 (by decide) ?_
        refine lv_iand hx hb dX8_readLine_99 ?_
        refine lv_topi (fun x28 ex28 => ?_)
        replace hF := xl_i (ex28) hF
        have hx28 := anI (x := x27) (y := (1 : Int32)) (b := 1) rfl (by decide)
        rw [← ex28] at hx28
        refine bz_ne E (a := x28.toInt) rfl (tgt := 107) dX8_readLine_100 (by decide) (fun c29 => ?_) (fun c29 => ?_)
        ·
          replace hF := if_f c29 hF
          refine lv_iconst (v := 0) hx hb dX8_readLine_107 (by decide) ?_
          exact B_108 _ _ u21 I y74_1 (0 : Int32) (by omega) (by decide) rzu21 (by omega) (by omega) hF ls (lv_sub hl [0, 1] rfl)
        ·
          replace hF := if_t c29 hF
          refine lv_iconst (v := 1) hx hb dX8_readLine_103 (by decide) ?_
          refine lv_goto (tgt := 108) hx hb dX8_readLine_104 (by decide) ?_
          exact B_108 _ _ u21 I y74_1 (1 : Int32) (by omega) (by decide) rzu21 (by omega) (by omega) hF ls (lv_sub hl [0, 1] rfl)
  obtain ⟨J_69, eJ_69, hF⟩ := xl_e hF
  have B_69 : ∀ (H : Heap) (lo : List Loc) (v_69 : St), Wo w g s.heap v_69 H lo → ∀ (y69_1 : Int32), (-4 ≤ y69_1.toInt ∧ y69_1.toInt ≤ 10) → (∀ k j : Nat, ¬ ((k = k0 ∧ 6 ≤ j ∧ j ≤ 18 ∧ ¬ j = 12) ∨ k = k0 + 4) → v_69.1 k j = v.1 k j) → ((v.1 k0 13).toInt ≤ (v_69.1 k0 13).toInt ∧ ((v_69.1 k0 17).toInt = 0 → (v.1 k0 17).toInt = 0)) → ((v_69.1 k0 17).toInt = 0 → 0 ≤ y69_1.toInt) → (4 < y69_1.toInt ∨ (v_69.1 k0 7).toInt ≤ 2) → (¬ y69_1.toInt = 4) → (J_69 y69_1 v_69 = res) → ∀ (ls : Array Slot), lv_has ls 2 [(0, .ref (wq w k0)), (1, .int y69_1)] → W pg l en (rmL 7) s m ar bl me cd H lo 0 0 (Zv w bl ar s post) (F0 m 69 ls [.ref (wq w k0)]) := by
    intro H lo v_69 I y69_1 hy69_1 rB69_Z hV69_2 iv69_0 iv69_1 iv69_2 hF ls hl
    replace hF := ap2 eJ_69 hF
    refine lv_iconst (v := 1) hx hb dX8_readLine_69 (by decide) ?_
    refine lv_goto (tgt := 74) hx hb dX8_readLine_70 (by decide) ?_
    exact B_74 _ _ v_69 I y69_1 (1 : Int32) (by omega) (by decide) rB69_Z (by omega) (by omega) (fun _ => by omega) hF ls (lv_sub hl [0, 1] rfl)
  obtain ⟨J_30, eJ_30, hF⟩ := xl_e hF
  have B_30 : ∀ (H : Heap) (lo : List Loc), Wo w g s.heap v H lo → ∀ (y30_1 : Int32) (z30_1 : Int32), (-4 ≤ y30_1.toInt ∧ y30_1.toInt ≤ 10) → (0 ≤ z30_1.toInt ∧ z30_1.toInt ≤ 1) → (∀ k j : Nat, ¬ ((k = k0 ∧ 6 ≤ j ∧ j ≤ 18 ∧ ¬ j = 12) ∨ k = k0 + 4) → v.1 k j = v.1 k j) → ((v.1 k0 13).toInt ≤ (v.1 k0 13).toInt ∧ ((v.1 k0 17).toInt = 0 → (v.1 k0 17).toInt = 0)) → (y30_1.toInt = -4 ∨ 0 ≤ y30_1.toInt) → (¬ z30_1.toInt = 0 → ¬ y30_1.toInt = -4) → (J_30 y30_1 z30_1 = res) → ∀ (ls : Array Slot), lv_has ls 2 [(0, .ref (wq w k0)), (1, .int y30_1)] → W pg l en (rmL 7) s m ar bl me cd H lo 0 0 (Zv w bl ar s post) (F0 m 30 ls [.int z30_1, .ref (wq w k0)]) := by
    intro H lo  I y30_1 z30_1 hy30_1 hz30_1 rB30_Z hV30_3 iv30_0 iv30_1 hF ls hl
    replace hF := ap2 eJ_30 hF
    refine lv_iconst (v := 2) hx hb dX8_readLine_30 (by decide) ?_
    refine cVv E I (c_X8_needs l w g v k0 z30_1 (2 : Int32) E.2.2.1 I.2.2 h_k0 (by decide) ) (cwV 2 E.1.2.2.2.2 (gWs (C := "StarWalkModel") mw_5_52 mw_5_54 mw_s_30 mw_1_9 mw_5_55) rfl rfl rfl (by decide +kernel) ⟨by decide, by decide⟩) h_k0.1.1 ((ce_o h_k0.1.2).trans rfl) rfl rfl hl.1 rfl (Nat.le_of_ble_eq_true rfl) dX8_readLine_31 ⟨Nat.le_refl _, Nat.le_refl _⟩ (fun u30 H lo hp hPS => ?_)
    obtain ⟨hp, hex, hfr⟩ := hp
    replace hF := xl_i hex hF
    obtain ⟨hwf, p31⟩ := hp
    have I : Wo w g s.heap u30 H lo := ⟨hPS.1, hPS.2, hwf⟩
    have wtu30_k0_13 : (u30.1 k0 13).toInt = (v.1 k0 13).toInt := congrArg Int32.toInt (p31.1 k0 13 (by omega))
    have wtu30_k0_15 : (u30.1 k0 15).toInt = (v.1 k0 15).toInt := congrArg Int32.toInt (p31.1 k0 15 (by omega))
    have wtu30_k0_16 : (u30.1 k0 16).toInt = (v.1 k0 16).toInt := congrArg Int32.toInt (p31.1 k0 16 (by omega))
    have wtu30_k0_6 : (u30.1 k0 6).toInt = (v.1 k0 6).toInt := congrArg Int32.toInt (p31.1 k0 6 (by omega))
    have wtu30_k0_7 : (u30.1 k0 7).toInt = (v.1 k0 7).toInt := congrArg Int32.toInt (p31.1 k0 7 (by omega))
    have p31_0 := p31.2
    have rzu30 : ∀ k j : Nat, ¬ ((k = k0 ∧ 6 ≤ j ∧ j ≤ 18 ∧ ¬ j = 12) ∨ k = k0 + 4) → u30.1 k j = v.1 k j := fun k j h => (hfr k j (fun z => h (by omega))).trans (rB30_Z k j h)
    refine lv_aload_n hx hb dX8_readLine_34 rfl (lv_at hl 0 rfl) ?_
    refine lv_iload_n hx hb dX8_readLine_35 rfl (lv_at hl 1 rfl) ?_
    refine lv_iconst (v := 4) hx hb dX8_readLine_36 (by decide) ?_
    refine bi_ne E (a := y30_1.toInt) (b := 4) rfl rfl (tgt := 56) dX8_readLine_37 (by decide) (fun c32 => ?_) (fun c32 => ?_)
    ·
      replace hF := if_f c32 hF
      refine lv_iload_n hx hb dX8_readLine_56 rfl (lv_at hl 1 rfl) ?_
      refine lv_iconst (v := 4) hx hb dX8_readLine_57 (by decide) ?_
      refine bi_gt E (a := y30_1.toInt) (b := 4) rfl rfl (tgt := 69) dX8_readLine_58 (by decide) (fun c33 => ?_) (fun c33 => ?_)
      ·
        replace hF := if_t c33 hF
        exact B_69 _ _ u30 I y30_1 (by omega) rzu30 (by omega) (by omega) (by omega) (by omega) hF ls (lv_sub hl [0, 1] rfl)
      ·
        replace hF := if_l c33 hF
        refine lv_aload_n hx hb dX8_readLine_61 rfl (lv_at hl 0 rfl) ?_
        refine g_StarWalkModel_dWalkers E I h_k0.1 mw_4_177 dX8_readLine_62 ?_
        refine lv_topi (fun x34 ex34 => ?_)
        replace hF := xl_i (ex34) hF
        have twx34 : x34.toInt = (u30.1 k0 7).toInt := congrArg Int32.toInt ex34
        have hx34 := r_StarWalkModel_dWalkers I h_k0.1
        rw [← ex34] at hx34
        refine lv_iconst (v := 3) hx hb dX8_readLine_65 (by decide) ?_
        refine bi_ge E (a := x34.toInt) (b := 3) rfl rfl (tgt := 73) dX8_readLine_66 (by decide) (fun c35 => ?_) (fun c35 => ?_)
        ·
          replace hF := if_l c35 hF
          refine lv_iconst (v := 0) hx hb dX8_readLine_73 (by decide) ?_
          exact B_74 _ _ u30 I y30_1 (0 : Int32) (by omega) (by decide) rzu30 (by omega) (by omega) (fun h => absurd rfl h) hF ls (lv_sub hl [0, 1] rfl)
        ·
          replace hF := if_t c35 hF
          exact B_69 _ _ u30 I y30_1 (by omega) rzu30 (by omega) (by omega) (by omega) (by omega) hF ls (lv_sub hl [0, 1] rfl)
    ·
      replace hF := if_t c32 hF
      refine lv_aload_n hx hb dX8_readLine_40 rfl (lv_at hl 0 rfl) ?_
      refine g_StarWalkModel_dStars E I h_k0.1 mw_4_176 dX8_readLine_41 ?_
      refine lv_topi (fun x36 ex36 => ?_)
      replace hF := xl_i (ex36) hF
      have twx36 : x36.toInt = (u30.1 k0 6).toInt := congrArg Int32.toInt ex36
      have hx36 := r_StarWalkModel_dStars I h_k0.1
      rw [← ex36] at hx36
      refine lv_iconst (v := 5) hx hb dX8_readLine_44 (by decide) ?_
      refine bi_ge E (a := x36.toInt) (b := 5) rfl rfl (tgt := 52) dX8_readLine_45 (by decide) (fun c37 => ?_) (fun c37 => ?_)
      ·
        replace hF := if_l c37 hF
        refine lv_iconst (v := 0) hx hb dX8_readLine_52 (by decide) ?_
        refine lv_goto (tgt := 74) hx hb dX8_readLine_53 (by decide) ?_
        exact B_74 _ _ u30 I y30_1 (0 : Int32) (by omega) (by decide) rzu30 (by omega) (by omega) (fun h => absurd rfl h) hF ls (lv_sub hl [0, 1] rfl)
      ·
        replace hF := if_t c37 hF
        refine lv_iconst (v := 1) hx hb dX8_readLine_48 (by decide) ?_
        refine lv_goto (tgt := 74) hx hb dX8_readLine_49 (by decide) ?_
        exact B_74 _ _ u30 I y30_1 (1 : Int32) (by omega) (by decide) rzu30 (by omega) (by omega) (fun _ => by omega) hF ls (lv_sub hl [0, 1] rfl)
  obtain ⟨J_17, eJ_17, hF⟩ := xl_e hF
  have B_17 : ∀ (H : Heap) (lo : List Loc), Wo w g s.heap v H lo → ∀ (z17_0 : Int32), (-4 ≤ z17_0.toInt ∧ z17_0.toInt ≤ 10) → (∀ k j : Nat, ¬ ((k = k0 ∧ 6 ≤ j ∧ j ≤ 18 ∧ ¬ j = 12) ∨ k = k0 + 4) → v.1 k j = v.1 k j) → ((v.1 k0 13).toInt ≤ (v.1 k0 13).toInt ∧ ((v.1 k0 17).toInt = 0 → (v.1 k0 17).toInt = 0)) → (z17_0.toInt = -4 ∨ 0 ≤ z17_0.toInt) → (J_17 z17_0 = res) → ∀ (ls : Array Slot), lv_has ls 2 [(0, .ref (wq w k0))] → W pg l en (rmL 7) s m ar bl me cd H lo 0 0 (Zv w bl ar s post) (F0 m 17 ls [.int z17_0]) := by
    intro H lo  I z17_0 hz17_0 rB17_Z hV17_2 iv17_0 hF ls hl
    replace hF := ap1 eJ_17 hF
    refine lv_istore_n (lv' := [(1, .int z17_0), (0, .ref (wq w k0))]) hx hb dX8_readLine_17 rfl hl (by decide) rfl (fun ls hl => ?_)
    refine lv_aload_n hx hb dX8_readLine_18 rfl (lv_at hl 1 rfl) ?_
    refine lv_iload_n hx hb dX8_readLine_19 rfl (lv_at hl 0 rfl) ?_
    refine lv_bipush (v := (-4)) hx hb dX8_readLine_20 (by decide) ?_
    refine bi_eq E (a := z17_0.toInt) (b := (-4)) rfl rfl (tgt := 29) dX8_readLine_22 (by decide) (fun c38 => ?_) (fun c38 => ?_)
    ·
      replace hF := if_t c38 hF
      refine lv_iconst (v := 0) hx hb dX8_readLine_29 (by decide) ?_
      exact B_30 _ _ I z17_0 (0 : Int32) (by omega) (by decide) rB17_Z (by omega) (by omega) (fun h => absurd rfl h) hF ls (lv_sub hl [1, 0] rfl)
    ·
      replace hF := if_f c38 hF
      refine lv_iconst (v := 1) hx hb dX8_readLine_25 (by decide) ?_
      refine lv_goto (tgt := 30) hx hb dX8_readLine_26 (by decide) ?_
      exact B_30 _ _ I z17_0 (1 : Int32) (by omega) (by decide) rB17_Z (by omega) (by omega) (fun _ => by omega) hF ls (lv_sub hl [1, 0] rfl)
  refine lv_aload_n hx hb dX8_readLine_0 rfl (lv_at hl 0 rfl) ?_
  refine g_StarWalkModel_sort E I h_k0.1 mw_4_185 dX8_readLine_1 ?_
  refine lv_topi (fun x39 ex39 => ?_)
  replace hF := xl_i (ex39) hF
  have twx39 : x39.toInt = (v.1 k0 15).toInt := congrArg Int32.toInt ex39
  refine lv_iconst (v := 1) hx hb dX8_readLine_4 (by decide) ?_
  refine bi_ne E (a := x39.toInt) (b := 1) rfl rfl (tgt := 15) dX8_readLine_5 (by decide) (fun c40 => ?_) (fun c40 => ?_)
  ·
    replace hF := if_f c40 hF
    refine lv_bipush (v := (-4)) hx hb dX8_readLine_15 (by decide) ?_
    exact B_17 _ _ I (-4 : Int32) (by decide) rz0 (by omega) (Or.inl rfl) hF ls (lv_sub hl [0] rfl)
  ·
    replace hF := if_t c40 hF
    refine lv_aload_n hx hb dX8_readLine_8 rfl (lv_at hl 0 rfl) ?_
    refine cVi E I (c_X8_lineNow l w g v k0 E.2.2.1 I.2.2 h_k0  ) (cwV 0 E.1.2.2.2.2 (gWs (C := "StarWalkModel") mw_5_60 mw_5_62 mw_s_32 mw_1_9 mw_5_63) rfl rfl rfl (by decide +kernel) ⟨by decide, by decide⟩) h_k0.1.1 ((ce_o h_k0.1.2).trans rfl) rfl rfl hl.1 rfl (Nat.le_of_ble_eq_true rfl) dX8_readLine_9 ⟨Nat.le_refl _, Nat.le_refl _⟩ (fun r41 u42 H lo hp hPS => ?_)
    obtain ⟨hp, hex, hfr⟩ := hp
    replace hF := xl_i hex hF
    obtain ⟨hu, p43⟩ := hp
    rw [hu] at hPS
    have I : Wo w g s.heap v H lo := ⟨hPS.1, hPS.2, I.2.2⟩
    refine lv_goto (tgt := 17) hx hb dX8_readLine_12 (by decide) ?_
    exact B_17 _ _ I r41 (by omega) rz0 (by omega) (by omega) hF ls (lv_sub hl [0] rfl)
def F_X8_text (k0 : Nat) (v : St) : Int32 × St :=
xl (fun (y73_1 : Int32) (v_73 : St) =>
xl (up1 v_73 k0 12 (0 : Int32)) fun v1 =>
xl (v1.1 k0 17) fun x2 =>
if 0 < x2.toInt then (
xl (v1.1 k0 18) fun x6 =>
xl ((-10 : Int32) - x6) fun x7 =>
(x7, v1)) else (
xl (F_X8_keepDraft k0 v1) fun u4 =>
(y73_1, u4))) fun J_73 =>
xl (fun (y68_1 : Int32) (z68_1 : Int32) (v_68 : St) =>
xl (F_X8_needs k0 z68_1 (6 : Int32) v_68) fun u8 =>
(J_73 y68_1 u8)) fun J_68 =>
xl (fun (y44_1 : Int32) (v_44 : St) =>
xl (v_44.1 k0 17) fun x10 =>
if x10.toInt = 0 then (
xl (v_44.1 k0 10) fun x12 =>
xl (v_44.1 k0 6) fun x13 =>
if x12.toInt < x13.toInt then (
(J_68 y44_1 (1 : Int32) v_44)) else (
(J_68 y44_1 (0 : Int32) v_44))) else (
(J_73 y44_1 v_44))) fun J_44 =>
xl (fun (self_20 : Int32 → St → Int32 × St) (y20_1 : Int32) (v_20 : St) =>
xl (v_20.1 k0 17) fun x15 =>
if x15.toInt = 0 then (
xl (v_20.1 k0 15) fun x17 =>
if x17.toInt = 0 then (
(J_44 y20_1 v_20)) else (
xl (F_X8_readLine k0 v_20) fun u19 =>
xl (y20_1 + 1) fun x21 =>
(self_20 x21 u19))) else (
(J_44 y20_1 v_20))) fun P_20 =>
xl (up1 v k0 17 (0 : Int32)) fun v22 =>
xl (up1 v22 k0 13 (0 : Int32)) fun v23 =>
xl (F_X8_firstDraft k0 v23) fun u24 =>
xl (F_X8_next1 k0 u24) fun u26 =>
(lp P_20 (fun _ _ => ((0 : Int32), v)) (tm (u26.1 k0 13).toInt (u26.1 k0 17).toInt (u26.1 k0 15).toInt + 1) (0 : Int32) u26)
set_option maxHeartbeats 4000000 in
set_option maxRecDepth 100000 in
theorem c_X8_text (l : Launch) (w : Wp) (g : Nat → Nat → Int32) (v : St) (k0 : Nat) (hq : Inj w) (hw : WF (wk w) g v) (h_k0 : oM w k0) : CTi w l yX8_text (wsy yX8_text prog_10_method_23_code 2 (some .int)) (rmL 8) [.ref (wq w k0)] v (fun (r : Int32) (u : St) => (WF (wk w) g u ∧ ((∀ k j : Nat, ¬ ((k = k0 ∧ 6 ≤ j ∧ j ≤ 18) ∨ k = k0 + 4) → u.1 k j = v.1 k j) ∨ (u.1 k0 17).toInt = 0)) ∧ ((r, u) = F_X8_text k0 v) ∧ (∀ k j : Nat, ¬ ((k = k0 ∧ 3 ≤ j ∧ j ≤ 18) ∨ k = k0 + 1 ∨ k = k0 + 3 ∨ k = k0 + 4) → u.1 k j = v.1 k j)) := by
  generalize hpost : (fun (r : Int32) (u : St) => (WF (wk w) g u ∧ ((∀ k j : Nat, ¬ ((k = k0 ∧ 6 ≤ j ∧ j ≤ 18) ∨ k = k0 + 4) → u.1 k j = v.1 k j) ∨ (u.1 k0 17).toInt = 0)) ∧ ((r, u) = F_X8_text k0 v) ∧ (∀ k j : Nat, ¬ ((k = k0 ∧ 3 ≤ j ∧ j ≤ 18) ∨ k = k0 + 1 ∨ k = k0 + 3 ∨ k = k0 + 4) → u.1 k j = v.1 k j)) = post
  refine CTi.of prog_10_method_23_code 2 (some .int) "StarWalkModel" (by decide +kernel) rfl hq hw (Nat.le_of_ble_eq_true rfl) ?_
  intro pg en s m ar bl me cd ls E I hr hlk hl
  have hx := E.1.1
  have hb := E.1.2.1
  have hl : lv_has ls 2 [(0, .ref (wq w k0))] := hl
  obtain ⟨res, hres⟩ : ∃ z, z = F_X8_text k0 v := ⟨_, rfl⟩
  have hF := hres.symm
  unfold F_X8_text at hF
  replace hres : res = F_X8_text k0 v := hres
  have rz0 : ∀ k j : Nat, ¬ ((k = k0 ∧ 3 ≤ j ∧ j ≤ 18) ∨ k = k0 + 1 ∨ k = k0 + 3 ∨ k = k0 + 4) → v.1 k j = v.1 k j := fun _ _ _ => rfl
  have ry0 : ∀ k j : Nat, ¬ ((k = k0 ∧ 6 ≤ j ∧ j ≤ 18) ∨ k = k0 + 4) → v.1 k j = v.1 k j := fun _ _ _ => rfl
  obtain ⟨J_73, eJ_73, hF⟩ := xl_e hF
  have B_73 : ∀ (H : Heap) (lo : List Loc) (v_73 : St), Wo w g s.heap v_73 H lo → ∀ (y73_1 : Int32), (∀ k j : Nat, ¬ ((k = k0 ∧ 6 ≤ j ∧ j ≤ 18) ∨ k = k0 + 4) → v_73.1 k j = v.1 k j) → (∀ k j : Nat, ¬ ((k = k0 ∧ 3 ≤ j ∧ j ≤ 18) ∨ k = k0 + 1 ∨ k = k0 + 3 ∨ k = k0 + 4) → v_73.1 k j = v.1 k j) → (J_73 y73_1 v_73 = res) → ∀ (ls : Array Slot), lv_has ls 2 [(0, .ref (wq w k0)), (1, .int y73_1)] → W pg l en (rmL 8) s m ar bl me cd H lo 0 0 (Zi w bl ar s post) (F0 m 73 ls []) := by
    intro H lo v_73 I y73_1 rB73_Y rB73_Z hF ls hl
    replace hF := ap2 eJ_73 hF
    refine lv_aload_n hx hb dX8_text_73 rfl (lv_at hl 0 rfl) ?_
    refine lv_iconst (v := 0) hx hb dX8_text_74 (by decide) ?_
    refine p_StarWalkModel_taped E I h_k0.1 mw_4_182 (by decide) dX8_text_75 (fun H lo I => ?_)
    generalize ev1 : up1 v_73 k0 12 (0 : Int32) = v1 at I
    replace hF := xl_i (ev1.symm) hF
    have wtv1_k0_13 : (v1.1 k0 13).toInt = (v_73.1 k0 13).toInt := by rw [← ev1, up1_n _ _ (Or.inr (by decide))]
    have wtv1_k0_15 : (v1.1 k0 15).toInt = (v_73.1 k0 15).toInt := by rw [← ev1, up1_n _ _ (Or.inr (by decide))]
    have wtv1_k0_16 : (v1.1 k0 16).toInt = (v_73.1 k0 16).toInt := by rw [← ev1, up1_n _ _ (Or.inr (by decide))]
    have wtv1_k0_17 : (v1.1 k0 17).toInt = (v_73.1 k0 17).toInt := by rw [← ev1, up1_n _ _ (Or.inr (by decide))]
    have rzv1 : ∀ k j : Nat, ¬ ((k = k0 ∧ 3 ≤ j ∧ j ≤ 18) ∨ k = k0 + 1 ∨ k = k0 + 3 ∨ k = k0 + 4) → v1.1 k j = v.1 k j := fun k j h => fz_u ev1 (by omega) (rB73_Z k j h)
    have ryv1 : ∀ k j : Nat, ¬ ((k = k0 ∧ 6 ≤ j ∧ j ≤ 18) ∨ k = k0 + 4) → v1.1 k j = v.1 k j := fun k j h => fz_u ev1 (by omega) (rB73_Y k j h)
    refine lv_aload_n hx hb dX8_text_78 rfl (lv_at hl 0 rfl) ?_
    refine g_StarWalkModel_fault E I h_k0.1 mw_4_187 dX8_text_79 ?_
    refine lv_topi (fun x2 ex2 => ?_)
    replace hF := xl_i (ex2) hF
    have twx2 : x2.toInt = (v1.1 k0 17).toInt := congrArg Int32.toInt ex2
    have hx2 := r_StarWalkModel_fault I h_k0.1
    rw [← ex2] at hx2
    refine bz_le E (a := x2.toInt) rfl (tgt := 93) dX8_text_82 (by decide) (fun c3 => ?_) (fun c3 => ?_)
    ·
      replace hF := if_l c3 hF
      refine lv_aload_n hx hb dX8_text_93 rfl (lv_at hl 0 rfl) ?_
      refine cVv E I (c_X8_keepDraft l w g v1 k0 E.2.2.1 I.2.2 h_k0  ) (cwV 0 E.1.2.2.2.2 (gWs (C := "StarWalkModel") mw_4_166 mw_4_168 mw_s_27 mw_1_9 mw_4_169) rfl rfl rfl (by decide +kernel) ⟨by decide, by decide⟩) h_k0.1.1 ((ce_o h_k0.1.2).trans rfl) rfl rfl hl.1 rfl (Nat.le_of_ble_eq_true rfl) dX8_text_94 ⟨Nat.le_refl _, Nat.le_refl _⟩ (fun u4 H lo hp hPS => ?_)
      obtain ⟨hp, hex, hfr⟩ := hp
      replace hF := xl_i hex hF
      obtain ⟨hwf, p5⟩ := hp
      have I : Wo w g s.heap u4 H lo := ⟨hPS.1, hPS.2, hwf⟩
      have wtu4_k0_13 : (u4.1 k0 13).toInt = (v1.1 k0 13).toInt := congrArg Int32.toInt (hfr k0 13 (by omega))
      have wtu4_k0_15 : (u4.1 k0 15).toInt = (v1.1 k0 15).toInt := congrArg Int32.toInt (hfr k0 15 (by omega))
      have wtu4_k0_16 : (u4.1 k0 16).toInt = (v1.1 k0 16).toInt := congrArg Int32.toInt (hfr k0 16 (by omega))
      have wtu4_k0_17 : (u4.1 k0 17).toInt = (v1.1 k0 17).toInt := congrArg Int32.toInt (hfr k0 17 (by omega))
      have rzu4 : ∀ k j : Nat, ¬ ((k = k0 ∧ 3 ≤ j ∧ j ≤ 18) ∨ k = k0 + 1 ∨ k = k0 + 3 ∨ k = k0 + 4) → u4.1 k j = v.1 k j := fun k j h => (hfr k j (fun z => h (by rcases z with z | z | z <;> omega))).trans (rzv1 k j h)
      refine lv_iload_n hx hb dX8_text_97 rfl (lv_at hl 1 rfl) ?_
      exact rI E I hr hlk rfl (by rw [← hpost]; exact ⟨⟨I.2.2, Or.inr (by omega)⟩, hF.trans hres, rzu4⟩) dX8_text_98
    ·
      replace hF := if_t c3 hF
      refine lv_bipush (v := (-10)) hx hb dX8_text_85 (by decide) ?_
      refine lv_aload_n hx hb dX8_text_87 rfl (lv_at hl 0 rfl) ?_
      refine g_StarWalkModel_wrongAt E I h_k0.1 mw_4_188 dX8_text_88 ?_
      refine lv_topi (fun x6 ex6 => ?_)
      replace hF := xl_i (ex6) hF
      refine lv_isub hx hb dX8_text_91 ?_
      refine lv_topi (fun x7 ex7 => ?_)
      replace hF := xl_i (ex7) hF
      exact rI E I hr hlk rfl (by rw [← hpost]; exact ⟨⟨I.2.2, Or.inl ryv1⟩, hF.trans hres, rzv1⟩) dX8_text_92
  obtain ⟨J_68, eJ_68, hF⟩ := xl_e hF
  have B_68 : ∀ (H : Heap) (lo : List Loc) (v_68 : St), Wo w g s.heap v_68 H lo → ∀ (y68_1 : Int32) (z68_1 : Int32), (0 ≤ z68_1.toInt ∧ z68_1.toInt ≤ 1) → (∀ k j : Nat, ¬ ((k = k0 ∧ 6 ≤ j ∧ j ≤ 18) ∨ k = k0 + 4) → v_68.1 k j = v.1 k j) → (∀ k j : Nat, ¬ ((k = k0 ∧ 3 ≤ j ∧ j ≤ 18) ∨ k = k0 + 1 ∨ k = k0 + 3 ∨ k = k0 + 4) → v_68.1 k j = v.1 k j) → (J_68 y68_1 z68_1 v_68 = res) → ∀ (ls : Array Slot), lv_has ls 2 [(0, .ref (wq w k0)), (1, .int y68_1)] → W pg l en (rmL 8) s m ar bl me cd H lo 0 0 (Zi w bl ar s post) (F0 m 68 ls [.int z68_1, .ref (wq w k0)]) := by
    intro H lo v_68 I y68_1 z68_1 hz68_1 rB68_Y rB68_Z hF ls hl
    replace hF := ap3 eJ_68 hF
    refine lv_bipush (v := 6) hx hb dX8_text_68 (by decide) ?_
    refine cVv E I (c_X8_needs l w g v_68 k0 z68_1 (6 : Int32) E.2.2.1 I.2.2 h_k0 (by decide) ) (cwV 2 E.1.2.2.2.2 (gWs (C := "StarWalkModel") mw_5_52 mw_5_54 mw_s_30 mw_1_9 mw_5_55) rfl rfl rfl (by decide +kernel) ⟨by decide, by decide⟩) h_k0.1.1 ((ce_o h_k0.1.2).trans rfl) rfl rfl hl.1 rfl (Nat.le_of_ble_eq_true rfl) dX8_text_70 ⟨Nat.le_refl _, Nat.le_refl _⟩ (fun u8 H lo hp hPS => ?_)
    obtain ⟨hp, hex, hfr⟩ := hp
    replace hF := xl_i hex hF
    obtain ⟨hwf, p9⟩ := hp
    have I : Wo w g s.heap u8 H lo := ⟨hPS.1, hPS.2, hwf⟩
    have wtu8_k0_13 : (u8.1 k0 13).toInt = (v_68.1 k0 13).toInt := congrArg Int32.toInt (p9.1 k0 13 (by omega))
    have wtu8_k0_15 : (u8.1 k0 15).toInt = (v_68.1 k0 15).toInt := congrArg Int32.toInt (p9.1 k0 15 (by omega))
    have wtu8_k0_16 : (u8.1 k0 16).toInt = (v_68.1 k0 16).toInt := congrArg Int32.toInt (p9.1 k0 16 (by omega))
    have p9_0 := p9.2
    have rzu8 : ∀ k j : Nat, ¬ ((k = k0 ∧ 3 ≤ j ∧ j ≤ 18) ∨ k = k0 + 1 ∨ k = k0 + 3 ∨ k = k0 + 4) → u8.1 k j = v.1 k j := fun k j h => (hfr k j (fun z => h (by omega))).trans (rB68_Z k j h)
    have ryu8 : ∀ k j : Nat, ¬ ((k = k0 ∧ 6 ≤ j ∧ j ≤ 18) ∨ k = k0 + 4) → u8.1 k j = v.1 k j := fun k j h => (hfr k j (fun z => h (by omega))).trans (rB68_Y k j h)
    exact B_73 _ _ u8 I y68_1 ryu8 rzu8 hF ls (lv_sub hl [0, 1] rfl)
  obtain ⟨J_44, eJ_44, hF⟩ := xl_e hF
  have B_44 : ∀ (H : Heap) (lo : List Loc) (v_44 : St), Wo w g s.heap v_44 H lo → ∀ (y44_1 : Int32), (∀ k j : Nat, ¬ ((k = k0 ∧ 6 ≤ j ∧ j ≤ 18) ∨ k = k0 + 4) → v_44.1 k j = v.1 k j) → (∀ k j : Nat, ¬ ((k = k0 ∧ 3 ≤ j ∧ j ≤ 18) ∨ k = k0 + 1 ∨ k = k0 + 3 ∨ k = k0 + 4) → v_44.1 k j = v.1 k j) → (J_44 y44_1 v_44 = res) → ∀ (ls : Array Slot), lv_has ls 2 [(0, .ref (wq w k0)), (1, .int y44_1)] → W pg l en (rmL 8) s m ar bl me cd H lo 0 0 (Zi w bl ar s post) (F0 m 44 ls []) := by
    intro H lo v_44 I y44_1 rB44_Y rB44_Z hF ls hl
    replace hF := ap2 eJ_44 hF
    refine lv_aload_n hx hb dX8_text_44 rfl (lv_at hl 0 rfl) ?_
    refine g_StarWalkModel_fault E I h_k0.1 mw_4_187 dX8_text_45 ?_
    refine lv_topi (fun x10 ex10 => ?_)
    replace hF := xl_i (ex10) hF
    have twx10 : x10.toInt = (v_44.1 k0 17).toInt := congrArg Int32.toInt ex10
    have hx10 := r_StarWalkModel_fault I h_k0.1
    rw [← ex10] at hx10
    refine bz_ne E (a := x10.toInt) rfl (tgt := 73) dX8_text_48 (by decide) (fun c11 => ?_) (fun c11 => ?_)
    ·
      replace hF := if_f c11 hF
      exact B_73 _ _ v_44 I y44_1 rB44_Y rB44_Z hF ls (lv_sub hl [0, 1] rfl)
    ·
      replace hF := if_t c11 hF
      refine lv_aload_n hx hb dX8_text_51 rfl (lv_at hl 0 rfl) ?_
      refine lv_aload_n hx hb dX8_text_52 rfl (lv_at hl 0 rfl) ?_
      refine g_StarWalkModel_highest E I h_k0.1 mw_4_180 dX8_text_53 ?_
      refine lv_topi (fun x12 ex12 => ?_)
      replace hF := xl_i (ex12) hF
      refine lv_aload_n hx hb dX8_text_56 rfl (lv_at hl 0 rfl) ?_
      refine g_StarWalkModel_dStars E I h_k0.1 mw_4_176 dX8_text_57 ?_
      refine lv_topi (fun x13 ex13 => ?_)
      replace hF := xl_i (ex13) hF
      have hx13 := r_StarWalkModel_dStars I h_k0.1
      rw [← ex13] at hx13
      refine bi_ge E (a := x12.toInt) (b := x13.toInt) rfl rfl (tgt := 67) dX8_text_60 (by decide) (fun c14 => ?_) (fun c14 => ?_)
      ·
        have rgx12 := i32_rng x12
        replace hF := if_l c14 hF
        refine lv_iconst (v := 0) hx hb dX8_text_67 (by decide) ?_
        exact B_68 _ _ v_44 I y44_1 (0 : Int32) (by decide) rB44_Y rB44_Z hF ls (lv_sub hl [0, 1] rfl)
      ·
        have rgx12 := i32_rng x12
        replace hF := if_t c14 hF
        refine lv_iconst (v := 1) hx hb dX8_text_63 (by decide) ?_
        refine lv_goto (tgt := 68) hx hb dX8_text_64 (by decide) ?_
        exact B_68 _ _ v_44 I y44_1 (1 : Int32) (by decide) rB44_Y rB44_Z hF ls (lv_sub hl [0, 1] rfl)
  obtain ⟨P_20, eP_20, hF⟩ := xl_e hF
  have L_20 : ∀ (n : Nat), ∀ (H : Heap) (lo : List Loc) (v_20 : St), Wo w g s.heap v_20 H lo → ∀ (y20_1 : Int32), (∀ k j : Nat, ¬ ((k = k0 ∧ 6 ≤ j ∧ j ≤ 18) ∨ k = k0 + 4) → v_20.1 k j = v.1 k j) → (∀ k j : Nat, ¬ ((k = k0 ∧ 3 ≤ j ∧ j ≤ 18) ∨ k = k0 + 1 ∨ k = k0 + 3 ∨ k = k0 + 4) → v_20.1 k j = v.1 k j) → (lp P_20 (fun _ _ => ((0 : Int32), v)) n y20_1 v_20 = res) → tm (v_20.1 k0 13).toInt (v_20.1 k0 17).toInt (v_20.1 k0 15).toInt < n → ∀ (ls : Array Slot), lv_has ls 2 [(0, .ref (wq w k0)), (1, .int y20_1)] → W pg l en (rmL 8) s m ar bl me cd H lo 0 0 (Zi w bl ar s post) (F0 m 20 ls []) := by
    intro n
    induction n with
    | zero => intro H lo v_20 I y20_1 rB20_Y rB20_Z hF hm; exact absurd hm (Nat.not_lt_zero _)
    | succ n ih_20 =>
      intro H lo v_20 I y20_1 rB20_Y rB20_Z hF hm ls hl
      replace hF := lpa2 eP_20 hF
      refine lv_aload_n hx hb dX8_text_20 rfl (lv_at hl 0 rfl) ?_
      refine g_StarWalkModel_fault E I h_k0.1 mw_4_187 dX8_text_21 ?_
      refine lv_topi (fun x15 ex15 => ?_)
      replace hF := xl_i (ex15) hF
      have twx15 : x15.toInt = (v_20.1 k0 17).toInt := congrArg Int32.toInt ex15
      have hx15 := r_StarWalkModel_fault I h_k0.1
      rw [← ex15] at hx15
      refine bz_ne E (a := x15.toInt) rfl (tgt := 44) dX8_text_24 (by decide) (fun c16 => ?_) (fun c16 => ?_)
      ·
        replace hF := if_f c16 hF
        exact B_44 _ _ v_20 I y20_1 rB20_Y rB20_Z hF ls (lv_sub hl [0, 1] rfl)
      ·
        replace hF := if_t c16 hF
        refine lv_aload_n hx hb dX8_text_27 rfl (lv_at hl 0 rfl) ?_
        refine g_StarWalkModel_sort E I h_k0.1 mw_4_185 dX8_text_28 ?_
        refine lv_topi (fun x17 ex17 => ?_)
        replace hF := xl_i (ex17) hF
        have twx17 : x17.toInt = (v_20.1 k0 15).toInt := congrArg Int32.toInt ex17
        refine bz_eq E (a := x17.toInt) rfl (tgt := 44) dX8_text_31 (by decide) (fun c18 => ?_) (fun c18 => ?_)
        ·
          replace hF := if_t c18 hF
          exact B_44 _ _ v_20 I y20_1 rB20_Y rB20_Z hF ls (lv_sub hl [0, 1] rfl)
        ·
          replace hF := if_f c18 hF
          refine lv_aload_n hx hb dX8_text_34 rfl (lv_at hl 0 rfl) ?_
          refine cVv E I (c_X8_readLine l w g v_20 k0 E.2.2.1 I.2.2 h_k0  ) (cwV 0 E.1.2.2.2.2 (gWs (C := "StarWalkModel") mw_5_56 mw_5_58 mw_s_31 mw_1_9 mw_5_59) rfl rfl rfl (by decide +kernel) ⟨by decide, by decide⟩) h_k0.1.1 ((ce_o h_k0.1.2).trans rfl) rfl rfl hl.1 rfl (Nat.le_of_ble_eq_true rfl) dX8_text_35 ⟨Nat.le_refl _, Nat.le_refl _⟩ (fun u19 H lo hp hPS => ?_)
          obtain ⟨hp, hex, hfr⟩ := hp
          replace hF := xl_i hex hF
          obtain ⟨hwf, p20⟩ := hp
          have I : Wo w g s.heap u19 H lo := ⟨hPS.1, hPS.2, hwf⟩
          have p20_0 := p20.1
          have p20_1 := p20.2.1
          have p20_2 := p20.2.2
          have rzu19 : ∀ k j : Nat, ¬ ((k = k0 ∧ 3 ≤ j ∧ j ≤ 18) ∨ k = k0 + 1 ∨ k = k0 + 3 ∨ k = k0 + 4) → u19.1 k j = v.1 k j := fun k j h => (hfr k j (fun z => h (by rcases z with z | z <;> omega))).trans (rB20_Z k j h)
          have ryu19 : ∀ k j : Nat, ¬ ((k = k0 ∧ 6 ≤ j ∧ j ≤ 18) ∨ k = k0 + 4) → u19.1 k j = v.1 k j := fun k j h => (hfr k j (fun z => h (by rcases z with z | z <;> omega))).trans (rB20_Y k j h)
          obtain ⟨x21, ex21⟩ : ∃ z : Int32, z = y20_1 + 1 := ⟨_, rfl⟩
          replace hF := xl_i (ex21) hF
          refine lv_iinc (v := x21) (lv' := [(1, .int x21), (0, .ref (wq w k0))]) hx hb dX8_text_38 hl (k := 1) rfl (by rw [ex21]; rfl) (by decide) rfl (fun ls hl => ?_)
          refine lv_goto (tgt := 20) hx hb dX8_text_41 (by decide) ?_
          exact ih_20 _ _ u19 I x21 ryu19 rzu19 hF (by have hp := r_StarWalkModel_pos I h_k0.1; exact Nat.lt_of_lt_of_le (tm_lt (by omega) (by omega) (by omega) (by omega) (fun a b => by omega)) (Nat.le_of_lt_succ hm)) ls (lv_sub hl [1, 0] rfl)
  refine lv_iconst (v := 0) hx hb dX8_text_0 (by decide) ?_
  refine lv_istore_n (lv' := [(1, .int 0), (0, .ref (wq w k0))]) hx hb dX8_text_1 rfl hl (by decide) rfl (fun ls hl => ?_)
  refine lv_aload_n hx hb dX8_text_2 rfl (lv_at hl 1 rfl) ?_
  refine lv_iconst (v := 0) hx hb dX8_text_3 (by decide) ?_
  refine p_StarWalkModel_fault E I h_k0.1 mw_4_187 (by decide) dX8_text_4 (fun H lo I => ?_)
  generalize ev22 : up1 v k0 17 (0 : Int32) = v22 at I
  replace hF := xl_i (ev22.symm) hF
  have wtv22_k0_13 : (v22.1 k0 13).toInt = (v.1 k0 13).toInt := by rw [← ev22, up1_n _ _ (Or.inr (by decide))]
  have wtv22_k0_15 : (v22.1 k0 15).toInt = (v.1 k0 15).toInt := by rw [← ev22, up1_n _ _ (Or.inr (by decide))]
  have wtv22_k0_16 : (v22.1 k0 16).toInt = (v.1 k0 16).toInt := by rw [← ev22, up1_n _ _ (Or.inr (by decide))]
  have wtv22_k0_17 : (v22.1 k0 17).toInt = 0 := by rw [← ev22]; exact congrArg Int32.toInt (up1_s _ k0 17 (0 : Int32))
  have rzv22 : ∀ k j : Nat, ¬ ((k = k0 ∧ 3 ≤ j ∧ j ≤ 18) ∨ k = k0 + 1 ∨ k = k0 + 3 ∨ k = k0 + 4) → v22.1 k j = v.1 k j := fun k j h => fz_u ev22 (by omega) (rz0 k j h)
  have ryv22 : ∀ k j : Nat, ¬ ((k = k0 ∧ 6 ≤ j ∧ j ≤ 18) ∨ k = k0 + 4) → v22.1 k j = v.1 k j := fun k j h => fz_u ev22 (by omega) (ry0 k j h)
  refine lv_aload_n hx hb dX8_text_7 rfl (lv_at hl 1 rfl) ?_
  refine lv_iconst (v := 0) hx hb dX8_text_8 (by decide) ?_
  refine p_StarWalkModel_pos E I h_k0.1 mw_4_183 (by decide) dX8_text_9 (fun H lo I => ?_)
  generalize ev23 : up1 v22 k0 13 (0 : Int32) = v23 at I
  replace hF := xl_i (ev23.symm) hF
  have wtv23_k0_13 : (v23.1 k0 13).toInt = 0 := by rw [← ev23]; exact congrArg Int32.toInt (up1_s _ k0 13 (0 : Int32))
  have wtv23_k0_15 : (v23.1 k0 15).toInt = (v22.1 k0 15).toInt := by rw [← ev23, up1_n _ _ (Or.inr (by decide))]
  have wtv23_k0_16 : (v23.1 k0 16).toInt = (v22.1 k0 16).toInt := by rw [← ev23, up1_n _ _ (Or.inr (by decide))]
  have wtv23_k0_17 : (v23.1 k0 17).toInt = (v22.1 k0 17).toInt := by rw [← ev23, up1_n _ _ (Or.inr (by decide))]
  have rzv23 : ∀ k j : Nat, ¬ ((k = k0 ∧ 3 ≤ j ∧ j ≤ 18) ∨ k = k0 + 1 ∨ k = k0 + 3 ∨ k = k0 + 4) → v23.1 k j = v.1 k j := fun k j h => fz_u ev23 (by omega) (rzv22 k j h)
  have ryv23 : ∀ k j : Nat, ¬ ((k = k0 ∧ 6 ≤ j ∧ j ≤ 18) ∨ k = k0 + 4) → v23.1 k j = v.1 k j := fun k j h => fz_u ev23 (by omega) (ryv22 k j h)
  refine lv_aload_n hx hb dX8_text_12 rfl (lv_at hl 1 rfl) ?_
  refine cVv E I (c_X8_firstDraft l w g v23 k0 E.2.2.1 I.2.2 h_k0  ) (cwV 0 E.1.2.2.2.2 (gWs (C := "StarWalkModel") mw_4_162 mw_4_164 mw_s_26 mw_1_9 mw_4_165) rfl rfl rfl (by decide +kernel) ⟨by decide, by decide⟩) h_k0.1.1 ((ce_o h_k0.1.2).trans rfl) rfl rfl hl.1 rfl (Nat.le_of_ble_eq_true rfl) dX8_text_13 ⟨Nat.le_refl _, Nat.le_refl _⟩ (fun u24 H lo hp hPS => ?_)
  obtain ⟨hp, hex, hfr⟩ := hp
  replace hF := xl_i hex hF
  obtain ⟨hwf, p25⟩ := hp
  have I : Wo w g s.heap u24 H lo := ⟨hPS.1, hPS.2, hwf⟩
  have rzu24 : ∀ k j : Nat, ¬ ((k = k0 ∧ 3 ≤ j ∧ j ≤ 18) ∨ k = k0 + 1 ∨ k = k0 + 3 ∨ k = k0 + 4) → u24.1 k j = v.1 k j := fun k j h => (hfr k j (fun z => h (by rcases z with z | z <;> omega))).trans (rzv23 k j h)
  have ryu24 : ∀ k j : Nat, ¬ ((k = k0 ∧ 6 ≤ j ∧ j ≤ 18) ∨ k = k0 + 4) → u24.1 k j = v.1 k j := fun k j h => (hfr k j (fun z => h (by rcases z with z | z <;> omega))).trans (ryv23 k j h)
  refine lv_aload_n hx hb dX8_text_16 rfl (lv_at hl 1 rfl) ?_
  refine cVv E I (c_X8_next1 l w g u24 k0 E.2.2.1 I.2.2 h_k0  ) (cwV 0 E.1.2.2.2.2 (gWs (C := "StarWalkModel") mw_5_40 mw_5_42 mw_s_28 mw_1_9 mw_5_43) rfl rfl rfl (by decide +kernel) ⟨by decide, by decide⟩) h_k0.1.1 ((ce_o h_k0.1.2).trans rfl) rfl rfl hl.1 rfl (Nat.le_of_ble_eq_true rfl) dX8_text_17 ⟨Nat.le_refl _, Nat.le_refl _⟩ (fun u26 H lo hp hPS => ?_)
  obtain ⟨hp, hex, hfr⟩ := hp
  replace hF := xl_i hex hF
  obtain ⟨hwf, p27⟩ := hp
  have I : Wo w g s.heap u26 H lo := ⟨hPS.1, hPS.2, hwf⟩
  have p27_0 := p27.2.1
  have p27_1 := p27.2.2.1
  have p27_2 := p27.2.2.2
  have rzu26 : ∀ k j : Nat, ¬ ((k = k0 ∧ 3 ≤ j ∧ j ≤ 18) ∨ k = k0 + 1 ∨ k = k0 + 3 ∨ k = k0 + 4) → u26.1 k j = v.1 k j := fun k j h => (hfr k j (fun z => h (by omega))).trans (rzu24 k j h)
  have ryu26 : ∀ k j : Nat, ¬ ((k = k0 ∧ 6 ≤ j ∧ j ≤ 18) ∨ k = k0 + 4) → u26.1 k j = v.1 k j := fun k j h => (hfr k j (fun z => h (by omega))).trans (ryu24 k j h)
  exact L_20 (tm (u26.1 k0 13).toInt (u26.1 k0 17).toInt (u26.1 k0 15).toInt + 1) _ _ u26 I (0 : Int32) ryu26 rzu26 hF (Nat.lt_succ_self _) ls (lv_sub hl [1, 0] rfl)
