def F_X8_rule (k0 : Nat) (a0 : Int32) (v : St) : Int32 × St :=
xl (fun (v_82 : St) =>
xl ((23 : Int32) + a0) fun x1 =>
xl (x1 - (2 : Int32)) fun x2 =>
xl (v_82.1 (k0 + 1) x2.toNatClampNeg) fun x3 =>
(x3, v_82)) fun J_82 =>
xl (F_X8_starts k0 v) fun u4 =>
if a0.toInt = 0 then (
xl (u4.1 k0 3) fun x7 =>
(x7, u4)) else (
if a0.toInt = 1 then (
xl (u4.1 k0 4) fun x9 =>
(x9, u4)) else (
if a0.toInt = 2 then (
(J_82 u4)) else (
if a0.toInt = 3 then (
(J_82 u4)) else (
if a0.toInt = 4 then (
(J_82 u4)) else (
if a0.toInt = 5 then (
(J_82 u4)) else (
if a0.toInt = 6 then (
(J_82 u4)) else (
if a0.toInt = 7 then (
(J_82 u4)) else (
if a0.toInt = 8 then (
(J_82 u4)) else (
if a0.toInt = 9 then (
(J_82 u4)) else (
if a0.toInt = 10 then (
xl (u4.1 (k0 + 1) (31 : Int32).toNatClampNeg) fun x19 =>
xl ((1000 : Int32) + x19) fun x20 =>
(x20, u4)) else (
if a0.toInt = 11 then (
xl (F_X8_isAtWell k0 u4) fun r22 =>
xl (F_X8_flag r22 u4) fun r25 =>
(r25, u4)) else (
if a0.toInt = 12 then (
xl (u4.1 (k0 + 1) (32 : Int32).toNatClampNeg) fun x29 =>
(x29, u4)) else (
((-1 : Int32), u4))))))))))))))
set_option maxHeartbeats 4000000 in
set_option maxRecDepth 100000 in
theorem c_X8_rule (l : Launch) (w : Wp) (g : Nat → Nat → Int32) (v : St) (k0 : Nat) (a0 : Int32) (hq : Inj w) (hw : WF (wk w) g v) (h_k0 : oM w k0) : CTi w l yX8_rule (wsy yX8_rule prog_10_method_41_code 2 (some .int)) (rmL 3) [.ref (wq w k0), .int a0] v (fun (r : Int32) (u : St) => (WF (wk w) g u ∧ True) ∧ ((r, u) = F_X8_rule k0 a0 v) ∧ (∀ k j : Nat, ¬ (k = k0 + 2) → u.1 k j = v.1 k j)) := by
  generalize hpost : (fun (r : Int32) (u : St) => (WF (wk w) g u ∧ True) ∧ ((r, u) = F_X8_rule k0 a0 v) ∧ (∀ k j : Nat, ¬ (k = k0 + 2) → u.1 k j = v.1 k j)) = post
  refine CTi.of prog_10_method_41_code 2 (some .int) "StarWalkModel" (by decide +kernel) rfl hq hw (Nat.le_of_ble_eq_true rfl) ?_
  intro pg en s m ar bl me cd ls E I hr hlk hl
  have hx := E.1.1
  have hb := E.1.2.1
  have hl : lv_has ls 2 [(0, .ref (wq w k0)), (1, .int a0)] := hl
  obtain ⟨res, hres⟩ : ∃ z, z = F_X8_rule k0 a0 v := ⟨_, rfl⟩
  have hF := hres.symm
  unfold F_X8_rule at hF
  replace hres : res = F_X8_rule k0 a0 v := hres
  have rz0 : ∀ k j : Nat, ¬ (k = k0 + 2) → v.1 k j = v.1 k j := fun _ _ _ => rfl
  obtain ⟨J_82, eJ_82, hF⟩ := xl_e hF
  have B_82 : ∀ (H : Heap) (lo : List Loc) (v_82 : St), Wo w g s.heap v_82 H lo → (2 ≤ a0.toInt ∧ a0.toInt ≤ 9) → (∀ k j : Nat, ¬ (k = k0 + 2) → v_82.1 k j = v.1 k j) → (J_82 v_82 = res) → ∀ (ls : Array Slot), lv_has ls 2 [(0, .ref (wq w k0)), (1, .int a0)] → W pg l en (rmL 3) s m ar bl me cd H lo 0 0 (Zi w bl ar s post) (F0 m 82 ls []) := by
    intro H lo v_82 I  hE82_0 rB82_Z hF ls hl
    replace hF := ap1 eJ_82 hF
    refine lv_aload_n hx hb dX8_rule_82 rfl (lv_at hl 0 rfl) ?_
    refine g_StarWalkModel_st E I h_k0.1 mw_4_170 dX8_rule_83 ?_
    refine lv_bipush (v := 23) hx hb dX8_rule_86 (by decide) ?_
    refine lv_iload_n hx hb dX8_rule_88 rfl (lv_at hl 1 rfl) ?_
    refine lv_iadd hx hb dX8_rule_89 ?_
    refine lv_topi (fun x1 ex1 => ?_)
    replace hF := xl_i (ex1) hF
    have hx1 : x1.toInt = 23 + a0.toInt := by rw [ex1]; exact adI (a := 23) (b := a0.toInt) rfl rfl (by omega) (by omega)
    refine lv_iconst (v := 2) hx hb dX8_rule_90 (by decide) ?_
    refine lv_isub hx hb dX8_rule_91 ?_
    refine lv_topi (fun x2 ex2 => ?_)
    replace hF := xl_i (ex2) hF
    have hx2 : x2.toInt = x1.toInt - 2 := by rw [ex2]; exact sbI (a := x1.toInt) (b := 2) rfl rfl (by omega) (by omega)
    refine ga_30 E I h_k0.2.1 (by omega) dX8_rule_92 ?_
    refine lv_topi (fun x3 ex3 => ?_)
    replace hF := xl_i (ex3) hF
    have hx3 := ra_30 I h_k0.2.1 x2.toNatClampNeg
    rw [← ex3] at hx3
    have cix3 := cnI (x := x2) (by omega)
    simp only [okk] at hx3
    exact rI E I hr hlk rfl (by rw [← hpost]; exact ⟨⟨I.2.2, trivial⟩, hF.trans hres, rB82_Z⟩) dX8_rule_93
  refine lv_aload_n hx hb dX8_rule_0 rfl (lv_at hl 0 rfl) ?_
  refine cVv E I (c_X8_starts l w g v k0 E.2.2.1 I.2.2 h_k0  ) (cwV 0 E.1.2.2.2.2 (gWs (C := "StarWalkModel") mw_5_108 mw_5_110 mw_s_42 mw_1_9 mw_5_111) rfl rfl rfl (by decide +kernel) ⟨by decide, by decide⟩) h_k0.1.1 ((ce_o h_k0.1.2).trans rfl) rfl rfl hl.1 rfl (Nat.le_of_ble_eq_true rfl) dX8_rule_1 ⟨Nat.le_refl _, Nat.le_refl _⟩ (fun u4 H lo hp hPS => ?_)
  obtain ⟨hp, hex, hfr⟩ := hp
  replace hF := xl_i hex hF
  obtain ⟨hwf, p5⟩ := hp
  have I : Wo w g s.heap u4 H lo := ⟨hPS.1, hPS.2, hwf⟩
  have rzu4 : ∀ k j : Nat, ¬ (k = k0 + 2) → u4.1 k j = v.1 k j := fun k j h => (hfr k j (fun z => h (by omega))).trans (rz0 k j h)
  refine lv_iload_n hx hb dX8_rule_4 rfl (lv_at hl 1 rfl) ?_
  by_cases c6 : a0.toInt = 0
  ·
    replace hF := if_t c6 hF
    refine lv_tableIn hx hb dX8_rule_5 (by omega) (by omega) (by rw [c6]; rfl) (tgt := 72) (by decide) ?_
    refine lv_aload_n hx hb dX8_rule_72 rfl (lv_at hl 0 rfl) ?_
    refine g_StarWalkModel_stars E I h_k0.1 mw_4_173 dX8_rule_73 ?_
    refine lv_topi (fun x7 ex7 => ?_)
    replace hF := xl_i (ex7) hF
    have hx7 := r_StarWalkModel_stars I h_k0.1
    rw [← ex7] at hx7
    exact rI E I hr hlk rfl (by rw [← hpost]; exact ⟨⟨I.2.2, trivial⟩, hF.trans hres, rzu4⟩) dX8_rule_76
  replace hF := if_f c6 hF
  by_cases c8 : a0.toInt = 1
  ·
    replace hF := if_t c8 hF
    refine lv_tableIn hx hb dX8_rule_5 (by omega) (by omega) (by rw [c8]; rfl) (tgt := 77) (by decide) ?_
    refine lv_aload_n hx hb dX8_rule_77 rfl (lv_at hl 0 rfl) ?_
    refine g_StarWalkModel_walkers E I h_k0.1 mw_4_174 dX8_rule_78 ?_
    refine lv_topi (fun x9 ex9 => ?_)
    replace hF := xl_i (ex9) hF
    have hx9 := r_StarWalkModel_walkers I h_k0.1
    rw [← ex9] at hx9
    exact rI E I hr hlk rfl (by rw [← hpost]; exact ⟨⟨I.2.2, trivial⟩, hF.trans hres, rzu4⟩) dX8_rule_81
  replace hF := if_f c8 hF
  by_cases c10 : a0.toInt = 2
  ·
    replace hF := if_t c10 hF
    refine lv_tableIn hx hb dX8_rule_5 (by omega) (by omega) (by rw [c10]; rfl) (tgt := 82) (by decide) ?_
    exact B_82 _ _ u4 I  (by omega) rzu4 hF ls (lv_sub hl [0, 1] rfl)
  replace hF := if_f c10 hF
  by_cases c11 : a0.toInt = 3
  ·
    replace hF := if_t c11 hF
    refine lv_tableIn hx hb dX8_rule_5 (by omega) (by omega) (by rw [c11]; rfl) (tgt := 82) (by decide) ?_
    exact B_82 _ _ u4 I  (by omega) rzu4 hF ls (lv_sub hl [0, 1] rfl)
  replace hF := if_f c11 hF
  by_cases c12 : a0.toInt = 4
  ·
    replace hF := if_t c12 hF
    refine lv_tableIn hx hb dX8_rule_5 (by omega) (by omega) (by rw [c12]; rfl) (tgt := 82) (by decide) ?_
    exact B_82 _ _ u4 I  (by omega) rzu4 hF ls (lv_sub hl [0, 1] rfl)
  replace hF := if_f c12 hF
  by_cases c13 : a0.toInt = 5
  ·
    replace hF := if_t c13 hF
    refine lv_tableIn hx hb dX8_rule_5 (by omega) (by omega) (by rw [c13]; rfl) (tgt := 82) (by decide) ?_
    exact B_82 _ _ u4 I  (by omega) rzu4 hF ls (lv_sub hl [0, 1] rfl)
  replace hF := if_f c13 hF
  by_cases c14 : a0.toInt = 6
  ·
    replace hF := if_t c14 hF
    refine lv_tableIn hx hb dX8_rule_5 (by omega) (by omega) (by rw [c14]; rfl) (tgt := 82) (by decide) ?_
    exact B_82 _ _ u4 I  (by omega) rzu4 hF ls (lv_sub hl [0, 1] rfl)
  replace hF := if_f c14 hF
  by_cases c15 : a0.toInt = 7
  ·
    replace hF := if_t c15 hF
    refine lv_tableIn hx hb dX8_rule_5 (by omega) (by omega) (by rw [c15]; rfl) (tgt := 82) (by decide) ?_
    exact B_82 _ _ u4 I  (by omega) rzu4 hF ls (lv_sub hl [0, 1] rfl)
  replace hF := if_f c15 hF
  by_cases c16 : a0.toInt = 8
  ·
    replace hF := if_t c16 hF
    refine lv_tableIn hx hb dX8_rule_5 (by omega) (by omega) (by rw [c16]; rfl) (tgt := 82) (by decide) ?_
    exact B_82 _ _ u4 I  (by omega) rzu4 hF ls (lv_sub hl [0, 1] rfl)
  replace hF := if_f c16 hF
  by_cases c17 : a0.toInt = 9
  ·
    replace hF := if_t c17 hF
    refine lv_tableIn hx hb dX8_rule_5 (by omega) (by omega) (by rw [c17]; rfl) (tgt := 82) (by decide) ?_
    exact B_82 _ _ u4 I  (by omega) rzu4 hF ls (lv_sub hl [0, 1] rfl)
  replace hF := if_f c17 hF
  by_cases c18 : a0.toInt = 10
  ·
    replace hF := if_t c18 hF
    refine lv_tableIn hx hb dX8_rule_5 (by omega) (by omega) (by rw [c18]; rfl) (tgt := 94) (by decide) ?_
    refine lv_sipush (v := 1000) hx hb dX8_rule_94 (by decide) ?_
    refine lv_aload_n hx hb dX8_rule_97 rfl (lv_at hl 0 rfl) ?_
    refine g_StarWalkModel_st E I h_k0.1 mw_4_170 dX8_rule_98 ?_
    refine lv_bipush (v := 31) hx hb dX8_rule_101 (by decide) ?_
    refine ga_30 E I h_k0.2.1 (by decide) dX8_rule_103 ?_
    refine lv_topi (fun x19 ex19 => ?_)
    replace hF := xl_i (ex19) hF
    refine lv_iadd hx hb dX8_rule_104 ?_
    refine lv_topi (fun x20 ex20 => ?_)
    replace hF := xl_i (ex20) hF
    exact rI E I hr hlk rfl (by rw [← hpost]; exact ⟨⟨I.2.2, trivial⟩, hF.trans hres, rzu4⟩) dX8_rule_105
  replace hF := if_f c18 hF
  by_cases c21 : a0.toInt = 11
  ·
    replace hF := if_t c21 hF
    refine lv_tableIn hx hb dX8_rule_5 (by omega) (by omega) (by rw [c21]; rfl) (tgt := 106) (by decide) ?_
    refine lv_aload_n hx hb dX8_rule_106 rfl (lv_at hl 0 rfl) ?_
    refine cVi E I (c_X8_isAtWell l w g u4 k0 E.2.2.1 I.2.2 h_k0  ) (cwV 0 E.1.2.2.2.2 (gWs (C := "StarWalkModel") mw_5_112 mw_5_114 mw_s_43 mw_1_9 mw_5_115) rfl rfl rfl (by decide +kernel) ⟨by decide, by decide⟩) h_k0.1.1 ((ce_o h_k0.1.2).trans rfl) rfl rfl hl.1 rfl (Nat.le_of_ble_eq_true rfl) dX8_rule_107 ⟨Nat.le_refl _, Nat.le_refl _⟩ (fun r22 u23 H lo hp hPS => ?_)
    obtain ⟨hp, hex, hfr⟩ := hp
    replace hF := xl_i hex hF
    obtain ⟨hu, p24⟩ := hp
    rw [hu] at hPS
    have I : Wo w g s.heap u4 H lo := ⟨hPS.1, hPS.2, I.2.2⟩
    refine cSi E I (c_X8_flag l w g u4 r22 E.2.2.1 I.2.2   ) (va_cwS 1 E.1.2.2.2.2 (gSs mw_5_119 mw_5_120 mw_1_9 mw_5_121) rfl rfl rfl (by decide +kernel) ⟨by decide, by decide⟩) rfl hl.1 rfl (Nat.le_of_ble_eq_true rfl) dX8_rule_110 ⟨Nat.le_refl _, Nat.le_refl _⟩ (fun r25 u26 H lo hp hPS => ?_)
    obtain ⟨hp, hex, hfr⟩ := hp
    replace hF := xl_i hex hF
    obtain ⟨hu, p27⟩ := hp
    rw [hu] at hPS
    have I : Wo w g s.heap u4 H lo := ⟨hPS.1, hPS.2, I.2.2⟩
    exact rI E I hr hlk rfl (by rw [← hpost]; exact ⟨⟨I.2.2, trivial⟩, hF.trans hres, rzu4⟩) dX8_rule_113
  replace hF := if_f c21 hF
  by_cases c28 : a0.toInt = 12
  ·
    replace hF := if_t c28 hF
    refine lv_tableIn hx hb dX8_rule_5 (by omega) (by omega) (by rw [c28]; rfl) (tgt := 114) (by decide) ?_
    refine lv_aload_n hx hb dX8_rule_114 rfl (lv_at hl 0 rfl) ?_
    refine g_StarWalkModel_st E I h_k0.1 mw_4_170 dX8_rule_115 ?_
    refine lv_bipush (v := 32) hx hb dX8_rule_118 (by decide) ?_
    refine ga_30 E I h_k0.2.1 (by decide) dX8_rule_120 ?_
    refine lv_topi (fun x29 ex29 => ?_)
    replace hF := xl_i (ex29) hF
    have hx29 : 0 ≤ x29.toInt ∧ x29.toInt ≤ 8 := by have h := ra_30 I h_k0.2.1 32; rw [ex29]; exact h.2.2.1 rfl
    exact rI E I hr hlk rfl (by rw [← hpost]; exact ⟨⟨I.2.2, trivial⟩, hF.trans hres, rzu4⟩) dX8_rule_121
  replace hF := if_f c28 hF
  refine lv_tableOut hx hb dX8_rule_5 (by omega) (tgt := 122) (by decide) ?_
  refine lv_iconst (v := (-1)) hx hb dX8_rule_122 (by decide) ?_
  exact rI E I hr hlk rfl (by rw [← hpost]; exact ⟨⟨I.2.2, trivial⟩, hF.trans hres, rzu4⟩) dX8_rule_123
def F_X8_star (k0 : Nat) (a0 : Int32) (a1 : Int32) (v : St) : Int32 :=
xl (F_X8_isStar k0 a0 v) fun r1 =>
if r1.toInt = 0 then (
(-1 : Int32)) else (
xl (F_X8_in a1.toInt64 (0 : Int64) (3 : Int64) v) fun r6 =>
if r6.toInt = 0 then (
(-1 : Int32)) else (
xl ((4 : Int32) * a0) fun x13 =>
xl (x13 + a1) fun x14 =>
xl (v.1 (k0 + 1) x14.toNatClampNeg) fun x15 =>
x15))
set_option maxHeartbeats 4000000 in
set_option maxRecDepth 100000 in
theorem c_X8_star (l : Launch) (w : Wp) (g : Nat → Nat → Int32) (v : St) (k0 : Nat) (a0 : Int32) (a1 : Int32) (hq : Inj w) (hw : WF (wk w) g v) (h_k0 : oM w k0) : CTi w l yX8_star (wsy yX8_star prog_10_method_42_code 3 (some .int)) (rmL 3) [.ref (wq w k0), .int a0, .int a1] v (fun (r : Int32) (u : St) => (u = v ∧ True) ∧ (r = F_X8_star k0 a0 a1 v) ∧ True) := by
  generalize hpost : (fun (r : Int32) (u : St) => (u = v ∧ True) ∧ (r = F_X8_star k0 a0 a1 v) ∧ True) = post
  refine CTi.of prog_10_method_42_code 3 (some .int) "StarWalkModel" (by decide +kernel) rfl hq hw (Nat.le_of_ble_eq_true rfl) ?_
  intro pg en s m ar bl me cd ls E I hr hlk hl
  have hx := E.1.1
  have hb := E.1.2.1
  have hl : lv_has ls 3 [(0, .ref (wq w k0)), (1, .int a0), (2, .int a1)] := hl
  obtain ⟨res, hres⟩ : ∃ z, z = F_X8_star k0 a0 a1 v := ⟨_, rfl⟩
  have hF := hres.symm
  unfold F_X8_star at hF
  replace hres : res = F_X8_star k0 a0 a1 v := hres
  refine lv_aload_n hx hb dX8_star_0 rfl (lv_at hl 0 rfl) ?_
  refine lv_iload_n hx hb dX8_star_1 rfl (lv_at hl 1 rfl) ?_
  refine cVi E I (c_X8_isStar l w g v k0 a0 E.2.2.1 I.2.2 h_k0  ) (cwV 1 E.1.2.2.2.2 (gWs (C := "StarWalkModel") mw_5_126 mw_5_128 mw_s_44 mw_1_9 mw_5_129) rfl rfl rfl (by decide +kernel) ⟨by decide, by decide⟩) h_k0.1.1 ((ce_o h_k0.1.2).trans rfl) rfl rfl hl.1 rfl (Nat.le_of_ble_eq_true rfl) dX8_star_2 ⟨Nat.le_refl _, Nat.le_refl _⟩ (fun r1 u2 H lo hp hPS => ?_)
  obtain ⟨hp, hex, hfr⟩ := hp
  replace hF := xl_i hex hF
  obtain ⟨hu, p3⟩ := hp
  rw [hu] at hPS
  have I : Wo w g s.heap v H lo := ⟨hPS.1, hPS.2, I.2.2⟩
  refine bz_eq E (a := r1.toInt) rfl (tgt := 33) dX8_star_5 (by decide) (fun c4 => ?_) (fun c4 => ?_)
  ·
    replace hF := if_t c4 hF
    refine lv_iconst (v := (-1)) hx hb dX8_star_33 (by decide) ?_
    exact rI E I hr hlk rfl (by rw [← hpost]; exact ⟨⟨rfl, trivial⟩, hF.trans hres, trivial⟩) dX8_star_34
  ·
    replace hF := if_f c4 hF
    refine lv_iload_n hx hb dX8_star_8 rfl (lv_at hl 2 rfl) ?_
    refine lv_i2l (v := a1.toInt64) hx hb dX8_star_9 rfl ?_
    refine lv_lconst (v := 0) hx hb dX8_star_10 (by decide) ?_
    refine lv_ldc2 (own := "StarWalkModel") hx hb E.1.2.2.2.1 (Ew E mw_5_130 rfl) dX8_star_11 ?_
    refine cSi E I (c_X8_in l w g v a1.toInt64 (0 : Int64) (3 : Int64) E.2.2.1 I.2.2   ) (va_cwS 3 E.1.2.2.2.2 (gSs mw_5_29 mw_5_30 mw_1_9 mw_5_31) rfl rfl rfl (by decide +kernel) ⟨by decide, by decide⟩) rfl hl.1 rfl (Nat.le_of_ble_eq_true rfl) dX8_star_14 ⟨Nat.le_refl _, Nat.le_refl _⟩ (fun r6 u7 H lo hp hPS => ?_)
    have iz8 := i64_of a1
    have iz9 : (0 : Int64).toInt = 0 := rfl
    have iz10 : (3 : Int64).toInt = 3 := rfl
    obtain ⟨hp, hex, hfr⟩ := hp
    replace hF := xl_i hex hF
    obtain ⟨hu, p11⟩ := hp
    rw [hu] at hPS
    have I : Wo w g s.heap v H lo := ⟨hPS.1, hPS.2, I.2.2⟩
    refine bz_eq E (a := r6.toInt) rfl (tgt := 33) dX8_star_17 (by decide) (fun c12 => ?_) (fun c12 => ?_)
    ·
      replace hF := if_t c12 hF
      refine lv_iconst (v := (-1)) hx hb dX8_star_33 (by decide) ?_
      exact rI E I hr hlk rfl (by rw [← hpost]; exact ⟨⟨rfl, trivial⟩, hF.trans hres, trivial⟩) dX8_star_34
    ·
      replace hF := if_f c12 hF
      refine lv_aload_n hx hb dX8_star_20 rfl (lv_at hl 0 rfl) ?_
      refine g_StarWalkModel_st E I h_k0.1 mw_4_170 dX8_star_21 ?_
      refine lv_iconst (v := 4) hx hb dX8_star_24 (by decide) ?_
      refine lv_iload_n hx hb dX8_star_25 rfl (lv_at hl 1 rfl) ?_
      refine lv_imul hx hb dX8_star_26 ?_
      refine lv_topi (fun x13 ex13 => ?_)
      replace hF := xl_i (ex13) hF
      have hx13 : x13.toInt = 4 * a0.toInt := by rw [ex13]; exact mlI (a := 4) (b := a0.toInt) rfl rfl (by omega) (by omega)
      refine lv_iload_n hx hb dX8_star_27 rfl (lv_at hl 2 rfl) ?_
      refine lv_iadd hx hb dX8_star_28 ?_
      refine lv_topi (fun x14 ex14 => ?_)
      replace hF := xl_i (ex14) hF
      have hx14 : x14.toInt = x13.toInt + a1.toInt := by rw [ex14]; exact adI (a := x13.toInt) (b := a1.toInt) rfl rfl (by omega) (by omega)
      refine ga_30 E I h_k0.2.1 (by omega) dX8_star_29 ?_
      refine lv_topi (fun x15 ex15 => ?_)
      replace hF := xl_i (ex15) hF
      refine lv_goto (tgt := 34) hx hb dX8_star_30 (by decide) ?_
      exact rI E I hr hlk rfl (by rw [← hpost]; exact ⟨⟨rfl, trivial⟩, hF.trans hres, trivial⟩) dX8_star_34
def F_X8_walker (k0 : Nat) (a0 : Int32) (v : St) : Int32 :=
xl (F_X8_isWalker k0 a0 v) fun r1 =>
if r1.toInt = 0 then (
(-1 : Int32)) else (
xl ((20 : Int32) + a0) fun x5 =>
xl (v.1 (k0 + 1) x5.toNatClampNeg) fun x6 =>
x6)
set_option maxHeartbeats 4000000 in
set_option maxRecDepth 100000 in
theorem c_X8_walker (l : Launch) (w : Wp) (g : Nat → Nat → Int32) (v : St) (k0 : Nat) (a0 : Int32) (hq : Inj w) (hw : WF (wk w) g v) (h_k0 : oM w k0) : CTi w l yX8_walker (wsy yX8_walker prog_10_method_43_code 2 (some .int)) (rmL 3) [.ref (wq w k0), .int a0] v (fun (r : Int32) (u : St) => (u = v ∧ True) ∧ (r = F_X8_walker k0 a0 v) ∧ True) := by
  generalize hpost : (fun (r : Int32) (u : St) => (u = v ∧ True) ∧ (r = F_X8_walker k0 a0 v) ∧ True) = post
  refine CTi.of prog_10_method_43_code 2 (some .int) "StarWalkModel" (by decide +kernel) rfl hq hw (Nat.le_of_ble_eq_true rfl) ?_
  intro pg en s m ar bl me cd ls E I hr hlk hl
  have hx := E.1.1
  have hb := E.1.2.1
  have hl : lv_has ls 2 [(0, .ref (wq w k0)), (1, .int a0)] := hl
  obtain ⟨res, hres⟩ : ∃ z, z = F_X8_walker k0 a0 v := ⟨_, rfl⟩
  have hF := hres.symm
  unfold F_X8_walker at hF
  replace hres : res = F_X8_walker k0 a0 v := hres
  refine lv_aload_n hx hb dX8_walker_0 rfl (lv_at hl 0 rfl) ?_
  refine lv_iload_n hx hb dX8_walker_1 rfl (lv_at hl 1 rfl) ?_
  refine cVi E I (c_X8_isWalker l w g v k0 a0 E.2.2.1 I.2.2 h_k0  ) (cwV 1 E.1.2.2.2.2 (gWs (C := "StarWalkModel") mw_5_135 mw_5_137 mw_s_45 mw_1_9 mw_5_138) rfl rfl rfl (by decide +kernel) ⟨by decide, by decide⟩) h_k0.1.1 ((ce_o h_k0.1.2).trans rfl) rfl rfl hl.1 rfl (Nat.le_of_ble_eq_true rfl) dX8_walker_2 ⟨Nat.le_refl _, Nat.le_refl _⟩ (fun r1 u2 H lo hp hPS => ?_)
  obtain ⟨hp, hex, hfr⟩ := hp
  replace hF := xl_i hex hF
  obtain ⟨hu, p3⟩ := hp
  rw [hu] at hPS
  have I : Wo w g s.heap v H lo := ⟨hPS.1, hPS.2, I.2.2⟩
  refine bz_eq E (a := r1.toInt) rfl (tgt := 20) dX8_walker_5 (by decide) (fun c4 => ?_) (fun c4 => ?_)
  ·
    replace hF := if_t c4 hF
    refine lv_iconst (v := (-1)) hx hb dX8_walker_20 (by decide) ?_
    exact rI E I hr hlk rfl (by rw [← hpost]; exact ⟨⟨rfl, trivial⟩, hF.trans hres, trivial⟩) dX8_walker_21
  ·
    replace hF := if_f c4 hF
    refine lv_aload_n hx hb dX8_walker_8 rfl (lv_at hl 0 rfl) ?_
    refine g_StarWalkModel_st E I h_k0.1 mw_4_170 dX8_walker_9 ?_
    refine lv_bipush (v := 20) hx hb dX8_walker_12 (by decide) ?_
    refine lv_iload_n hx hb dX8_walker_14 rfl (lv_at hl 1 rfl) ?_
    refine lv_iadd hx hb dX8_walker_15 ?_
    refine lv_topi (fun x5 ex5 => ?_)
    replace hF := xl_i (ex5) hF
    have hx5 : x5.toInt = 20 + a0.toInt := by rw [ex5]; exact adI (a := 20) (b := a0.toInt) rfl rfl (by omega) (by omega)
    refine ga_30 E I h_k0.2.1 (by omega) dX8_walker_16 ?_
    refine lv_topi (fun x6 ex6 => ?_)
    replace hF := xl_i (ex6) hF
    refine lv_goto (tgt := 21) hx hb dX8_walker_17 (by decide) ?_
    exact rI E I hr hlk rfl (by rw [← hpost]; exact ⟨⟨rfl, trivial⟩, hF.trans hres, trivial⟩) dX8_walker_21
def F_X8_plan (k0 : Nat) (a0 : Int32) (v : St) : Int32 :=
xl (v.1 (k0 + 1) (32 : Int32).toNatClampNeg) fun x2 =>
xl (x2 - (1 : Int32)) fun x3 =>
xl (F_X8_in a0.toInt64 (0 : Int64) x3.toInt64 v) fun r5 =>
if r5.toInt = 0 then (
(-1 : Int32)) else (
xl ((33 : Int32) + a0) fun x12 =>
xl (v.1 (k0 + 1) x12.toNatClampNeg) fun x13 =>
x13)
set_option maxHeartbeats 4000000 in
set_option maxRecDepth 100000 in
theorem c_X8_plan (l : Launch) (w : Wp) (g : Nat → Nat → Int32) (v : St) (k0 : Nat) (a0 : Int32) (hq : Inj w) (hw : WF (wk w) g v) (h_k0 : oM w k0) : CTi w l yX8_plan (wsy yX8_plan prog_10_method_44_code 2 (some .int)) (rmL 2) [.ref (wq w k0), .int a0] v (fun (r : Int32) (u : St) => (u = v ∧ True) ∧ (r = F_X8_plan k0 a0 v) ∧ True) := by
  generalize hpost : (fun (r : Int32) (u : St) => (u = v ∧ True) ∧ (r = F_X8_plan k0 a0 v) ∧ True) = post
  refine CTi.of prog_10_method_44_code 2 (some .int) "StarWalkModel" (by decide +kernel) rfl hq hw (Nat.le_of_ble_eq_true rfl) ?_
  intro pg en s m ar bl me cd ls E I hr hlk hl
  have hx := E.1.1
  have hb := E.1.2.1
  have hl : lv_has ls 2 [(0, .ref (wq w k0)), (1, .int a0)] := hl
  obtain ⟨res, hres⟩ : ∃ z, z = F_X8_plan k0 a0 v := ⟨_, rfl⟩
  have hF := hres.symm
  unfold F_X8_plan at hF
  replace hres : res = F_X8_plan k0 a0 v := hres
  refine lv_iload_n hx hb dX8_plan_0 rfl (lv_at hl 1 rfl) ?_
  refine lv_i2l (v := a0.toInt64) hx hb dX8_plan_1 rfl ?_
  refine lv_lconst (v := 0) hx hb dX8_plan_2 (by decide) ?_
  refine lv_aload_n hx hb dX8_plan_3 rfl (lv_at hl 0 rfl) ?_
  refine g_StarWalkModel_st E I h_k0.1 mw_4_170 dX8_plan_4 ?_
  refine lv_bipush (v := 32) hx hb dX8_plan_7 (by decide) ?_
  refine ga_30 E I h_k0.2.1 (by decide) dX8_plan_9 ?_
  refine lv_topi (fun x2 ex2 => ?_)
  replace hF := xl_i (ex2) hF
  have hx2 : 0 ≤ x2.toInt ∧ x2.toInt ≤ 8 := by have h := ra_30 I h_k0.2.1 32; rw [ex2]; exact h.2.2.1 rfl
  refine lv_iconst (v := 1) hx hb dX8_plan_10 (by decide) ?_
  refine lv_isub hx hb dX8_plan_11 ?_
  refine lv_topi (fun x3 ex3 => ?_)
  replace hF := xl_i (ex3) hF
  have hx3 : x3.toInt = x2.toInt - 1 := by rw [ex3]; exact sbI (a := x2.toInt) (b := 1) rfl rfl (by omega) (by omega)
  refine lv_i2l (v := x3.toInt64) hx hb dX8_plan_12 rfl ?_
  refine cSi E I (c_X8_in l w g v a0.toInt64 (0 : Int64) x3.toInt64 E.2.2.1 I.2.2   ) (va_cwS 3 E.1.2.2.2.2 (gSs mw_5_29 mw_5_30 mw_1_9 mw_5_31) rfl rfl rfl (by decide +kernel) ⟨by decide, by decide⟩) rfl hl.1 rfl (Nat.le_of_ble_eq_true rfl) dX8_plan_13 ⟨Nat.le_refl _, Nat.le_refl _⟩ (fun r5 u6 H lo hp hPS => ?_)
  have iz7 := i64_of a0
  have iz8 : (0 : Int64).toInt = 0 := rfl
  have iz9 := i64_of x3
  obtain ⟨hp, hex, hfr⟩ := hp
  replace hF := xl_i hex hF
  obtain ⟨hu, p10⟩ := hp
  rw [hu] at hPS
  have I : Wo w g s.heap v H lo := ⟨hPS.1, hPS.2, I.2.2⟩
  refine bz_eq E (a := r5.toInt) rfl (tgt := 31) dX8_plan_16 (by decide) (fun c11 => ?_) (fun c11 => ?_)
  ·
    replace hF := if_t c11 hF
    refine lv_iconst (v := (-1)) hx hb dX8_plan_31 (by decide) ?_
    exact rI E I hr hlk rfl (by rw [← hpost]; exact ⟨⟨rfl, trivial⟩, hF.trans hres, trivial⟩) dX8_plan_32
  ·
    replace hF := if_f c11 hF
    refine lv_aload_n hx hb dX8_plan_19 rfl (lv_at hl 0 rfl) ?_
    refine g_StarWalkModel_st E I h_k0.1 mw_4_170 dX8_plan_20 ?_
    refine lv_bipush (v := 33) hx hb dX8_plan_23 (by decide) ?_
    refine lv_iload_n hx hb dX8_plan_25 rfl (lv_at hl 1 rfl) ?_
    refine lv_iadd hx hb dX8_plan_26 ?_
    refine lv_topi (fun x12 ex12 => ?_)
    replace hF := xl_i (ex12) hF
    have hx12 : x12.toInt = 33 + a0.toInt := by rw [ex12]; exact adI (a := 33) (b := a0.toInt) rfl rfl (by omega) (by omega)
    refine ga_30 E I h_k0.2.1 (by omega) dX8_plan_27 ?_
    refine lv_topi (fun x13 ex13 => ?_)
    replace hF := xl_i (ex13) hF
    have hx13 := ra_30 I h_k0.2.1 x12.toNatClampNeg
    rw [← ex13] at hx13
    have hx13 : 0 ≤ x13.toInt ∧ x13.toInt ≤ 6 := by
      have ci := cnI (x := x12) (by omega)
      simp only [okk] at hx13
      omega
    refine lv_goto (tgt := 32) hx hb dX8_plan_28 (by decide) ?_
    exact rI E I hr hlk rfl (by rw [← hpost]; exact ⟨⟨rfl, trivial⟩, hF.trans hres, trivial⟩) dX8_plan_32
def F_X8_becomes (k0 : Nat) (a0 : Int32) (a1 : Int32) (v : St) : Int32 × St :=
xl (v.1 (k0 + 1) a0.toNatClampNeg) fun x1 =>
xl (up1 v (k0 + 1) a0.toNatClampNeg a1) fun v2 =>
(x1, v2)
set_option maxHeartbeats 4000000 in
set_option maxRecDepth 100000 in
theorem c_X8_becomes (l : Launch) (w : Wp) (g : Nat → Nat → Int32) (v : St) (k0 : Nat) (a0 : Int32) (a1 : Int32) (hq : Inj w) (hw : WF (wk w) g v) (h_k0 : oM w k0) (h_a0 : 0 ≤ a0.toInt ∧ a0.toInt ≤ 53) (hok : okk 30 a0.toNatClampNeg a1.toInt) : CTi w l yX8_becomes (wsy yX8_becomes prog_10_method_45_code 4 (some .int)) (rmL 1) [.ref (wq w k0), .int a0, .int a1] v (fun (r : Int32) (u : St) => (WF (wk w) g u ∧ True) ∧ ((r, u) = F_X8_becomes k0 a0 a1 v) ∧ (∀ k j : Nat, ¬ (k = k0 + 1) → u.1 k j = v.1 k j)) := by
  generalize hpost : (fun (r : Int32) (u : St) => (WF (wk w) g u ∧ True) ∧ ((r, u) = F_X8_becomes k0 a0 a1 v) ∧ (∀ k j : Nat, ¬ (k = k0 + 1) → u.1 k j = v.1 k j)) = post
  refine CTi.of prog_10_method_45_code 4 (some .int) "StarWalkModel" (by decide +kernel) rfl hq hw (Nat.le_of_ble_eq_true rfl) ?_
  intro pg en s m ar bl me cd ls E I hr hlk hl
  have hx := E.1.1
  have hb := E.1.2.1
  have hl : lv_has ls 4 [(0, .ref (wq w k0)), (1, .int a0), (2, .int a1)] := hl
  obtain ⟨res, hres⟩ : ∃ z, z = F_X8_becomes k0 a0 a1 v := ⟨_, rfl⟩
  have hF := hres.symm
  unfold F_X8_becomes at hF
  replace hres : res = F_X8_becomes k0 a0 a1 v := hres
  have rz0 : ∀ k j : Nat, ¬ (k = k0 + 1) → v.1 k j = v.1 k j := fun _ _ _ => rfl
  refine lv_aload_n hx hb dX8_becomes_0 rfl (lv_at hl 0 rfl) ?_
  refine g_StarWalkModel_st E I h_k0.1 mw_4_170 dX8_becomes_1 ?_
  refine lv_iload_n hx hb dX8_becomes_4 rfl (lv_at hl 1 rfl) ?_
  refine ga_30 E I h_k0.2.1 (by omega) dX8_becomes_5 ?_
  refine lv_topi (fun x1 ex1 => ?_)
  replace hF := xl_i (ex1) hF
  have hx1 := ra_30 I h_k0.2.1 a0.toNatClampNeg
  rw [← ex1] at hx1
  have cix1 := cnI (x := a0) (by omega)
  simp only [okk] at hx1
  refine lv_istore_n (lv' := [(3, .int x1), (0, .ref (wq w k0)), (1, .int a0), (2, .int a1)]) hx hb dX8_becomes_6 rfl hl (by decide) rfl (fun ls hl => ?_)
  refine lv_aload_n hx hb dX8_becomes_7 rfl (lv_at hl 1 rfl) ?_
  refine g_StarWalkModel_st E I h_k0.1 mw_4_170 dX8_becomes_8 ?_
  refine lv_iload_n hx hb dX8_becomes_11 rfl (lv_at hl 2 rfl) ?_
  refine lv_iload_n hx hb dX8_becomes_12 rfl (lv_at hl 3 rfl) ?_
  refine pa_30 E I h_k0.2.1 (by omega) (hok) dX8_becomes_13 (fun H lo I => ?_)
  generalize ev2 : up1 v (k0 + 1) a0.toNatClampNeg a1 = v2 at I
  replace hF := xl_i (ev2.symm) hF
  have rzv2 : ∀ k j : Nat, ¬ (k = k0 + 1) → v2.1 k j = v.1 k j := fun k j h => fz_u ev2 (by have cza0 := cnI (x := a0) (by omega); omega) (rz0 k j h)
  refine lv_iload_n hx hb dX8_becomes_14 rfl (lv_at hl 0 rfl) ?_
  exact rI E I hr hlk rfl (by rw [← hpost]; exact ⟨⟨I.2.2, trivial⟩, hF.trans hres, rzv2⟩) dX8_becomes_15
def F_X8_canBe (k0 : Nat) (a0 : Int32) (a1 : Int32) (v : St) : Int32 :=
if a0.toInt = 2 then (
xl (F_X8_isWalker k0 a1 v) fun r2 =>
r2) else (
if a0.toInt = 3 then (
xl (F_X8_in a1.toInt64 (1 : Int64) (40 : Int64) v) fun r7 =>
r7) else (
if a0.toInt = 4 then (
xl (F_X8_in a1.toInt64 (0 : Int64) (9 : Int64) v) fun r15 =>
r15) else (
if a0.toInt = 5 then (
xl (F_X8_in a1.toInt64 (0 : Int64) (10 : Int64) v) fun r23 =>
r23) else (
if a0.toInt = 6 then (
xl (F_X8_in a1.toInt64 (0 : Int64) (99 : Int64) v) fun r31 =>
r31) else (
(0 : Int32))))))
set_option maxHeartbeats 4000000 in
set_option maxRecDepth 100000 in
theorem c_X8_canBe (l : Launch) (w : Wp) (g : Nat → Nat → Int32) (v : St) (k0 : Nat) (a0 : Int32) (a1 : Int32) (hq : Inj w) (hw : WF (wk w) g v) (h_k0 : oM w k0) : CTi w l yX8_canBe (wsy yX8_canBe prog_10_method_46_code 3 (some .boolean)) (rmL 3) [.ref (wq w k0), .int a0, .int a1] v (fun (r : Int32) (u : St) => (u = v ∧ 0 ≤ r.toInt ∧ r.toInt ≤ 1 ∧ (¬ r.toInt = 0 → 2 ≤ a0.toInt ∧ a0.toInt ≤ 6 ∧ (a0.toInt = 2 → 0 ≤ a1.toInt ∧ a1.toInt ≤ 2))) ∧ (r = F_X8_canBe k0 a0 a1 v) ∧ True) := by
  generalize hpost : (fun (r : Int32) (u : St) => (u = v ∧ 0 ≤ r.toInt ∧ r.toInt ≤ 1 ∧ (¬ r.toInt = 0 → 2 ≤ a0.toInt ∧ a0.toInt ≤ 6 ∧ (a0.toInt = 2 → 0 ≤ a1.toInt ∧ a1.toInt ≤ 2))) ∧ (r = F_X8_canBe k0 a0 a1 v) ∧ True) = post
  refine CTi.of prog_10_method_46_code 3 (some .boolean) "StarWalkModel" (by decide +kernel) rfl hq hw (Nat.le_of_ble_eq_true rfl) ?_
  intro pg en s m ar bl me cd ls E I hr hlk hl
  have hx := E.1.1
  have hb := E.1.2.1
  have hl : lv_has ls 3 [(0, .ref (wq w k0)), (1, .int a0), (2, .int a1)] := hl
  obtain ⟨res, hres⟩ : ∃ z, z = F_X8_canBe k0 a0 a1 v := ⟨_, rfl⟩
  have hF := hres.symm
  unfold F_X8_canBe at hF
  replace hres : res = F_X8_canBe k0 a0 a1 v := hres
  refine lv_iload_n hx hb dX8_canBe_0 rfl (lv_at hl 1 rfl) ?_
  by_cases c1 : a0.toInt = 2
  ·
    replace hF := if_t c1 hF
    refine lv_tableIn hx hb dX8_canBe_1 (by omega) (by omega) (by rw [c1]; rfl) (tgt := 36) (by decide) ?_
    refine lv_aload_n hx hb dX8_canBe_36 rfl (lv_at hl 0 rfl) ?_
    refine lv_iload_n hx hb dX8_canBe_37 rfl (lv_at hl 2 rfl) ?_
    refine cVi E I (c_X8_isWalker l w g v k0 a1 E.2.2.1 I.2.2 h_k0  ) (cwV 1 E.1.2.2.2.2 (gWs (C := "StarWalkModel") mw_5_135 mw_5_137 mw_s_45 mw_1_9 mw_5_138) rfl rfl rfl (by decide +kernel) ⟨by decide, by decide⟩) h_k0.1.1 ((ce_o h_k0.1.2).trans rfl) rfl rfl hl.1 rfl (Nat.le_of_ble_eq_true rfl) dX8_canBe_38 ⟨Nat.le_refl _, Nat.le_refl _⟩ (fun r2 u3 H lo hp hPS => ?_)
    obtain ⟨hp, hex, hfr⟩ := hp
    replace hF := xl_i hex hF
    obtain ⟨hu, p4⟩ := hp
    rw [hu] at hPS
    have I : Wo w g s.heap v H lo := ⟨hPS.1, hPS.2, I.2.2⟩
    exact rI E I hr hlk (nbI (by omega)) (by rw [← hpost]; exact ⟨⟨rfl, by omega⟩, hF.trans hres, trivial⟩) dX8_canBe_41
  replace hF := if_f c1 hF
  by_cases c5 : a0.toInt = 3
  ·
    replace hF := if_t c5 hF
    refine lv_tableIn hx hb dX8_canBe_1 (by omega) (by omega) (by rw [c5]; rfl) (tgt := 42) (by decide) ?_
    refine lv_iload_n hx hb dX8_canBe_42 rfl (lv_at hl 2 rfl) ?_
    refine lv_i2l (v := a1.toInt64) hx hb dX8_canBe_43 rfl ?_
    refine lv_lconst (v := 1) hx hb dX8_canBe_44 (by decide) ?_
    refine lv_ldc2 (own := "StarWalkModel") hx hb E.1.2.2.2.1 (Ew E mw_5_151 rfl) dX8_canBe_45 ?_
    refine cSi E I (c_X8_in l w g v a1.toInt64 (1 : Int64) (40 : Int64) E.2.2.1 I.2.2   ) (va_cwS 3 E.1.2.2.2.2 (gSs mw_5_29 mw_5_30 mw_1_9 mw_5_31) rfl rfl rfl (by decide +kernel) ⟨by decide, by decide⟩) rfl hl.1 rfl (Nat.le_of_ble_eq_true rfl) dX8_canBe_48 ⟨Nat.le_refl _, Nat.le_refl _⟩ (fun r7 u8 H lo hp hPS => ?_)
    have iz9 := i64_of a1
    have iz10 : (1 : Int64).toInt = 1 := rfl
    have iz11 : (40 : Int64).toInt = 40 := rfl
    obtain ⟨hp, hex, hfr⟩ := hp
    replace hF := xl_i hex hF
    obtain ⟨hu, p12⟩ := hp
    rw [hu] at hPS
    have I : Wo w g s.heap v H lo := ⟨hPS.1, hPS.2, I.2.2⟩
    exact rI E I hr hlk (nbI (by omega)) (by rw [← hpost]; exact ⟨⟨rfl, by omega⟩, hF.trans hres, trivial⟩) dX8_canBe_51
  replace hF := if_f c5 hF
  by_cases c13 : a0.toInt = 4
  ·
    replace hF := if_t c13 hF
    refine lv_tableIn hx hb dX8_canBe_1 (by omega) (by omega) (by rw [c13]; rfl) (tgt := 52) (by decide) ?_
    refine lv_iload_n hx hb dX8_canBe_52 rfl (lv_at hl 2 rfl) ?_
    refine lv_i2l (v := a1.toInt64) hx hb dX8_canBe_53 rfl ?_
    refine lv_lconst (v := 0) hx hb dX8_canBe_54 (by decide) ?_
    refine lv_ldc2 (own := "StarWalkModel") hx hb E.1.2.2.2.1 (Ew E mw_5_152 rfl) dX8_canBe_55 ?_
    refine cSi E I (c_X8_in l w g v a1.toInt64 (0 : Int64) (9 : Int64) E.2.2.1 I.2.2   ) (va_cwS 3 E.1.2.2.2.2 (gSs mw_5_29 mw_5_30 mw_1_9 mw_5_31) rfl rfl rfl (by decide +kernel) ⟨by decide, by decide⟩) rfl hl.1 rfl (Nat.le_of_ble_eq_true rfl) dX8_canBe_58 ⟨Nat.le_refl _, Nat.le_refl _⟩ (fun r15 u16 H lo hp hPS => ?_)
    have iz17 := i64_of a1
    have iz18 : (0 : Int64).toInt = 0 := rfl
    have iz19 : (9 : Int64).toInt = 9 := rfl
    obtain ⟨hp, hex, hfr⟩ := hp
    replace hF := xl_i hex hF
    obtain ⟨hu, p20⟩ := hp
    rw [hu] at hPS
    have I : Wo w g s.heap v H lo := ⟨hPS.1, hPS.2, I.2.2⟩
    exact rI E I hr hlk (nbI (by omega)) (by rw [← hpost]; exact ⟨⟨rfl, by omega⟩, hF.trans hres, trivial⟩) dX8_canBe_61
  replace hF := if_f c13 hF
  by_cases c21 : a0.toInt = 5
  ·
    replace hF := if_t c21 hF
    refine lv_tableIn hx hb dX8_canBe_1 (by omega) (by omega) (by rw [c21]; rfl) (tgt := 62) (by decide) ?_
    refine lv_iload_n hx hb dX8_canBe_62 rfl (lv_at hl 2 rfl) ?_
    refine lv_i2l (v := a1.toInt64) hx hb dX8_canBe_63 rfl ?_
    refine lv_lconst (v := 0) hx hb dX8_canBe_64 (by decide) ?_
    refine lv_ldc2 (own := "StarWalkModel") hx hb E.1.2.2.2.1 (Ew E mw_5_153 rfl) dX8_canBe_65 ?_
    refine cSi E I (c_X8_in l w g v a1.toInt64 (0 : Int64) (10 : Int64) E.2.2.1 I.2.2   ) (va_cwS 3 E.1.2.2.2.2 (gSs mw_5_29 mw_5_30 mw_1_9 mw_5_31) rfl rfl rfl (by decide +kernel) ⟨by decide, by decide⟩) rfl hl.1 rfl (Nat.le_of_ble_eq_true rfl) dX8_canBe_68 ⟨Nat.le_refl _, Nat.le_refl _⟩ (fun r23 u24 H lo hp hPS => ?_)
    have iz25 := i64_of a1
    have iz26 : (0 : Int64).toInt = 0 := rfl
    have iz27 : (10 : Int64).toInt = 10 := rfl
    obtain ⟨hp, hex, hfr⟩ := hp
    replace hF := xl_i hex hF
    obtain ⟨hu, p28⟩ := hp
    rw [hu] at hPS
    have I : Wo w g s.heap v H lo := ⟨hPS.1, hPS.2, I.2.2⟩
    exact rI E I hr hlk (nbI (by omega)) (by rw [← hpost]; exact ⟨⟨rfl, by omega⟩, hF.trans hres, trivial⟩) dX8_canBe_71
  replace hF := if_f c21 hF
  by_cases c29 : a0.toInt = 6
  ·
    replace hF := if_t c29 hF
    refine lv_tableIn hx hb dX8_canBe_1 (by omega) (by omega) (by rw [c29]; rfl) (tgt := 72) (by decide) ?_
    refine lv_iload_n hx hb dX8_canBe_72 rfl (lv_at hl 2 rfl) ?_
    refine lv_i2l (v := a1.toInt64) hx hb dX8_canBe_73 rfl ?_
    refine lv_lconst (v := 0) hx hb dX8_canBe_74 (by decide) ?_
    refine lv_ldc2 (own := "StarWalkModel") hx hb E.1.2.2.2.1 (Ew E mw_5_154 rfl) dX8_canBe_75 ?_
    refine cSi E I (c_X8_in l w g v a1.toInt64 (0 : Int64) (99 : Int64) E.2.2.1 I.2.2   ) (va_cwS 3 E.1.2.2.2.2 (gSs mw_5_29 mw_5_30 mw_1_9 mw_5_31) rfl rfl rfl (by decide +kernel) ⟨by decide, by decide⟩) rfl hl.1 rfl (Nat.le_of_ble_eq_true rfl) dX8_canBe_78 ⟨Nat.le_refl _, Nat.le_refl _⟩ (fun r31 u32 H lo hp hPS => ?_)
    have iz33 := i64_of a1
    have iz34 : (0 : Int64).toInt = 0 := rfl
    have iz35 : (99 : Int64).toInt = 99 := rfl
    obtain ⟨hp, hex, hfr⟩ := hp
    replace hF := xl_i hex hF
    obtain ⟨hu, p36⟩ := hp
    rw [hu] at hPS
    have I : Wo w g s.heap v H lo := ⟨hPS.1, hPS.2, I.2.2⟩
    exact rI E I hr hlk (nbI (by omega)) (by rw [← hpost]; exact ⟨⟨rfl, by omega⟩, hF.trans hres, trivial⟩) dX8_canBe_81
  replace hF := if_f c29 hF
  refine lv_tableOut hx hb dX8_canBe_1 (by omega) (tgt := 82) (by decide) ?_
  refine lv_iconst (v := 0) hx hb dX8_canBe_82 (by decide) ?_
  exact rI E I hr hlk rfl (by rw [← hpost]; exact ⟨⟨rfl, by have eL : (0 : Int32).toInt = 0 := rfl; omega⟩, hF.trans hres, trivial⟩) dX8_canBe_83
def F_X8_set (k0 : Nat) (a0 : Int32) (a1 : Int32) (v : St) : Int32 × St :=
xl (F_X8_canBe k0 a0 a1 v) fun r1 =>
if r1.toInt = 0 then (
((-1 : Int32), v)) else (
xl ((23 : Int32) + a0) fun x5 =>
xl (x5 - (2 : Int32)) fun x6 =>
xm (F_X8_becomes k0 x6 a1 v) fun r7 u8 =>
(r7, u8))
set_option maxHeartbeats 4000000 in
set_option maxRecDepth 100000 in
theorem c_X8_set (l : Launch) (w : Wp) (g : Nat → Nat → Int32) (v : St) (k0 : Nat) (a0 : Int32) (a1 : Int32) (hq : Inj w) (hw : WF (wk w) g v) (h_k0 : oM w k0) : CTi w l yX8_set (wsy yX8_set prog_10_method_47_code 3 (some .int)) (rmL 4) [.ref (wq w k0), .int a0, .int a1] v (fun (r : Int32) (u : St) => (WF (wk w) g u ∧ True) ∧ ((r, u) = F_X8_set k0 a0 a1 v) ∧ (∀ k j : Nat, ¬ (k = k0 + 1) → u.1 k j = v.1 k j)) := by
  generalize hpost : (fun (r : Int32) (u : St) => (WF (wk w) g u ∧ True) ∧ ((r, u) = F_X8_set k0 a0 a1 v) ∧ (∀ k j : Nat, ¬ (k = k0 + 1) → u.1 k j = v.1 k j)) = post
  refine CTi.of prog_10_method_47_code 3 (some .int) "StarWalkModel" (by decide +kernel) rfl hq hw (Nat.le_of_ble_eq_true rfl) ?_
  intro pg en s m ar bl me cd ls E I hr hlk hl
  have hx := E.1.1
  have hb := E.1.2.1
  have hl : lv_has ls 3 [(0, .ref (wq w k0)), (1, .int a0), (2, .int a1)] := hl
  obtain ⟨res, hres⟩ : ∃ z, z = F_X8_set k0 a0 a1 v := ⟨_, rfl⟩
  have hF := hres.symm
  unfold F_X8_set at hF
  replace hres : res = F_X8_set k0 a0 a1 v := hres
  have rz0 : ∀ k j : Nat, ¬ (k = k0 + 1) → v.1 k j = v.1 k j := fun _ _ _ => rfl
  refine lv_aload_n hx hb dX8_set_0 rfl (lv_at hl 0 rfl) ?_
  refine lv_iload_n hx hb dX8_set_1 rfl (lv_at hl 1 rfl) ?_
  refine lv_iload_n hx hb dX8_set_2 rfl (lv_at hl 2 rfl) ?_
  refine cVi E I (c_X8_canBe l w g v k0 a0 a1 E.2.2.1 I.2.2 h_k0  ) (cwV 2 E.1.2.2.2.2 (gWs (C := "StarWalkModel") mw_5_147 mw_5_149 mw_s_46 mw_1_9 mw_5_150) rfl rfl rfl (by decide +kernel) ⟨by decide, by decide⟩) h_k0.1.1 ((ce_o h_k0.1.2).trans rfl) rfl rfl hl.1 rfl (Nat.le_of_ble_eq_true rfl) dX8_set_3 ⟨Nat.le_refl _, Nat.le_refl _⟩ (fun r1 u2 H lo hp hPS => ?_)
  obtain ⟨hp, hex, hfr⟩ := hp
  replace hF := xl_i hex hF
  obtain ⟨hu, p3⟩ := hp
  rw [hu] at hPS
  have I : Wo w g s.heap v H lo := ⟨hPS.1, hPS.2, I.2.2⟩
  refine bz_eq E (a := r1.toInt) rfl (tgt := 23) dX8_set_6 (by decide) (fun c4 => ?_) (fun c4 => ?_)
  ·
    replace hF := if_t c4 hF
    refine lv_iconst (v := (-1)) hx hb dX8_set_23 (by decide) ?_
    exact rI E I hr hlk rfl (by rw [← hpost]; exact ⟨⟨I.2.2, trivial⟩, hF.trans hres, rz0⟩) dX8_set_24
  ·
    replace hF := if_f c4 hF
    refine lv_aload_n hx hb dX8_set_9 rfl (lv_at hl 0 rfl) ?_
    refine lv_bipush (v := 23) hx hb dX8_set_10 (by decide) ?_
    refine lv_iload_n hx hb dX8_set_12 rfl (lv_at hl 1 rfl) ?_
    refine lv_iadd hx hb dX8_set_13 ?_
    refine lv_topi (fun x5 ex5 => ?_)
    replace hF := xl_i (ex5) hF
    have hx5 : x5.toInt = 23 + a0.toInt := by rw [ex5]; exact adI (a := 23) (b := a0.toInt) rfl rfl (by omega) (by omega)
    refine lv_iconst (v := 2) hx hb dX8_set_14 (by decide) ?_
    refine lv_isub hx hb dX8_set_15 ?_
    refine lv_topi (fun x6 ex6 => ?_)
    replace hF := xl_i (ex6) hF
    have hx6 : x6.toInt = x5.toInt - 2 := by rw [ex6]; exact sbI (a := x5.toInt) (b := 2) rfl rfl (by omega) (by omega)
    refine lv_iload_n hx hb dX8_set_16 rfl (lv_at hl 2 rfl) ?_
    refine cVi E I (c_X8_becomes l w g v k0 x6 a1 E.2.2.1 I.2.2 h_k0 (by omega) (by have ci := cnI (x := x6) (by omega); simp only [okk]; omega)) (cwV 2 E.1.2.2.2.2 (gWs (C := "StarWalkModel") mw_5_155 mw_5_157 mw_s_47 mw_1_9 mw_5_158) rfl rfl rfl (by decide +kernel) ⟨by decide, by decide⟩) h_k0.1.1 ((ce_o h_k0.1.2).trans rfl) rfl rfl hl.1 rfl (Nat.le_of_ble_eq_true rfl) dX8_set_17 ⟨Nat.le_refl _, Nat.le_refl _⟩ (fun r7 u8 H lo hp hPS => ?_)
    obtain ⟨hp, hex, hfr⟩ := hp
    replace hF := xm_i hex hF
    obtain ⟨hwf, p9⟩ := hp
    have I : Wo w g s.heap u8 H lo := ⟨hPS.1, hPS.2, hwf⟩
    have rzu8 : ∀ k j : Nat, ¬ (k = k0 + 1) → u8.1 k j = v.1 k j := fun k j h => (hfr k j (fun z => h (by omega))).trans (rz0 k j h)
    refine lv_goto (tgt := 24) hx hb dX8_set_20 (by decide) ?_
    exact rI E I hr hlk rfl (by rw [← hpost]; exact ⟨⟨I.2.2, trivial⟩, hF.trans hres, rzu8⟩) dX8_set_24
def F_X8_cloud (k0 : Nat) (a0 : Int32) (a1 : Int32) (v : St) : Int32 × St :=
xl (F_X8_isHour a0 v) fun r1 =>
if r1.toInt = 0 then (
((-1 : Int32), v)) else (
xl (v.1 (k0 + 1) (28 : Int32).toNatClampNeg) fun x5 =>
xl (x5 >>> (a0 &&& 31)) fun x6 =>
xl (x6 &&& (1 : Int32)) fun x7 =>
if a1.toInt = 0 then (
xl (v.1 (k0 + 1) (28 : Int32).toNatClampNeg) fun x9 =>
xl ((1 : Int32) <<< (a0 &&& 31)) fun x10 =>
xl (x10 ^^^ (-1 : Int32)) fun x11 =>
xl (x9 &&& x11) fun x12 =>
xl (up1 v (k0 + 1) (28 : Int32).toNatClampNeg x12) fun v13 =>
(x7, v13)) else (
xl (v.1 (k0 + 1) (28 : Int32).toNatClampNeg) fun x14 =>
xl ((1 : Int32) <<< (a0 &&& 31)) fun x15 =>
xl (x14 ||| x15) fun x16 =>
xl (up1 v (k0 + 1) (28 : Int32).toNatClampNeg x16) fun v17 =>
(x7, v17)))
set_option maxHeartbeats 4000000 in
set_option maxRecDepth 100000 in
theorem c_X8_cloud (l : Launch) (w : Wp) (g : Nat → Nat → Int32) (v : St) (k0 : Nat) (a0 : Int32) (a1 : Int32) (hq : Inj w) (hw : WF (wk w) g v) (h_k0 : oM w k0) : CTi w l yX8_cloud (wsy yX8_cloud prog_10_method_48_code 4 (some .int)) (rmL 3) [.ref (wq w k0), .int a0, .int a1] v (fun (r : Int32) (u : St) => (WF (wk w) g u ∧ True) ∧ ((r, u) = F_X8_cloud k0 a0 a1 v) ∧ (∀ k j : Nat, ¬ (k = k0 + 1) → u.1 k j = v.1 k j)) := by
  generalize hpost : (fun (r : Int32) (u : St) => (WF (wk w) g u ∧ True) ∧ ((r, u) = F_X8_cloud k0 a0 a1 v) ∧ (∀ k j : Nat, ¬ (k = k0 + 1) → u.1 k j = v.1 k j)) = post
  refine CTi.of prog_10_method_48_code 4 (some .int) "StarWalkModel" (by decide +kernel) rfl hq hw (Nat.le_of_ble_eq_true rfl) ?_
  intro pg en s m ar bl me cd ls E I hr hlk hl
  have hx := E.1.1
  have hb := E.1.2.1
  have hl : lv_has ls 4 [(0, .ref (wq w k0)), (1, .int a0), (2, .int a1)] := hl
  obtain ⟨res, hres⟩ : ∃ z, z = F_X8_cloud k0 a0 a1 v := ⟨_, rfl⟩
  have hF := hres.symm
  unfold F_X8_cloud at hF
  replace hres : res = F_X8_cloud k0 a0 a1 v := hres
  have rz0 : ∀ k j : Nat, ¬ (k = k0 + 1) → v.1 k j = v.1 k j := fun _ _ _ => rfl
  refine lv_iload_n hx hb dX8_cloud_0 rfl (lv_at hl 1 rfl) ?_
  refine cSi E I (c_X8_isHour l w g v a0 E.2.2.1 I.2.2   ) (va_cwS 1 E.1.2.2.2.2 (gSs mw_5_163 mw_5_164 mw_1_9 mw_5_165) rfl rfl rfl (by decide +kernel) ⟨by decide, by decide⟩) rfl hl.1 rfl (Nat.le_of_ble_eq_true rfl) dX8_cloud_1 ⟨Nat.le_refl _, Nat.le_refl _⟩ (fun r1 u2 H lo hp hPS => ?_)
  obtain ⟨hp, hex, hfr⟩ := hp
  replace hF := xl_i hex hF
  obtain ⟨hu, p3⟩ := hp
  rw [hu] at hPS
  have I : Wo w g s.heap v H lo := ⟨hPS.1, hPS.2, I.2.2⟩
  refine bz_ne E (a := r1.toInt) rfl (tgt := 9) dX8_cloud_4 (by decide) (fun c4 => ?_) (fun c4 => ?_)
  ·
    replace hF := if_f c4 hF
    refine lv_aload_n hx hb dX8_cloud_9 rfl (lv_at hl 0 rfl) ?_
    refine g_StarWalkModel_st E I h_k0.1 mw_4_170 dX8_cloud_10 ?_
    refine lv_bipush (v := 28) hx hb dX8_cloud_13 (by decide) ?_
    refine ga_30 E I h_k0.2.1 (by decide) dX8_cloud_15 ?_
    refine lv_topi (fun x5 ex5 => ?_)
    replace hF := xl_i (ex5) hF
    refine lv_iload_n hx hb dX8_cloud_16 rfl (lv_at hl 1 rfl) ?_
    refine lv_ishr hx hb dX8_cloud_17 ?_
    refine lv_topi (fun x6 ex6 => ?_)
    replace hF := xl_i (ex6) hF
    refine lv_iconst (v := 1) hx hb dX8_cloud_18 (by decide) ?_
    refine lv_iand hx hb dX8_cloud_19 ?_
    refine lv_topi (fun x7 ex7 => ?_)
    replace hF := xl_i (ex7) hF
    have hx7 := anI (x := x6) (y := (1 : Int32)) (b := 1) rfl (by decide)
    rw [← ex7] at hx7
    refine lv_istore_n (lv' := [(3, .int x7), (0, .ref (wq w k0)), (1, .int a0), (2, .int a1)]) hx hb dX8_cloud_20 rfl hl (by decide) rfl (fun ls hl => ?_)
    refine lv_aload_n hx hb dX8_cloud_21 rfl (lv_at hl 1 rfl) ?_
    refine g_StarWalkModel_st E I h_k0.1 mw_4_170 dX8_cloud_22 ?_
    refine lv_bipush (v := 28) hx hb dX8_cloud_25 (by decide) ?_
    refine lv_iload_n hx hb dX8_cloud_27 rfl (lv_at hl 3 rfl) ?_
    refine bz_eq E (a := a1.toInt) rfl (tgt := 45) dX8_cloud_28 (by decide) (fun c8 => ?_) (fun c8 => ?_)
    ·
      replace hF := if_t c8 hF
      refine lv_aload_n hx hb dX8_cloud_45 rfl (lv_at hl 1 rfl) ?_
      refine g_StarWalkModel_st E I h_k0.1 mw_4_170 dX8_cloud_46 ?_
      refine lv_bipush (v := 28) hx hb dX8_cloud_49 (by decide) ?_
      refine ga_30 E I h_k0.2.1 (by decide) dX8_cloud_51 ?_
      refine lv_topi (fun x9 ex9 => ?_)
      replace hF := xl_i (ex9) hF
      refine lv_iconst (v := 1) hx hb dX8_cloud_52 (by decide) ?_
      refine lv_iload_n hx hb dX8_cloud_53 rfl (lv_at hl 2 rfl) ?_
      refine lv_ishl hx hb dX8_cloud_54 ?_
      refine lv_topi (fun x10 ex10 => ?_)
      replace hF := xl_i (ex10) hF
      refine lv_iconst (v := (-1)) hx hb dX8_cloud_55 (by decide) ?_
      refine lv_ixor hx hb dX8_cloud_56 ?_
      refine lv_topi (fun x11 ex11 => ?_)
      replace hF := xl_i (ex11) hF
      refine lv_iand hx hb dX8_cloud_57 ?_
      refine lv_topi (fun x12 ex12 => ?_)
      replace hF := xl_i (ex12) hF
      refine pa_30 E I h_k0.2.1 (by decide) (by have ci : (28 : Int32).toNatClampNeg = 28 := rfl; rw [ci]; simp only [okk]; omega) dX8_cloud_58 (fun H lo I => ?_)
      generalize ev13 : up1 v (k0 + 1) (28 : Int32).toNatClampNeg x12 = v13 at I
      replace hF := xl_i (ev13.symm) hF
      have rzv13 : ∀ k j : Nat, ¬ (k = k0 + 1) → v13.1 k j = v.1 k j := fun k j h => fz_u ev13 (by have cl28 : (28 : Int32).toNatClampNeg = 28 := rfl; omega) (rz0 k j h)
      refine lv_iload_n hx hb dX8_cloud_59 rfl (lv_at hl 0 rfl) ?_
      exact rI E I hr hlk rfl (by rw [← hpost]; exact ⟨⟨I.2.2, trivial⟩, hF.trans hres, rzv13⟩) dX8_cloud_60
    ·
      replace hF := if_f c8 hF
      refine lv_aload_n hx hb dX8_cloud_31 rfl (lv_at hl 1 rfl) ?_
      refine g_StarWalkModel_st E I h_k0.1 mw_4_170 dX8_cloud_32 ?_
      refine lv_bipush (v := 28) hx hb dX8_cloud_35 (by decide) ?_
      refine ga_30 E I h_k0.2.1 (by decide) dX8_cloud_37 ?_
      refine lv_topi (fun x14 ex14 => ?_)
      replace hF := xl_i (ex14) hF
      refine lv_iconst (v := 1) hx hb dX8_cloud_38 (by decide) ?_
      refine lv_iload_n hx hb dX8_cloud_39 rfl (lv_at hl 2 rfl) ?_
      refine lv_ishl hx hb dX8_cloud_40 ?_
      refine lv_topi (fun x15 ex15 => ?_)
      replace hF := xl_i (ex15) hF
      refine lv_ior hx hb dX8_cloud_41 ?_
      refine lv_topi (fun x16 ex16 => ?_)
      replace hF := xl_i (ex16) hF
      refine lv_goto (tgt := 58) hx hb dX8_cloud_42 (by decide) ?_
      refine pa_30 E I h_k0.2.1 (by decide) (by have ci : (28 : Int32).toNatClampNeg = 28 := rfl; rw [ci]; simp only [okk]; omega) dX8_cloud_58 (fun H lo I => ?_)
      generalize ev17 : up1 v (k0 + 1) (28 : Int32).toNatClampNeg x16 = v17 at I
      replace hF := xl_i (ev17.symm) hF
      have rzv17 : ∀ k j : Nat, ¬ (k = k0 + 1) → v17.1 k j = v.1 k j := fun k j h => fz_u ev17 (by have cl28 : (28 : Int32).toNatClampNeg = 28 := rfl; omega) (rz0 k j h)
      refine lv_iload_n hx hb dX8_cloud_59 rfl (lv_at hl 0 rfl) ?_
      exact rI E I hr hlk rfl (by rw [← hpost]; exact ⟨⟨I.2.2, trivial⟩, hF.trans hres, rzv17⟩) dX8_cloud_60
  ·
    replace hF := if_t c4 hF
    refine lv_iconst (v := (-1)) hx hb dX8_cloud_7 (by decide) ?_
    exact rI E I hr hlk rfl (by rw [← hpost]; exact ⟨⟨I.2.2, trivial⟩, hF.trans hres, rz0⟩) dX8_cloud_8
def F_X8_know (k0 : Nat) (a0 : Int32) (a1 : Int32) (v : St) : Int32 × St :=
xl (F_X8_isStar k0 a0 v) fun r1 =>
if r1.toInt = 0 then (
((-1 : Int32), v)) else (
xl ((4 : Int32) * a0) fun x5 =>
xl (x5 + (3 : Int32)) fun x6 =>
xl (F_X8_flag a1 v) fun r7 =>
xm (F_X8_becomes k0 x6 r7 v) fun r10 u11 =>
(r10, u11))
set_option maxHeartbeats 4000000 in
set_option maxRecDepth 100000 in
theorem c_X8_know (l : Launch) (w : Wp) (g : Nat → Nat → Int32) (v : St) (k0 : Nat) (a0 : Int32) (a1 : Int32) (hq : Inj w) (hw : WF (wk w) g v) (h_k0 : oM w k0) : CTi w l yX8_know (wsy yX8_know prog_10_method_49_code 3 (some .int)) (rmL 3) [.ref (wq w k0), .int a0, .int a1] v (fun (r : Int32) (u : St) => (WF (wk w) g u ∧ True) ∧ ((r, u) = F_X8_know k0 a0 a1 v) ∧ (∀ k j : Nat, ¬ (k = k0 + 1) → u.1 k j = v.1 k j)) := by
  generalize hpost : (fun (r : Int32) (u : St) => (WF (wk w) g u ∧ True) ∧ ((r, u) = F_X8_know k0 a0 a1 v) ∧ (∀ k j : Nat, ¬ (k = k0 + 1) → u.1 k j = v.1 k j)) = post
  refine CTi.of prog_10_method_49_code 3 (some .int) "StarWalkModel" (by decide +kernel) rfl hq hw (Nat.le_of_ble_eq_true rfl) ?_
  intro pg en s m ar bl me cd ls E I hr hlk hl
  have hx := E.1.1
  have hb := E.1.2.1
  have hl : lv_has ls 3 [(0, .ref (wq w k0)), (1, .int a0), (2, .int a1)] := hl
  obtain ⟨res, hres⟩ : ∃ z, z = F_X8_know k0 a0 a1 v := ⟨_, rfl⟩
  have hF := hres.symm
  unfold F_X8_know at hF
  replace hres : res = F_X8_know k0 a0 a1 v := hres
  have rz0 : ∀ k j : Nat, ¬ (k = k0 + 1) → v.1 k j = v.1 k j := fun _ _ _ => rfl
  refine lv_aload_n hx hb dX8_know_0 rfl (lv_at hl 0 rfl) ?_
  refine lv_iload_n hx hb dX8_know_1 rfl (lv_at hl 1 rfl) ?_
  refine cVi E I (c_X8_isStar l w g v k0 a0 E.2.2.1 I.2.2 h_k0  ) (cwV 1 E.1.2.2.2.2 (gWs (C := "StarWalkModel") mw_5_126 mw_5_128 mw_s_44 mw_1_9 mw_5_129) rfl rfl rfl (by decide +kernel) ⟨by decide, by decide⟩) h_k0.1.1 ((ce_o h_k0.1.2).trans rfl) rfl rfl hl.1 rfl (Nat.le_of_ble_eq_true rfl) dX8_know_2 ⟨Nat.le_refl _, Nat.le_refl _⟩ (fun r1 u2 H lo hp hPS => ?_)
  obtain ⟨hp, hex, hfr⟩ := hp
  replace hF := xl_i hex hF
  obtain ⟨hu, p3⟩ := hp
  rw [hu] at hPS
  have I : Wo w g s.heap v H lo := ⟨hPS.1, hPS.2, I.2.2⟩
  refine bz_eq E (a := r1.toInt) rfl (tgt := 24) dX8_know_5 (by decide) (fun c4 => ?_) (fun c4 => ?_)
  ·
    replace hF := if_t c4 hF
    refine lv_iconst (v := (-1)) hx hb dX8_know_24 (by decide) ?_
    exact rI E I hr hlk rfl (by rw [← hpost]; exact ⟨⟨I.2.2, trivial⟩, hF.trans hres, rz0⟩) dX8_know_25
  ·
    replace hF := if_f c4 hF
    refine lv_aload_n hx hb dX8_know_8 rfl (lv_at hl 0 rfl) ?_
    refine lv_iconst (v := 4) hx hb dX8_know_9 (by decide) ?_
    refine lv_iload_n hx hb dX8_know_10 rfl (lv_at hl 1 rfl) ?_
    refine lv_imul hx hb dX8_know_11 ?_
    refine lv_topi (fun x5 ex5 => ?_)
    replace hF := xl_i (ex5) hF
    have hx5 : x5.toInt = 4 * a0.toInt := by rw [ex5]; exact mlI (a := 4) (b := a0.toInt) rfl rfl (by omega) (by omega)
    refine lv_iconst (v := 3) hx hb dX8_know_12 (by decide) ?_
    refine lv_iadd hx hb dX8_know_13 ?_
    refine lv_topi (fun x6 ex6 => ?_)
    replace hF := xl_i (ex6) hF
    have hx6 : x6.toInt = x5.toInt + 3 := by rw [ex6]; exact adI (a := x5.toInt) (b := 3) rfl rfl (by omega) (by omega)
    refine lv_iload_n hx hb dX8_know_14 rfl (lv_at hl 2 rfl) ?_
    refine cSi E I (c_X8_flag l w g v a1 E.2.2.1 I.2.2   ) (va_cwS 1 E.1.2.2.2.2 (gSs mw_5_119 mw_5_120 mw_1_9 mw_5_121) rfl rfl rfl (by decide +kernel) ⟨by decide, by decide⟩) rfl hl.1 rfl (Nat.le_of_ble_eq_true rfl) dX8_know_15 ⟨Nat.le_refl _, Nat.le_refl _⟩ (fun r7 u8 H lo hp hPS => ?_)
    obtain ⟨hp, hex, hfr⟩ := hp
    replace hF := xl_i hex hF
    obtain ⟨hu, p9⟩ := hp
    rw [hu] at hPS
    have I : Wo w g s.heap v H lo := ⟨hPS.1, hPS.2, I.2.2⟩
    refine cVi E I (c_X8_becomes l w g v k0 x6 r7 E.2.2.1 I.2.2 h_k0 (by omega) (by have ci := cnI (x := x6) (by omega); simp only [okk]; omega)) (cwV 2 E.1.2.2.2.2 (gWs (C := "StarWalkModel") mw_5_155 mw_5_157 mw_s_47 mw_1_9 mw_5_158) rfl rfl rfl (by decide +kernel) ⟨by decide, by decide⟩) h_k0.1.1 ((ce_o h_k0.1.2).trans rfl) rfl rfl hl.1 rfl (Nat.le_of_ble_eq_true rfl) dX8_know_18 ⟨Nat.le_refl _, Nat.le_refl _⟩ (fun r10 u11 H lo hp hPS => ?_)
    obtain ⟨hp, hex, hfr⟩ := hp
    replace hF := xm_i hex hF
    obtain ⟨hwf, p12⟩ := hp
    have I : Wo w g s.heap u11 H lo := ⟨hPS.1, hPS.2, hwf⟩
    have rzu11 : ∀ k j : Nat, ¬ (k = k0 + 1) → u11.1 k j = v.1 k j := fun k j h => (hfr k j (fun z => h (by omega))).trans (rz0 k j h)
    refine lv_goto (tgt := 25) hx hb dX8_know_21 (by decide) ?_
    exact rI E I hr hlk rfl (by rw [← hpost]; exact ⟨⟨I.2.2, trivial⟩, hF.trans hres, rzu11⟩) dX8_know_25
def F_X8_turn (k0 : Nat) (a0 : Int32) (a1 : Int32) (v : St) : Int32 × St :=
xl (F_X8_isStar k0 a0 v) fun r1 =>
if r1.toInt = 0 then (
((-1 : Int32), v)) else (
xl (F_X8_in a1.toInt64 (0 : Int64) (6 : Int64) v) fun r6 =>
if r6.toInt = 0 then (
((-1 : Int32), v)) else (
xl ((4 : Int32) * a0) fun x13 =>
xl (x13 + (2 : Int32)) fun x14 =>
xm (F_X8_becomes k0 x14 a1 v) fun r15 u16 =>
(r15, u16)))
set_option maxHeartbeats 4000000 in
set_option maxRecDepth 100000 in
theorem c_X8_turn (l : Launch) (w : Wp) (g : Nat → Nat → Int32) (v : St) (k0 : Nat) (a0 : Int32) (a1 : Int32) (hq : Inj w) (hw : WF (wk w) g v) (h_k0 : oM w k0) : CTi w l yX8_turn (wsy yX8_turn prog_10_method_50_code 3 (some .int)) (rmL 3) [.ref (wq w k0), .int a0, .int a1] v (fun (r : Int32) (u : St) => (WF (wk w) g u ∧ True) ∧ ((r, u) = F_X8_turn k0 a0 a1 v) ∧ (∀ k j : Nat, ¬ (k = k0 + 1) → u.1 k j = v.1 k j)) := by
  generalize hpost : (fun (r : Int32) (u : St) => (WF (wk w) g u ∧ True) ∧ ((r, u) = F_X8_turn k0 a0 a1 v) ∧ (∀ k j : Nat, ¬ (k = k0 + 1) → u.1 k j = v.1 k j)) = post
  refine CTi.of prog_10_method_50_code 3 (some .int) "StarWalkModel" (by decide +kernel) rfl hq hw (Nat.le_of_ble_eq_true rfl) ?_
  intro pg en s m ar bl me cd ls E I hr hlk hl
  have hx := E.1.1
  have hb := E.1.2.1
  have hl : lv_has ls 3 [(0, .ref (wq w k0)), (1, .int a0), (2, .int a1)] := hl
  obtain ⟨res, hres⟩ : ∃ z, z = F_X8_turn k0 a0 a1 v := ⟨_, rfl⟩
  have hF := hres.symm
  unfold F_X8_turn at hF
  replace hres : res = F_X8_turn k0 a0 a1 v := hres
  have rz0 : ∀ k j : Nat, ¬ (k = k0 + 1) → v.1 k j = v.1 k j := fun _ _ _ => rfl
  refine lv_aload_n hx hb dX8_turn_0 rfl (lv_at hl 0 rfl) ?_
  refine lv_iload_n hx hb dX8_turn_1 rfl (lv_at hl 1 rfl) ?_
  refine cVi E I (c_X8_isStar l w g v k0 a0 E.2.2.1 I.2.2 h_k0  ) (cwV 1 E.1.2.2.2.2 (gWs (C := "StarWalkModel") mw_5_126 mw_5_128 mw_s_44 mw_1_9 mw_5_129) rfl rfl rfl (by decide +kernel) ⟨by decide, by decide⟩) h_k0.1.1 ((ce_o h_k0.1.2).trans rfl) rfl rfl hl.1 rfl (Nat.le_of_ble_eq_true rfl) dX8_turn_2 ⟨Nat.le_refl _, Nat.le_refl _⟩ (fun r1 u2 H lo hp hPS => ?_)
  obtain ⟨hp, hex, hfr⟩ := hp
  replace hF := xl_i hex hF
  obtain ⟨hu, p3⟩ := hp
  rw [hu] at hPS
  have I : Wo w g s.heap v H lo := ⟨hPS.1, hPS.2, I.2.2⟩
  refine bz_eq E (a := r1.toInt) rfl (tgt := 33) dX8_turn_5 (by decide) (fun c4 => ?_) (fun c4 => ?_)
  ·
    replace hF := if_t c4 hF
    refine lv_iconst (v := (-1)) hx hb dX8_turn_33 (by decide) ?_
    exact rI E I hr hlk rfl (by rw [← hpost]; exact ⟨⟨I.2.2, trivial⟩, hF.trans hres, rz0⟩) dX8_turn_34
  ·
    replace hF := if_f c4 hF
    refine lv_iload_n hx hb dX8_turn_8 rfl (lv_at hl 2 rfl) ?_
    refine lv_i2l (v := a1.toInt64) hx hb dX8_turn_9 rfl ?_
    refine lv_lconst (v := 0) hx hb dX8_turn_10 (by decide) ?_
    refine lv_ldc2 (own := "StarWalkModel") hx hb E.1.2.2.2.1 (Ew E mw_5_174 rfl) dX8_turn_11 ?_
    refine cSi E I (c_X8_in l w g v a1.toInt64 (0 : Int64) (6 : Int64) E.2.2.1 I.2.2   ) (va_cwS 3 E.1.2.2.2.2 (gSs mw_5_29 mw_5_30 mw_1_9 mw_5_31) rfl rfl rfl (by decide +kernel) ⟨by decide, by decide⟩) rfl hl.1 rfl (Nat.le_of_ble_eq_true rfl) dX8_turn_14 ⟨Nat.le_refl _, Nat.le_refl _⟩ (fun r6 u7 H lo hp hPS => ?_)
    have iz8 := i64_of a1
    have iz9 : (0 : Int64).toInt = 0 := rfl
    have iz10 : (6 : Int64).toInt = 6 := rfl
    obtain ⟨hp, hex, hfr⟩ := hp
    replace hF := xl_i hex hF
    obtain ⟨hu, p11⟩ := hp
    rw [hu] at hPS
    have I : Wo w g s.heap v H lo := ⟨hPS.1, hPS.2, I.2.2⟩
    refine bz_eq E (a := r6.toInt) rfl (tgt := 33) dX8_turn_17 (by decide) (fun c12 => ?_) (fun c12 => ?_)
    ·
      replace hF := if_t c12 hF
      refine lv_iconst (v := (-1)) hx hb dX8_turn_33 (by decide) ?_
      exact rI E I hr hlk rfl (by rw [← hpost]; exact ⟨⟨I.2.2, trivial⟩, hF.trans hres, rz0⟩) dX8_turn_34
    ·
      replace hF := if_f c12 hF
      refine lv_aload_n hx hb dX8_turn_20 rfl (lv_at hl 0 rfl) ?_
      refine lv_iconst (v := 4) hx hb dX8_turn_21 (by decide) ?_
      refine lv_iload_n hx hb dX8_turn_22 rfl (lv_at hl 1 rfl) ?_
      refine lv_imul hx hb dX8_turn_23 ?_
      refine lv_topi (fun x13 ex13 => ?_)
      replace hF := xl_i (ex13) hF
      have hx13 : x13.toInt = 4 * a0.toInt := by rw [ex13]; exact mlI (a := 4) (b := a0.toInt) rfl rfl (by omega) (by omega)
      refine lv_iconst (v := 2) hx hb dX8_turn_24 (by decide) ?_
      refine lv_iadd hx hb dX8_turn_25 ?_
      refine lv_topi (fun x14 ex14 => ?_)
      replace hF := xl_i (ex14) hF
      have hx14 : x14.toInt = x13.toInt + 2 := by rw [ex14]; exact adI (a := x13.toInt) (b := 2) rfl rfl (by omega) (by omega)
      refine lv_iload_n hx hb dX8_turn_26 rfl (lv_at hl 2 rfl) ?_
      refine cVi E I (c_X8_becomes l w g v k0 x14 a1 E.2.2.1 I.2.2 h_k0 (by omega) (by have ci := cnI (x := x14) (by omega); simp only [okk]; omega)) (cwV 2 E.1.2.2.2.2 (gWs (C := "StarWalkModel") mw_5_155 mw_5_157 mw_s_47 mw_1_9 mw_5_158) rfl rfl rfl (by decide +kernel) ⟨by decide, by decide⟩) h_k0.1.1 ((ce_o h_k0.1.2).trans rfl) rfl rfl hl.1 rfl (Nat.le_of_ble_eq_true rfl) dX8_turn_27 ⟨Nat.le_refl _, Nat.le_refl _⟩ (fun r15 u16 H lo hp hPS => ?_)
      obtain ⟨hp, hex, hfr⟩ := hp
      replace hF := xm_i hex hF
      obtain ⟨hwf, p17⟩ := hp
      have I : Wo w g s.heap u16 H lo := ⟨hPS.1, hPS.2, hwf⟩
      have rzu16 : ∀ k j : Nat, ¬ (k = k0 + 1) → u16.1 k j = v.1 k j := fun k j h => (hfr k j (fun z => h (by omega))).trans (rz0 k j h)
      refine lv_goto (tgt := 34) hx hb dX8_turn_30 (by decide) ?_
      exact rI E I hr hlk rfl (by rw [← hpost]; exact ⟨⟨I.2.2, trivial⟩, hF.trans hres, rzu16⟩) dX8_turn_34
def F_X8_teach (k0 : Nat) (a0 : Int32) (a1 : Int32) (v : St) : Int32 × St :=
xl (F_X8_isWalker k0 a0 v) fun r1 =>
if r1.toInt = 0 then (
((-1 : Int32), v)) else (
xl (F_X8_in a1.toInt64 (0 : Int64) (3 : Int64) v) fun r6 =>
if r6.toInt = 0 then (
((-1 : Int32), v)) else (
xl ((20 : Int32) + a0) fun x13 =>
xm (F_X8_becomes k0 x13 a1 v) fun r14 u15 =>
(r14, u15)))
set_option maxHeartbeats 4000000 in
set_option maxRecDepth 100000 in
theorem c_X8_teach (l : Launch) (w : Wp) (g : Nat → Nat → Int32) (v : St) (k0 : Nat) (a0 : Int32) (a1 : Int32) (hq : Inj w) (hw : WF (wk w) g v) (h_k0 : oM w k0) : CTi w l yX8_teach (wsy yX8_teach prog_10_method_51_code 3 (some .int)) (rmL 3) [.ref (wq w k0), .int a0, .int a1] v (fun (r : Int32) (u : St) => (WF (wk w) g u ∧ True) ∧ ((r, u) = F_X8_teach k0 a0 a1 v) ∧ (∀ k j : Nat, ¬ (k = k0 + 1) → u.1 k j = v.1 k j)) := by
  generalize hpost : (fun (r : Int32) (u : St) => (WF (wk w) g u ∧ True) ∧ ((r, u) = F_X8_teach k0 a0 a1 v) ∧ (∀ k j : Nat, ¬ (k = k0 + 1) → u.1 k j = v.1 k j)) = post
  refine CTi.of prog_10_method_51_code 3 (some .int) "StarWalkModel" (by decide +kernel) rfl hq hw (Nat.le_of_ble_eq_true rfl) ?_
  intro pg en s m ar bl me cd ls E I hr hlk hl
  have hx := E.1.1
  have hb := E.1.2.1
  have hl : lv_has ls 3 [(0, .ref (wq w k0)), (1, .int a0), (2, .int a1)] := hl
  obtain ⟨res, hres⟩ : ∃ z, z = F_X8_teach k0 a0 a1 v := ⟨_, rfl⟩
  have hF := hres.symm
  unfold F_X8_teach at hF
  replace hres : res = F_X8_teach k0 a0 a1 v := hres
  have rz0 : ∀ k j : Nat, ¬ (k = k0 + 1) → v.1 k j = v.1 k j := fun _ _ _ => rfl
  refine lv_aload_n hx hb dX8_teach_0 rfl (lv_at hl 0 rfl) ?_
  refine lv_iload_n hx hb dX8_teach_1 rfl (lv_at hl 1 rfl) ?_
  refine cVi E I (c_X8_isWalker l w g v k0 a0 E.2.2.1 I.2.2 h_k0  ) (cwV 1 E.1.2.2.2.2 (gWs (C := "StarWalkModel") mw_5_135 mw_5_137 mw_s_45 mw_1_9 mw_5_138) rfl rfl rfl (by decide +kernel) ⟨by decide, by decide⟩) h_k0.1.1 ((ce_o h_k0.1.2).trans rfl) rfl rfl hl.1 rfl (Nat.le_of_ble_eq_true rfl) dX8_teach_2 ⟨Nat.le_refl _, Nat.le_refl _⟩ (fun r1 u2 H lo hp hPS => ?_)
  obtain ⟨hp, hex, hfr⟩ := hp
  replace hF := xl_i hex hF
  obtain ⟨hu, p3⟩ := hp
  rw [hu] at hPS
  have I : Wo w g s.heap v H lo := ⟨hPS.1, hPS.2, I.2.2⟩
  refine bz_eq E (a := r1.toInt) rfl (tgt := 32) dX8_teach_5 (by decide) (fun c4 => ?_) (fun c4 => ?_)
  ·
    replace hF := if_t c4 hF
    refine lv_iconst (v := (-1)) hx hb dX8_teach_32 (by decide) ?_
    exact rI E I hr hlk rfl (by rw [← hpost]; exact ⟨⟨I.2.2, trivial⟩, hF.trans hres, rz0⟩) dX8_teach_33
  ·
    replace hF := if_f c4 hF
    refine lv_iload_n hx hb dX8_teach_8 rfl (lv_at hl 2 rfl) ?_
    refine lv_i2l (v := a1.toInt64) hx hb dX8_teach_9 rfl ?_
    refine lv_lconst (v := 0) hx hb dX8_teach_10 (by decide) ?_
    refine lv_ldc2 (own := "StarWalkModel") hx hb E.1.2.2.2.1 (Ew E mw_5_130 rfl) dX8_teach_11 ?_
    refine cSi E I (c_X8_in l w g v a1.toInt64 (0 : Int64) (3 : Int64) E.2.2.1 I.2.2   ) (va_cwS 3 E.1.2.2.2.2 (gSs mw_5_29 mw_5_30 mw_1_9 mw_5_31) rfl rfl rfl (by decide +kernel) ⟨by decide, by decide⟩) rfl hl.1 rfl (Nat.le_of_ble_eq_true rfl) dX8_teach_14 ⟨Nat.le_refl _, Nat.le_refl _⟩ (fun r6 u7 H lo hp hPS => ?_)
    have iz8 := i64_of a1
    have iz9 : (0 : Int64).toInt = 0 := rfl
    have iz10 : (3 : Int64).toInt = 3 := rfl
    obtain ⟨hp, hex, hfr⟩ := hp
    replace hF := xl_i hex hF
    obtain ⟨hu, p11⟩ := hp
    rw [hu] at hPS
    have I : Wo w g s.heap v H lo := ⟨hPS.1, hPS.2, I.2.2⟩
    refine bz_eq E (a := r6.toInt) rfl (tgt := 32) dX8_teach_17 (by decide) (fun c12 => ?_) (fun c12 => ?_)
    ·
      replace hF := if_t c12 hF
      refine lv_iconst (v := (-1)) hx hb dX8_teach_32 (by decide) ?_
      exact rI E I hr hlk rfl (by rw [← hpost]; exact ⟨⟨I.2.2, trivial⟩, hF.trans hres, rz0⟩) dX8_teach_33
    ·
      replace hF := if_f c12 hF
      refine lv_aload_n hx hb dX8_teach_20 rfl (lv_at hl 0 rfl) ?_
      refine lv_bipush (v := 20) hx hb dX8_teach_21 (by decide) ?_
      refine lv_iload_n hx hb dX8_teach_23 rfl (lv_at hl 1 rfl) ?_
      refine lv_iadd hx hb dX8_teach_24 ?_
      refine lv_topi (fun x13 ex13 => ?_)
      replace hF := xl_i (ex13) hF
      have hx13 : x13.toInt = 20 + a0.toInt := by rw [ex13]; exact adI (a := 20) (b := a0.toInt) rfl rfl (by omega) (by omega)
      refine lv_iload_n hx hb dX8_teach_25 rfl (lv_at hl 2 rfl) ?_
      refine cVi E I (c_X8_becomes l w g v k0 x13 a1 E.2.2.1 I.2.2 h_k0 (by omega) (by have ci := cnI (x := x13) (by omega); simp only [okk]; omega)) (cwV 2 E.1.2.2.2.2 (gWs (C := "StarWalkModel") mw_5_155 mw_5_157 mw_s_47 mw_1_9 mw_5_158) rfl rfl rfl (by decide +kernel) ⟨by decide, by decide⟩) h_k0.1.1 ((ce_o h_k0.1.2).trans rfl) rfl rfl hl.1 rfl (Nat.le_of_ble_eq_true rfl) dX8_teach_26 ⟨Nat.le_refl _, Nat.le_refl _⟩ (fun r14 u15 H lo hp hPS => ?_)
      obtain ⟨hp, hex, hfr⟩ := hp
      replace hF := xm_i hex hF
      obtain ⟨hwf, p16⟩ := hp
      have I : Wo w g s.heap u15 H lo := ⟨hPS.1, hPS.2, hwf⟩
      have rzu15 : ∀ k j : Nat, ¬ (k = k0 + 1) → u15.1 k j = v.1 k j := fun k j h => (hfr k j (fun z => h (by omega))).trans (rz0 k j h)
      refine lv_goto (tgt := 33) hx hb dX8_teach_29 (by decide) ?_
      exact rI E I hr hlk rfl (by rw [← hpost]; exact ⟨⟨I.2.2, trivial⟩, hF.trans hres, rzu15⟩) dX8_teach_33
def F_X8_plans (k0 : Nat) (a0 : Int32) (v : St) : Int32 × St :=
xl (F_X8_isAim k0 a0 v) fun r1 =>
if r1.toInt = 0 then (
((-1 : Int32), v)) else (
xl (v.1 (k0 + 1) (32 : Int32).toNatClampNeg) fun x5 =>
if x5.toInt = 8 then (
((-3 : Int32), v)) else (
xl ((33 : Int32) + x5) fun x8 =>
xl (up1 v (k0 + 1) x8.toNatClampNeg a0) fun v9 =>
xl (x5 + (1 : Int32)) fun x11 =>
xl (up1 v9 (k0 + 1) (32 : Int32).toNatClampNeg x11) fun v12 =>
xl (v12.1 (k0 + 1) (32 : Int32).toNatClampNeg) fun x13 =>
(x13, v12)))
set_option maxHeartbeats 4000000 in
set_option maxRecDepth 100000 in
theorem c_X8_plans (l : Launch) (w : Wp) (g : Nat → Nat → Int32) (v : St) (k0 : Nat) (a0 : Int32) (hq : Inj w) (hw : WF (wk w) g v) (h_k0 : oM w k0) : CTi w l yX8_plans (wsy yX8_plans prog_10_method_52_code 2 (some .int)) (rmL 4) [.ref (wq w k0), .int a0] v (fun (r : Int32) (u : St) => (WF (wk w) g u ∧ True) ∧ ((r, u) = F_X8_plans k0 a0 v) ∧ (∀ k j : Nat, ¬ (k = k0 + 1) → u.1 k j = v.1 k j)) := by
  generalize hpost : (fun (r : Int32) (u : St) => (WF (wk w) g u ∧ True) ∧ ((r, u) = F_X8_plans k0 a0 v) ∧ (∀ k j : Nat, ¬ (k = k0 + 1) → u.1 k j = v.1 k j)) = post
  refine CTi.of prog_10_method_52_code 2 (some .int) "StarWalkModel" (by decide +kernel) rfl hq hw (Nat.le_of_ble_eq_true rfl) ?_
  intro pg en s m ar bl me cd ls E I hr hlk hl
  have hx := E.1.1
  have hb := E.1.2.1
  have hl : lv_has ls 2 [(0, .ref (wq w k0)), (1, .int a0)] := hl
  obtain ⟨res, hres⟩ : ∃ z, z = F_X8_plans k0 a0 v := ⟨_, rfl⟩
  have hF := hres.symm
  unfold F_X8_plans at hF
  replace hres : res = F_X8_plans k0 a0 v := hres
  have rz0 : ∀ k j : Nat, ¬ (k = k0 + 1) → v.1 k j = v.1 k j := fun _ _ _ => rfl
  refine lv_aload_n hx hb dX8_plans_0 rfl (lv_at hl 0 rfl) ?_
  refine lv_iload_n hx hb dX8_plans_1 rfl (lv_at hl 1 rfl) ?_
  refine cVi E I (c_X8_isAim l w g v k0 a0 E.2.2.1 I.2.2 h_k0  ) (cwV 1 E.1.2.2.2.2 (gWs (C := "StarWalkModel") mw_5_183 mw_5_185 mw_s_48 mw_1_9 mw_5_186) rfl rfl rfl (by decide +kernel) ⟨by decide, by decide⟩) h_k0.1.1 ((ce_o h_k0.1.2).trans rfl) rfl rfl hl.1 rfl (Nat.le_of_ble_eq_true rfl) dX8_plans_2 ⟨Nat.le_refl _, Nat.le_refl _⟩ (fun r1 u2 H lo hp hPS => ?_)
  obtain ⟨hp, hex, hfr⟩ := hp
  replace hF := xl_i hex hF
  obtain ⟨hu, p3⟩ := hp
  rw [hu] at hPS
  have I : Wo w g s.heap v H lo := ⟨hPS.1, hPS.2, I.2.2⟩
  refine bz_ne E (a := r1.toInt) rfl (tgt := 10) dX8_plans_5 (by decide) (fun c4 => ?_) (fun c4 => ?_)
  ·
    replace hF := if_f c4 hF
    refine lv_aload_n hx hb dX8_plans_10 rfl (lv_at hl 0 rfl) ?_
    refine g_StarWalkModel_st E I h_k0.1 mw_4_170 dX8_plans_11 ?_
    refine lv_bipush (v := 32) hx hb dX8_plans_14 (by decide) ?_
    refine ga_30 E I h_k0.2.1 (by decide) dX8_plans_16 ?_
    refine lv_topi (fun x5 ex5 => ?_)
    replace hF := xl_i (ex5) hF
    have hx5 : 0 ≤ x5.toInt ∧ x5.toInt ≤ 8 := by have h := ra_30 I h_k0.2.1 32; rw [ex5]; exact h.2.2.1 rfl
    refine lv_bipush (v := 8) hx hb dX8_plans_17 (by decide) ?_
    refine bi_ne E (a := x5.toInt) (b := 8) rfl rfl (tgt := 25) dX8_plans_19 (by decide) (fun c6 => ?_) (fun c6 => ?_)
    ·
      replace hF := if_f c6 hF
      refine lv_aload_n hx hb dX8_plans_25 rfl (lv_at hl 0 rfl) ?_
      refine g_StarWalkModel_st E I h_k0.1 mw_4_170 dX8_plans_26 ?_
      refine lv_bipush (v := 33) hx hb dX8_plans_29 (by decide) ?_
      refine lv_aload_n hx hb dX8_plans_31 rfl (lv_at hl 0 rfl) ?_
      refine g_StarWalkModel_st E I h_k0.1 mw_4_170 dX8_plans_32 ?_
      refine lv_bipush (v := 32) hx hb dX8_plans_35 (by decide) ?_
      refine ga_30 E I h_k0.2.1 (by decide) dX8_plans_37 ?_
      refine lv_topi (fun x7 ex7 => ?_)
      obtain rfl : x5 = x7 := ex5.symm.symm.trans ex7.symm
      refine lv_iadd hx hb dX8_plans_38 ?_
      refine lv_topi (fun x8 ex8 => ?_)
      replace hF := xl_i (ex8) hF
      have hx8 : x8.toInt = 33 + x5.toInt := by rw [ex8]; exact adI (a := 33) (b := x5.toInt) rfl rfl (by omega) (by omega)
      refine lv_iload_n hx hb dX8_plans_39 rfl (lv_at hl 1 rfl) ?_
      refine pa_30 E I h_k0.2.1 (by omega) (by have ci := cnI (x := x8) (by omega); simp only [okk]; omega) dX8_plans_40 (fun H lo I => ?_)
      generalize ev9 : up1 v (k0 + 1) x8.toNatClampNeg a0 = v9 at I
      replace hF := xl_i (ev9.symm) hF
      have mv9_0 : v9.1 (k0 + 1) 32 = x5 := by rw [← ev9, up1_n _ _ (Or.inr (by have := cnI (x := x8) (by omega); omega))] <;> exact ex5.symm
      have rzv9 : ∀ k j : Nat, ¬ (k = k0 + 1) → v9.1 k j = v.1 k j := fun k j h => fz_u ev9 (by have czx8 := cnI (x := x8) (by omega); omega) (rz0 k j h)
      refine lv_aload_n hx hb dX8_plans_41 rfl (lv_at hl 0 rfl) ?_
      refine g_StarWalkModel_st E I h_k0.1 mw_4_170 dX8_plans_42 ?_
      refine lv_bipush (v := 32) hx hb dX8_plans_45 (by decide) ?_
      refine lv_dup2_11 hx hb dX8_plans_47 rfl rfl ?_
      refine ga_30 E I h_k0.2.1 (by decide) dX8_plans_48 ?_
      refine lv_topi (fun x10 ex10 => ?_)
      obtain rfl : x5 = x10 := mv9_0.symm.trans ex10.symm
      refine lv_iconst (v := 1) hx hb dX8_plans_49 (by decide) ?_
      refine lv_iadd hx hb dX8_plans_50 ?_
      refine lv_topi (fun x11 ex11 => ?_)
      replace hF := xl_i (ex11) hF
      have hx11 : x11.toInt = x5.toInt + 1 := by rw [ex11]; exact adI (a := x5.toInt) (b := 1) rfl rfl (by omega) (by omega)
      refine pa_30 E I h_k0.2.1 (by decide) (by have ci : (32 : Int32).toNatClampNeg = 32 := rfl; rw [ci]; simp only [okk]; omega) dX8_plans_51 (fun H lo I => ?_)
      generalize ev12 : up1 v9 (k0 + 1) (32 : Int32).toNatClampNeg x11 = v12 at I
      replace hF := xl_i (ev12.symm) hF
      have rzv12 : ∀ k j : Nat, ¬ (k = k0 + 1) → v12.1 k j = v.1 k j := fun k j h => fz_u ev12 (by have cl32 : (32 : Int32).toNatClampNeg = 32 := rfl; omega) (rzv9 k j h)
      refine lv_aload_n hx hb dX8_plans_52 rfl (lv_at hl 0 rfl) ?_
      refine g_StarWalkModel_st E I h_k0.1 mw_4_170 dX8_plans_53 ?_
      refine lv_bipush (v := 32) hx hb dX8_plans_56 (by decide) ?_
      refine ga_30 E I h_k0.2.1 (by decide) dX8_plans_58 ?_
      refine lv_topi (fun x13 ex13 => ?_)
      replace hF := xl_i (ex13) hF
      have hx13 : 0 ≤ x13.toInt ∧ x13.toInt ≤ 8 := by have h := ra_30 I h_k0.2.1 32; rw [ex13]; exact h.2.2.1 rfl
      exact rI E I hr hlk rfl (by rw [← hpost]; exact ⟨⟨I.2.2, trivial⟩, hF.trans hres, rzv12⟩) dX8_plans_59
    ·
      replace hF := if_t c6 hF
      refine lv_bipush (v := (-3)) hx hb dX8_plans_22 (by decide) ?_
      exact rI E I hr hlk rfl (by rw [← hpost]; exact ⟨⟨I.2.2, trivial⟩, hF.trans hres, rz0⟩) dX8_plans_24
  ·
    replace hF := if_t c4 hF
    refine lv_iconst (v := (-1)) hx hb dX8_plans_8 (by decide) ?_
    exact rI E I hr hlk rfl (by rw [← hpost]; exact ⟨⟨I.2.2, trivial⟩, hF.trans hres, rz0⟩) dX8_plans_9
def F_X8_cut (k0 : Nat) (a0 : Int32) (v : St) : Int32 × St :=
xl (v.1 (k0 + 1) (32 : Int32).toNatClampNeg) fun x2 =>
xl (F_X8_in a0.toInt64 (0 : Int64) x2.toInt64 v) fun r4 =>
if r4.toInt = 0 then (
((-1 : Int32), v)) else (
xm (F_X8_becomes k0 (32 : Int32) a0 v) fun r11 u12 =>
(r11, u12))
set_option maxHeartbeats 4000000 in
set_option maxRecDepth 100000 in
theorem c_X8_cut (l : Launch) (w : Wp) (g : Nat → Nat → Int32) (v : St) (k0 : Nat) (a0 : Int32) (hq : Inj w) (hw : WF (wk w) g v) (h_k0 : oM w k0) : CTi w l yX8_cut (wsy yX8_cut prog_10_method_53_code 2 (some .int)) (rmL 2) [.ref (wq w k0), .int a0] v (fun (r : Int32) (u : St) => (WF (wk w) g u ∧ True) ∧ ((r, u) = F_X8_cut k0 a0 v) ∧ (∀ k j : Nat, ¬ (k = k0 + 1) → u.1 k j = v.1 k j)) := by
  generalize hpost : (fun (r : Int32) (u : St) => (WF (wk w) g u ∧ True) ∧ ((r, u) = F_X8_cut k0 a0 v) ∧ (∀ k j : Nat, ¬ (k = k0 + 1) → u.1 k j = v.1 k j)) = post
  refine CTi.of prog_10_method_53_code 2 (some .int) "StarWalkModel" (by decide +kernel) rfl hq hw (Nat.le_of_ble_eq_true rfl) ?_
  intro pg en s m ar bl me cd ls E I hr hlk hl
  have hx := E.1.1
  have hb := E.1.2.1
  have hl : lv_has ls 2 [(0, .ref (wq w k0)), (1, .int a0)] := hl
  obtain ⟨res, hres⟩ : ∃ z, z = F_X8_cut k0 a0 v := ⟨_, rfl⟩
  have hF := hres.symm
  unfold F_X8_cut at hF
  replace hres : res = F_X8_cut k0 a0 v := hres
  have rz0 : ∀ k j : Nat, ¬ (k = k0 + 1) → v.1 k j = v.1 k j := fun _ _ _ => rfl
  refine lv_iload_n hx hb dX8_cut_0 rfl (lv_at hl 1 rfl) ?_
  refine lv_i2l (v := a0.toInt64) hx hb dX8_cut_1 rfl ?_
  refine lv_lconst (v := 0) hx hb dX8_cut_2 (by decide) ?_
  refine lv_aload_n hx hb dX8_cut_3 rfl (lv_at hl 0 rfl) ?_
  refine g_StarWalkModel_st E I h_k0.1 mw_4_170 dX8_cut_4 ?_
  refine lv_bipush (v := 32) hx hb dX8_cut_7 (by decide) ?_
  refine ga_30 E I h_k0.2.1 (by decide) dX8_cut_9 ?_
  refine lv_topi (fun x2 ex2 => ?_)
  replace hF := xl_i (ex2) hF
  have hx2 : 0 ≤ x2.toInt ∧ x2.toInt ≤ 8 := by have h := ra_30 I h_k0.2.1 32; rw [ex2]; exact h.2.2.1 rfl
  refine lv_i2l (v := x2.toInt64) hx hb dX8_cut_10 rfl ?_
  refine cSi E I (c_X8_in l w g v a0.toInt64 (0 : Int64) x2.toInt64 E.2.2.1 I.2.2   ) (va_cwS 3 E.1.2.2.2.2 (gSs mw_5_29 mw_5_30 mw_1_9 mw_5_31) rfl rfl rfl (by decide +kernel) ⟨by decide, by decide⟩) rfl hl.1 rfl (Nat.le_of_ble_eq_true rfl) dX8_cut_11 ⟨Nat.le_refl _, Nat.le_refl _⟩ (fun r4 u5 H lo hp hPS => ?_)
  have iz6 := i64_of a0
  have iz7 : (0 : Int64).toInt = 0 := rfl
  have iz8 := i64_of x2
  obtain ⟨hp, hex, hfr⟩ := hp
  replace hF := xl_i hex hF
  obtain ⟨hu, p9⟩ := hp
  rw [hu] at hPS
  have I : Wo w g s.heap v H lo := ⟨hPS.1, hPS.2, I.2.2⟩
  refine bz_eq E (a := r4.toInt) rfl (tgt := 27) dX8_cut_14 (by decide) (fun c10 => ?_) (fun c10 => ?_)
  ·
    replace hF := if_t c10 hF
    refine lv_iconst (v := (-1)) hx hb dX8_cut_27 (by decide) ?_
    exact rI E I hr hlk rfl (by rw [← hpost]; exact ⟨⟨I.2.2, trivial⟩, hF.trans hres, rz0⟩) dX8_cut_28
  ·
    replace hF := if_f c10 hF
    refine lv_aload_n hx hb dX8_cut_17 rfl (lv_at hl 0 rfl) ?_
    refine lv_bipush (v := 32) hx hb dX8_cut_18 (by decide) ?_
    refine lv_iload_n hx hb dX8_cut_20 rfl (lv_at hl 1 rfl) ?_
    refine cVi E I (c_X8_becomes l w g v k0 (32 : Int32) a0 E.2.2.1 I.2.2 h_k0 (by decide) (by have ci : (32 : Int32).toNatClampNeg = 32 := rfl; rw [ci]; simp only [okk]; omega)) (cwV 2 E.1.2.2.2.2 (gWs (C := "StarWalkModel") mw_5_155 mw_5_157 mw_s_47 mw_1_9 mw_5_158) rfl rfl rfl (by decide +kernel) ⟨by decide, by decide⟩) h_k0.1.1 ((ce_o h_k0.1.2).trans rfl) rfl rfl hl.1 rfl (Nat.le_of_ble_eq_true rfl) dX8_cut_21 ⟨Nat.le_refl _, Nat.le_refl _⟩ (fun r11 u12 H lo hp hPS => ?_)
    obtain ⟨hp, hex, hfr⟩ := hp
    replace hF := xm_i hex hF
    obtain ⟨hwf, p13⟩ := hp
    have I : Wo w g s.heap u12 H lo := ⟨hPS.1, hPS.2, hwf⟩
    have rzu12 : ∀ k j : Nat, ¬ (k = k0 + 1) → u12.1 k j = v.1 k j := fun k j h => (hfr k j (fun z => h (by omega))).trans (rz0 k j h)
    refine lv_goto (tgt := 28) hx hb dX8_cut_24 (by decide) ?_
    exact rI E I hr hlk rfl (by rw [← hpost]; exact ⟨⟨I.2.2, trivial⟩, hF.trans hres, rzu12⟩) dX8_cut_28
def F_X8_pull (k0 : Nat) (a0 : Int32) (v : St) : Int32 × St :=
xl (F_X8_isHour a0 v) fun r1 =>
if r1.toInt = 0 then (
((-1 : Int32), v)) else (
xl (F_X8_starts k0 v) fun u5 =>
xl (F_X8_pullNow k0 a0 u5) fun r7 =>
(r7, u5))
set_option maxHeartbeats 4000000 in
set_option maxRecDepth 100000 in
theorem c_X8_pull (l : Launch) (w : Wp) (g : Nat → Nat → Int32) (v : St) (k0 : Nat) (a0 : Int32) (hq : Inj w) (hw : WF (wk w) g v) (h_k0 : oM w k0) : CTi w l yX8_pull (wsy yX8_pull prog_10_method_54_code 2 (some .int)) (rmL 3) [.ref (wq w k0), .int a0] v (fun (r : Int32) (u : St) => (WF (wk w) g u ∧ True) ∧ ((r, u) = F_X8_pull k0 a0 v) ∧ (∀ k j : Nat, ¬ (k = k0 + 2) → u.1 k j = v.1 k j)) := by
  generalize hpost : (fun (r : Int32) (u : St) => (WF (wk w) g u ∧ True) ∧ ((r, u) = F_X8_pull k0 a0 v) ∧ (∀ k j : Nat, ¬ (k = k0 + 2) → u.1 k j = v.1 k j)) = post
  refine CTi.of prog_10_method_54_code 2 (some .int) "StarWalkModel" (by decide +kernel) rfl hq hw (Nat.le_of_ble_eq_true rfl) ?_
  intro pg en s m ar bl me cd ls E I hr hlk hl
  have hx := E.1.1
  have hb := E.1.2.1
  have hl : lv_has ls 2 [(0, .ref (wq w k0)), (1, .int a0)] := hl
  obtain ⟨res, hres⟩ : ∃ z, z = F_X8_pull k0 a0 v := ⟨_, rfl⟩
  have hF := hres.symm
  unfold F_X8_pull at hF
  replace hres : res = F_X8_pull k0 a0 v := hres
  have rz0 : ∀ k j : Nat, ¬ (k = k0 + 2) → v.1 k j = v.1 k j := fun _ _ _ => rfl
  refine lv_iload_n hx hb dX8_pull_0 rfl (lv_at hl 1 rfl) ?_
  refine cSi E I (c_X8_isHour l w g v a0 E.2.2.1 I.2.2   ) (va_cwS 1 E.1.2.2.2.2 (gSs mw_5_163 mw_5_164 mw_1_9 mw_5_165) rfl rfl rfl (by decide +kernel) ⟨by decide, by decide⟩) rfl hl.1 rfl (Nat.le_of_ble_eq_true rfl) dX8_pull_1 ⟨Nat.le_refl _, Nat.le_refl _⟩ (fun r1 u2 H lo hp hPS => ?_)
  obtain ⟨hp, hex, hfr⟩ := hp
  replace hF := xl_i hex hF
  obtain ⟨hu, p3⟩ := hp
  rw [hu] at hPS
  have I : Wo w g s.heap v H lo := ⟨hPS.1, hPS.2, I.2.2⟩
  refine bz_ne E (a := r1.toInt) rfl (tgt := 9) dX8_pull_4 (by decide) (fun c4 => ?_) (fun c4 => ?_)
  ·
    replace hF := if_f c4 hF
    refine lv_aload_n hx hb dX8_pull_9 rfl (lv_at hl 0 rfl) ?_
    refine cVv E I (c_X8_starts l w g v k0 E.2.2.1 I.2.2 h_k0  ) (cwV 0 E.1.2.2.2.2 (gWs (C := "StarWalkModel") mw_5_108 mw_5_110 mw_s_42 mw_1_9 mw_5_111) rfl rfl rfl (by decide +kernel) ⟨by decide, by decide⟩) h_k0.1.1 ((ce_o h_k0.1.2).trans rfl) rfl rfl hl.1 rfl (Nat.le_of_ble_eq_true rfl) dX8_pull_10 ⟨Nat.le_refl _, Nat.le_refl _⟩ (fun u5 H lo hp hPS => ?_)
    obtain ⟨hp, hex, hfr⟩ := hp
    replace hF := xl_i hex hF
    obtain ⟨hwf, p6⟩ := hp
    have I : Wo w g s.heap u5 H lo := ⟨hPS.1, hPS.2, hwf⟩
    have rzu5 : ∀ k j : Nat, ¬ (k = k0 + 2) → u5.1 k j = v.1 k j := fun k j h => (hfr k j (fun z => h (by omega))).trans (rz0 k j h)
    refine lv_aload_n hx hb dX8_pull_13 rfl (lv_at hl 0 rfl) ?_
    refine lv_iload_n hx hb dX8_pull_14 rfl (lv_at hl 1 rfl) ?_
    refine cVi E I (c_X8_pullNow l w g u5 k0 a0 E.2.2.1 I.2.2 h_k0  ) (cwV 1 E.1.2.2.2.2 (gWs (C := "StarWalkModel") mw_5_196 mw_5_198 mw_s_49 mw_1_9 mw_5_199) rfl rfl rfl (by decide +kernel) ⟨by decide, by decide⟩) h_k0.1.1 ((ce_o h_k0.1.2).trans rfl) rfl rfl hl.1 rfl (Nat.le_of_ble_eq_true rfl) dX8_pull_15 ⟨Nat.le_refl _, Nat.le_refl _⟩ (fun r7 u8 H lo hp hPS => ?_)
    obtain ⟨hp, hex, hfr⟩ := hp
    replace hF := xl_i hex hF
    obtain ⟨hu, p9⟩ := hp
    rw [hu] at hPS
    have I : Wo w g s.heap u5 H lo := ⟨hPS.1, hPS.2, I.2.2⟩
    exact rI E I hr hlk rfl (by rw [← hpost]; exact ⟨⟨I.2.2, trivial⟩, hF.trans hres, rzu5⟩) dX8_pull_18
  ·
    replace hF := if_t c4 hF
    refine lv_iconst (v := (-1)) hx hb dX8_pull_7 (by decide) ?_
    exact rI E I hr hlk rfl (by rw [← hpost]; exact ⟨⟨I.2.2, trivial⟩, hF.trans hres, rz0⟩) dX8_pull_8
def F_X8_up (k0 : Nat) (a0 : Int32) (v : St) : Int32 × St :=
xl (fun (self_17 : Int32 → Int32 → St → Int32 × St) (y17_2 : Int32) (y17_3 : Int32) (v_17 : St) =>
xl (v_17.1 k0 3) fun x1 =>
if y17_3.toInt < x1.toInt then (
xl (F_X8_isUp k0 y17_3 a0 v_17) fun r3 =>
xl (F_X8_flag r3 v_17) fun r6 =>
xl (r6 <<< (y17_3 &&& 31)) fun x9 =>
xl (y17_2 ||| x9) fun x10 =>
xl (y17_3 + 1) fun x11 =>
(self_17 x10 x11 v_17)) else (
(y17_2, v_17))) fun P_17 =>
xl (F_X8_isHour a0 v) fun r12 =>
if r12.toInt = 0 then (
((-1 : Int32), v)) else (
xl (F_X8_starts k0 v) fun u16 =>
(lp P_17 (fun _ _ _ => ((0 : Int32), v)) ((2147483647 - (0 : Int32).toInt).toNat + 1) (0 : Int32) (0 : Int32) u16))
set_option maxHeartbeats 4000000 in
set_option maxRecDepth 100000 in
theorem c_X8_up (l : Launch) (w : Wp) (g : Nat → Nat → Int32) (v : St) (k0 : Nat) (a0 : Int32) (hq : Inj w) (hw : WF (wk w) g v) (h_k0 : oM w k0) : CTi w l yX8_up (wsy yX8_up prog_10_method_55_code 4 (some .int)) (rmL 3) [.ref (wq w k0), .int a0] v (fun (r : Int32) (u : St) => (WF (wk w) g u ∧ True) ∧ ((r, u) = F_X8_up k0 a0 v) ∧ (∀ k j : Nat, ¬ (k = k0 + 2) → u.1 k j = v.1 k j)) := by
  generalize hpost : (fun (r : Int32) (u : St) => (WF (wk w) g u ∧ True) ∧ ((r, u) = F_X8_up k0 a0 v) ∧ (∀ k j : Nat, ¬ (k = k0 + 2) → u.1 k j = v.1 k j)) = post
  refine CTi.of prog_10_method_55_code 4 (some .int) "StarWalkModel" (by decide +kernel) rfl hq hw (Nat.le_of_ble_eq_true rfl) ?_
  intro pg en s m ar bl me cd ls E I hr hlk hl
  have hx := E.1.1
  have hb := E.1.2.1
  have hl : lv_has ls 4 [(0, .ref (wq w k0)), (1, .int a0)] := hl
  obtain ⟨res, hres⟩ : ∃ z, z = F_X8_up k0 a0 v := ⟨_, rfl⟩
  have hF := hres.symm
  unfold F_X8_up at hF
  replace hres : res = F_X8_up k0 a0 v := hres
  have rz0 : ∀ k j : Nat, ¬ (k = k0 + 2) → v.1 k j = v.1 k j := fun _ _ _ => rfl
  obtain ⟨P_17, eP_17, hF⟩ := xl_e hF
  have L_17 : ∀ (n : Nat), ∀ (H : Heap) (lo : List Loc) (v_17 : St), Wo w g s.heap v_17 H lo → ∀ (y17_2 : Int32) (y17_3 : Int32), (0 ≤ y17_3.toInt ∧ y17_3.toInt ≤ 5) → (0 ≤ a0.toInt ∧ a0.toInt ≤ 9) → (∀ k j : Nat, ¬ (k = k0 + 2) → v_17.1 k j = v.1 k j) → (lp P_17 (fun _ _ _ => ((0 : Int32), v)) n y17_2 y17_3 v_17 = res) → (2147483647 - y17_3.toInt).toNat < n → ∀ (ls : Array Slot), lv_has ls 4 [(0, .ref (wq w k0)), (1, .int a0), (2, .int y17_2), (3, .int y17_3)] → W pg l en (rmL 3) s m ar bl me cd H lo 0 0 (Zi w bl ar s post) (F0 m 17 ls []) := by
    intro n
    induction n with
    | zero => intro H lo v_17 I y17_2 y17_3 hy17_3 hE17_0 rB17_Z hF hm; exact absurd hm (Nat.not_lt_zero _)
    | succ n ih_17 =>
      intro H lo v_17 I y17_2 y17_3 hy17_3 hE17_0 rB17_Z hF hm ls hl
      replace hF := lpa3 eP_17 hF
      refine lv_iload_n hx hb dX8_up_17 rfl (lv_at hl 3 rfl) ?_
      refine lv_aload_n hx hb dX8_up_18 rfl (lv_at hl 0 rfl) ?_
      refine g_StarWalkModel_stars E I h_k0.1 mw_4_173 dX8_up_19 ?_
      refine lv_topi (fun x1 ex1 => ?_)
      replace hF := xl_i (ex1) hF
      have hx1 := r_StarWalkModel_stars I h_k0.1
      rw [← ex1] at hx1
      refine bi_ge E (a := y17_3.toInt) (b := x1.toInt) rfl rfl (tgt := 45) dX8_up_22 (by decide) (fun c2 => ?_) (fun c2 => ?_)
      ·
        replace hF := if_l c2 hF
        refine lv_iload_n hx hb dX8_up_45 rfl (lv_at hl 2 rfl) ?_
        exact rI E I hr hlk rfl (by rw [← hpost]; exact ⟨⟨I.2.2, trivial⟩, hF.trans hres, rB17_Z⟩) dX8_up_46
      ·
        replace hF := if_t c2 hF
        refine lv_iload_n hx hb dX8_up_25 rfl (lv_at hl 2 rfl) ?_
        refine lv_aload_n hx hb dX8_up_26 rfl (lv_at hl 0 rfl) ?_
        refine lv_iload_n hx hb dX8_up_27 rfl (lv_at hl 3 rfl) ?_
        refine lv_iload_n hx hb dX8_up_28 rfl (lv_at hl 1 rfl) ?_
        refine cVi E I (c_X8_isUp l w g v_17 k0 y17_3 a0 E.2.2.1 I.2.2 h_k0 (by omega) ) (cwV 2 E.1.2.2.2.2 (gWs (C := "StarWalkModel") mw_5_207 mw_5_209 mw_s_50 mw_1_9 mw_5_210) rfl rfl rfl (by decide +kernel) ⟨by decide, by decide⟩) h_k0.1.1 ((ce_o h_k0.1.2).trans rfl) rfl rfl hl.1 rfl (Nat.le_of_ble_eq_true rfl) dX8_up_29 ⟨Nat.le_refl _, Nat.le_refl _⟩ (fun r3 u4 H lo hp hPS => ?_)
        obtain ⟨hp, hex, hfr⟩ := hp
        replace hF := xl_i hex hF
        obtain ⟨hu, p5⟩ := hp
        rw [hu] at hPS
        have I : Wo w g s.heap v_17 H lo := ⟨hPS.1, hPS.2, I.2.2⟩
        refine cSi E I (c_X8_flag l w g v_17 r3 E.2.2.1 I.2.2   ) (va_cwS 1 E.1.2.2.2.2 (gSs mw_5_119 mw_5_120 mw_1_9 mw_5_121) rfl rfl rfl (by decide +kernel) ⟨by decide, by decide⟩) rfl hl.1 rfl (Nat.le_of_ble_eq_true rfl) dX8_up_32 ⟨Nat.le_refl _, Nat.le_refl _⟩ (fun r6 u7 H lo hp hPS => ?_)
        obtain ⟨hp, hex, hfr⟩ := hp
        replace hF := xl_i hex hF
        obtain ⟨hu, p8⟩ := hp
        rw [hu] at hPS
        have I : Wo w g s.heap v_17 H lo := ⟨hPS.1, hPS.2, I.2.2⟩
        refine lv_iload_n hx hb dX8_up_35 rfl (lv_at hl 3 rfl) ?_
        refine lv_ishl hx hb dX8_up_36 ?_
        refine lv_topi (fun x9 ex9 => ?_)
        replace hF := xl_i (ex9) hF
        refine lv_ior hx hb dX8_up_37 ?_
        refine lv_topi (fun x10 ex10 => ?_)
        replace hF := xl_i (ex10) hF
        refine lv_istore_n (lv' := [(2, .int x10), (0, .ref (wq w k0)), (1, .int a0), (3, .int y17_3)]) hx hb dX8_up_38 rfl hl (by decide) rfl (fun ls hl => ?_)
        obtain ⟨x11, ex11⟩ : ∃ z : Int32, z = y17_3 + 1 := ⟨_, rfl⟩
        replace hF := xl_i (ex11) hF
        have hx11 : x11.toInt = y17_3.toInt + (1) := by rw [ex11]; exact adI (a := y17_3.toInt) (b := 1) rfl rfl (by omega) (by omega)
        refine lv_iinc (v := x11) (lv' := [(3, .int x11), (2, .int x10), (0, .ref (wq w k0)), (1, .int a0)]) hx hb dX8_up_39 hl (k := 3) rfl (by rw [ex11]; rfl) (by decide) rfl (fun ls hl => ?_)
        refine lv_goto (tgt := 17) hx hb dX8_up_42 (by decide) ?_
        exact ih_17 _ _ v_17 I x10 x11 (by omega) (by omega) rB17_Z hF (by omega) ls (lv_sub hl [2, 3, 1, 0] rfl)
  refine lv_iload_n hx hb dX8_up_0 rfl (lv_at hl 1 rfl) ?_
  refine cSi E I (c_X8_isHour l w g v a0 E.2.2.1 I.2.2   ) (va_cwS 1 E.1.2.2.2.2 (gSs mw_5_163 mw_5_164 mw_1_9 mw_5_165) rfl rfl rfl (by decide +kernel) ⟨by decide, by decide⟩) rfl hl.1 rfl (Nat.le_of_ble_eq_true rfl) dX8_up_1 ⟨Nat.le_refl _, Nat.le_refl _⟩ (fun r12 u13 H lo hp hPS => ?_)
  obtain ⟨hp, hex, hfr⟩ := hp
  replace hF := xl_i hex hF
  obtain ⟨hu, p14⟩ := hp
  rw [hu] at hPS
  have I : Wo w g s.heap v H lo := ⟨hPS.1, hPS.2, I.2.2⟩
  refine bz_ne E (a := r12.toInt) rfl (tgt := 9) dX8_up_4 (by decide) (fun c15 => ?_) (fun c15 => ?_)
  ·
    replace hF := if_f c15 hF
    refine lv_aload_n hx hb dX8_up_9 rfl (lv_at hl 0 rfl) ?_
    refine cVv E I (c_X8_starts l w g v k0 E.2.2.1 I.2.2 h_k0  ) (cwV 0 E.1.2.2.2.2 (gWs (C := "StarWalkModel") mw_5_108 mw_5_110 mw_s_42 mw_1_9 mw_5_111) rfl rfl rfl (by decide +kernel) ⟨by decide, by decide⟩) h_k0.1.1 ((ce_o h_k0.1.2).trans rfl) rfl rfl hl.1 rfl (Nat.le_of_ble_eq_true rfl) dX8_up_10 ⟨Nat.le_refl _, Nat.le_refl _⟩ (fun u16 H lo hp hPS => ?_)
    obtain ⟨hp, hex, hfr⟩ := hp
    replace hF := xl_i hex hF
    obtain ⟨hwf, p17⟩ := hp
    have I : Wo w g s.heap u16 H lo := ⟨hPS.1, hPS.2, hwf⟩
    have rzu16 : ∀ k j : Nat, ¬ (k = k0 + 2) → u16.1 k j = v.1 k j := fun k j h => (hfr k j (fun z => h (by omega))).trans (rz0 k j h)
    refine lv_iconst (v := 0) hx hb dX8_up_13 (by decide) ?_
    refine lv_istore_n (lv' := [(2, .int 0), (0, .ref (wq w k0)), (1, .int a0)]) hx hb dX8_up_14 rfl hl (by decide) rfl (fun ls hl => ?_)
    refine lv_iconst (v := 0) hx hb dX8_up_15 (by decide) ?_
    refine lv_istore_n (lv' := [(3, .int 0), (2, .int 0), (0, .ref (wq w k0)), (1, .int a0)]) hx hb dX8_up_16 rfl hl (by decide) rfl (fun ls hl => ?_)
    exact L_17 ((2147483647 - (0 : Int32).toInt).toNat + 1) _ _ u16 I (0 : Int32) (0 : Int32) (by decide) (by omega) rzu16 hF (Nat.lt_succ_self _) ls (lv_sub hl [2, 3, 1, 0] rfl)
  ·
    replace hF := if_t c15 hF
    refine lv_iconst (v := (-1)) hx hb dX8_up_7 (by decide) ?_
    exact rI E I hr hlk rfl (by rw [← hpost]; exact ⟨⟨I.2.2, trivial⟩, hF.trans hres, rz0⟩) dX8_up_8
def F_X8_go (k0 : Nat) (a0 : Int32) (v : St) : Int32 × St :=
xl (F_X8_isAim k0 a0 v) fun r1 =>
if r1.toInt = 0 then (
((-1 : Int32), v)) else (
xl (F_X8_starts k0 v) fun u5 =>
xm (F_X8_steps k0 a0 u5) fun r7 u8 =>
if r7.toInt = 0 then (
((-2 : Int32), u8)) else (
xl (F_X8_settles k0 u8) fun u11 =>
xl (u11.1 (k0 + 1) (30 : Int32).toNatClampNeg) fun x13 =>
(x13, u11)))
set_option maxHeartbeats 4000000 in
set_option maxRecDepth 100000 in
theorem c_X8_go (l : Launch) (w : Wp) (g : Nat → Nat → Int32) (v : St) (k0 : Nat) (a0 : Int32) (hq : Inj w) (hw : WF (wk w) g v) (h_k0 : oM w k0) : CTi w l yX8_go (wsy yX8_go prog_10_method_56_code 2 (some .int)) (rmL 5) [.ref (wq w k0), .int a0] v (fun (r : Int32) (u : St) => (WF (wk w) g u ∧ True) ∧ ((r, u) = F_X8_go k0 a0 v) ∧ (∀ k j : Nat, ¬ (k = k0 + 1 ∨ k = k0 + 2 ∨ (k = k0 ∧ 19 ≤ j ∧ j ≤ 20)) → u.1 k j = v.1 k j)) := by
  generalize hpost : (fun (r : Int32) (u : St) => (WF (wk w) g u ∧ True) ∧ ((r, u) = F_X8_go k0 a0 v) ∧ (∀ k j : Nat, ¬ (k = k0 + 1 ∨ k = k0 + 2 ∨ (k = k0 ∧ 19 ≤ j ∧ j ≤ 20)) → u.1 k j = v.1 k j)) = post
  refine CTi.of prog_10_method_56_code 2 (some .int) "StarWalkModel" (by decide +kernel) rfl hq hw (Nat.le_of_ble_eq_true rfl) ?_
  intro pg en s m ar bl me cd ls E I hr hlk hl
  have hx := E.1.1
  have hb := E.1.2.1
  have hl : lv_has ls 2 [(0, .ref (wq w k0)), (1, .int a0)] := hl
  obtain ⟨res, hres⟩ : ∃ z, z = F_X8_go k0 a0 v := ⟨_, rfl⟩
  have hF := hres.symm
  unfold F_X8_go at hF
  replace hres : res = F_X8_go k0 a0 v := hres
  have rz0 : ∀ k j : Nat, ¬ (k = k0 + 1 ∨ k = k0 + 2 ∨ (k = k0 ∧ 19 ≤ j ∧ j ≤ 20)) → v.1 k j = v.1 k j := fun _ _ _ => rfl
  refine lv_aload_n hx hb dX8_go_0 rfl (lv_at hl 0 rfl) ?_
  refine lv_iload_n hx hb dX8_go_1 rfl (lv_at hl 1 rfl) ?_
  refine cVi E I (c_X8_isAim l w g v k0 a0 E.2.2.1 I.2.2 h_k0  ) (cwV 1 E.1.2.2.2.2 (gWs (C := "StarWalkModel") mw_5_183 mw_5_185 mw_s_48 mw_1_9 mw_5_186) rfl rfl rfl (by decide +kernel) ⟨by decide, by decide⟩) h_k0.1.1 ((ce_o h_k0.1.2).trans rfl) rfl rfl hl.1 rfl (Nat.le_of_ble_eq_true rfl) dX8_go_2 ⟨Nat.le_refl _, Nat.le_refl _⟩ (fun r1 u2 H lo hp hPS => ?_)
  obtain ⟨hp, hex, hfr⟩ := hp
  replace hF := xl_i hex hF
  obtain ⟨hu, p3⟩ := hp
  rw [hu] at hPS
  have I : Wo w g s.heap v H lo := ⟨hPS.1, hPS.2, I.2.2⟩
  refine bz_ne E (a := r1.toInt) rfl (tgt := 10) dX8_go_5 (by decide) (fun c4 => ?_) (fun c4 => ?_)
  ·
    replace hF := if_f c4 hF
    refine lv_aload_n hx hb dX8_go_10 rfl (lv_at hl 0 rfl) ?_
    refine cVv E I (c_X8_starts l w g v k0 E.2.2.1 I.2.2 h_k0  ) (cwV 0 E.1.2.2.2.2 (gWs (C := "StarWalkModel") mw_5_108 mw_5_110 mw_s_42 mw_1_9 mw_5_111) rfl rfl rfl (by decide +kernel) ⟨by decide, by decide⟩) h_k0.1.1 ((ce_o h_k0.1.2).trans rfl) rfl rfl hl.1 rfl (Nat.le_of_ble_eq_true rfl) dX8_go_11 ⟨Nat.le_refl _, Nat.le_refl _⟩ (fun u5 H lo hp hPS => ?_)
    obtain ⟨hp, hex, hfr⟩ := hp
    replace hF := xl_i hex hF
    obtain ⟨hwf, p6⟩ := hp
    have I : Wo w g s.heap u5 H lo := ⟨hPS.1, hPS.2, hwf⟩
    have rzu5 : ∀ k j : Nat, ¬ (k = k0 + 1 ∨ k = k0 + 2 ∨ (k = k0 ∧ 19 ≤ j ∧ j ≤ 20)) → u5.1 k j = v.1 k j := fun k j h => (hfr k j (fun z => h (by omega))).trans (rz0 k j h)
    refine lv_aload_n hx hb dX8_go_14 rfl (lv_at hl 0 rfl) ?_
    refine lv_iload_n hx hb dX8_go_15 rfl (lv_at hl 1 rfl) ?_
    refine cVi E I (c_X8_steps l w g u5 k0 a0 E.2.2.1 I.2.2 h_k0 (by omega) ) (cwV 1 E.1.2.2.2.2 (gWs (C := "StarWalkModel") mw_5_215 mw_5_217 mw_s_51 mw_1_9 mw_5_218) rfl rfl rfl (by decide +kernel) ⟨by decide, by decide⟩) h_k0.1.1 ((ce_o h_k0.1.2).trans rfl) rfl rfl hl.1 rfl (Nat.le_of_ble_eq_true rfl) dX8_go_16 ⟨Nat.le_refl _, Nat.le_refl _⟩ (fun r7 u8 H lo hp hPS => ?_)
    obtain ⟨hp, hex, hfr⟩ := hp
    replace hF := xm_i hex hF
    obtain ⟨hwf, p9⟩ := hp
    have I : Wo w g s.heap u8 H lo := ⟨hPS.1, hPS.2, hwf⟩
    have rzu8 : ∀ k j : Nat, ¬ (k = k0 + 1 ∨ k = k0 + 2 ∨ (k = k0 ∧ 19 ≤ j ∧ j ≤ 20)) → u8.1 k j = v.1 k j := fun k j h => (hfr k j (fun z => h (by rcases z with z | z <;> omega))).trans (rzu5 k j h)
    refine bz_ne E (a := r7.toInt) rfl (tgt := 25) dX8_go_19 (by decide) (fun c10 => ?_) (fun c10 => ?_)
    ·
      replace hF := if_f c10 hF
      refine lv_aload_n hx hb dX8_go_25 rfl (lv_at hl 0 rfl) ?_
      refine cVv E I (c_X8_settles l w g u8 k0 E.2.2.1 I.2.2 h_k0  ) (cwV 0 E.1.2.2.2.2 (gWs (C := "StarWalkModel") mw_5_227 mw_5_229 mw_s_54 mw_1_9 mw_5_230) rfl rfl rfl (by decide +kernel) ⟨by decide, by decide⟩) h_k0.1.1 ((ce_o h_k0.1.2).trans rfl) rfl rfl hl.1 rfl (Nat.le_of_ble_eq_true rfl) dX8_go_26 ⟨Nat.le_refl _, Nat.le_refl _⟩ (fun u11 H lo hp hPS => ?_)
      obtain ⟨hp, hex, hfr⟩ := hp
      replace hF := xl_i hex hF
      obtain ⟨hwf, p12⟩ := hp
      have I : Wo w g s.heap u11 H lo := ⟨hPS.1, hPS.2, hwf⟩
      have rzu11 : ∀ k j : Nat, ¬ (k = k0 + 1 ∨ k = k0 + 2 ∨ (k = k0 ∧ 19 ≤ j ∧ j ≤ 20)) → u11.1 k j = v.1 k j := fun k j h => (hfr k j (fun z => h (by omega))).trans (rzu8 k j h)
      refine lv_aload_n hx hb dX8_go_29 rfl (lv_at hl 0 rfl) ?_
      refine g_StarWalkModel_st E I h_k0.1 mw_4_170 dX8_go_30 ?_
      refine lv_bipush (v := 30) hx hb dX8_go_33 (by decide) ?_
      refine ga_30 E I h_k0.2.1 (by decide) dX8_go_35 ?_
      refine lv_topi (fun x13 ex13 => ?_)
      replace hF := xl_i (ex13) hF
      exact rI E I hr hlk rfl (by rw [← hpost]; exact ⟨⟨I.2.2, trivial⟩, hF.trans hres, rzu11⟩) dX8_go_36
    ·
      replace hF := if_t c10 hF
      refine lv_bipush (v := (-2)) hx hb dX8_go_22 (by decide) ?_
      exact rI E I hr hlk rfl (by rw [← hpost]; exact ⟨⟨I.2.2, trivial⟩, hF.trans hres, rzu8⟩) dX8_go_24
  ·
    replace hF := if_t c4 hF
    refine lv_iconst (v := (-1)) hx hb dX8_go_8 (by decide) ?_
    exact rI E I hr hlk rfl (by rw [← hpost]; exact ⟨⟨I.2.2, trivial⟩, hF.trans hres, rz0⟩) dX8_go_9
def F_X8_runs (k0 : Nat) (a0 : Int32) (v : St) : Int32 × St :=
xl (F_X8_in a0.toInt64 (0 : Int64) (6 : Int64) v) fun r2 =>
if r2.toInt = 0 then (
((-1 : Int32), v)) else (
xl (F_X8_starts k0 v) fun u9 =>
xl (F_X8_plansGo k0 u9) fun u11 =>
if a0.toInt = 0 then (
xl (u11.1 (k0 + 2) (30 : Int32).toNatClampNeg) fun x14 =>
(x14, u11)) else (
if a0.toInt = 1 then (
xl (u11.1 (k0 + 2) (31 : Int32).toNatClampNeg) fun x16 =>
xl ((1000 : Int32) + x16) fun x17 =>
(x17, u11)) else (
if a0.toInt = 2 then (
xl (u11.1 (k0 + 2) (27 : Int32).toNatClampNeg) fun x19 =>
(x19, u11)) else (
if a0.toInt = 3 then (
xl (u11.1 (k0 + 2) (29 : Int32).toNatClampNeg) fun x21 =>
(x21, u11)) else (
if a0.toInt = 4 then (
xl (u11.1 k0 19) fun x23 =>
(x23, u11)) else (
if a0.toInt = 5 then (
xl (F_X8_isAtWell k0 u11) fun r25 =>
xl (F_X8_flag r25 u11) fun r28 =>
(r28, u11)) else (
xl (u11.1 k0 20) fun x31 =>
(x31, u11))))))))
set_option maxHeartbeats 4000000 in
set_option maxRecDepth 100000 in
theorem c_X8_runs (l : Launch) (w : Wp) (g : Nat → Nat → Int32) (v : St) (k0 : Nat) (a0 : Int32) (hq : Inj w) (hw : WF (wk w) g v) (h_k0 : oM w k0) : CTi w l yX8_runs (wsy yX8_runs prog_10_method_57_code 2 (some .int)) (rmL 6) [.ref (wq w k0), .int a0] v (fun (r : Int32) (u : St) => (WF (wk w) g u ∧ True) ∧ ((r, u) = F_X8_runs k0 a0 v) ∧ (∀ k j : Nat, ¬ (k = k0 + 2 ∨ (k = k0 ∧ 19 ≤ j ∧ j ≤ 22)) → u.1 k j = v.1 k j)) := by
  generalize hpost : (fun (r : Int32) (u : St) => (WF (wk w) g u ∧ True) ∧ ((r, u) = F_X8_runs k0 a0 v) ∧ (∀ k j : Nat, ¬ (k = k0 + 2 ∨ (k = k0 ∧ 19 ≤ j ∧ j ≤ 22)) → u.1 k j = v.1 k j)) = post
  refine CTi.of prog_10_method_57_code 2 (some .int) "StarWalkModel" (by decide +kernel) rfl hq hw (Nat.le_of_ble_eq_true rfl) ?_
  intro pg en s m ar bl me cd ls E I hr hlk hl
  have hx := E.1.1
  have hb := E.1.2.1
  have hl : lv_has ls 2 [(0, .ref (wq w k0)), (1, .int a0)] := hl
  obtain ⟨res, hres⟩ : ∃ z, z = F_X8_runs k0 a0 v := ⟨_, rfl⟩
  have hF := hres.symm
  unfold F_X8_runs at hF
  replace hres : res = F_X8_runs k0 a0 v := hres
  have rz0 : ∀ k j : Nat, ¬ (k = k0 + 2 ∨ (k = k0 ∧ 19 ≤ j ∧ j ≤ 22)) → v.1 k j = v.1 k j := fun _ _ _ => rfl
  refine lv_iload_n hx hb dX8_runs_0 rfl (lv_at hl 1 rfl) ?_
  refine lv_i2l (v := a0.toInt64) hx hb dX8_runs_1 rfl ?_
  refine lv_lconst (v := 0) hx hb dX8_runs_2 (by decide) ?_
  refine lv_ldc2 (own := "StarWalkModel") hx hb E.1.2.2.2.1 (Ew E mw_5_174 rfl) dX8_runs_3 ?_
  refine cSi E I (c_X8_in l w g v a0.toInt64 (0 : Int64) (6 : Int64) E.2.2.1 I.2.2   ) (va_cwS 3 E.1.2.2.2.2 (gSs mw_5_29 mw_5_30 mw_1_9 mw_5_31) rfl rfl rfl (by decide +kernel) ⟨by decide, by decide⟩) rfl hl.1 rfl (Nat.le_of_ble_eq_true rfl) dX8_runs_6 ⟨Nat.le_refl _, Nat.le_refl _⟩ (fun r2 u3 H lo hp hPS => ?_)
  have iz4 := i64_of a0
  have iz5 : (0 : Int64).toInt = 0 := rfl
  have iz6 : (6 : Int64).toInt = 6 := rfl
  obtain ⟨hp, hex, hfr⟩ := hp
  replace hF := xl_i hex hF
  obtain ⟨hu, p7⟩ := hp
  rw [hu] at hPS
  have I : Wo w g s.heap v H lo := ⟨hPS.1, hPS.2, I.2.2⟩
  refine bz_ne E (a := r2.toInt) rfl (tgt := 14) dX8_runs_9 (by decide) (fun c8 => ?_) (fun c8 => ?_)
  ·
    replace hF := if_f c8 hF
    refine lv_aload_n hx hb dX8_runs_14 rfl (lv_at hl 0 rfl) ?_
    refine cVv E I (c_X8_starts l w g v k0 E.2.2.1 I.2.2 h_k0  ) (cwV 0 E.1.2.2.2.2 (gWs (C := "StarWalkModel") mw_5_108 mw_5_110 mw_s_42 mw_1_9 mw_5_111) rfl rfl rfl (by decide +kernel) ⟨by decide, by decide⟩) h_k0.1.1 ((ce_o h_k0.1.2).trans rfl) rfl rfl hl.1 rfl (Nat.le_of_ble_eq_true rfl) dX8_runs_15 ⟨Nat.le_refl _, Nat.le_refl _⟩ (fun u9 H lo hp hPS => ?_)
    obtain ⟨hp, hex, hfr⟩ := hp
    replace hF := xl_i hex hF
    obtain ⟨hwf, p10⟩ := hp
    have I : Wo w g s.heap u9 H lo := ⟨hPS.1, hPS.2, hwf⟩
    have rzu9 : ∀ k j : Nat, ¬ (k = k0 + 2 ∨ (k = k0 ∧ 19 ≤ j ∧ j ≤ 22)) → u9.1 k j = v.1 k j := fun k j h => (hfr k j (fun z => h (by omega))).trans (rz0 k j h)
    refine lv_aload_n hx hb dX8_runs_18 rfl (lv_at hl 0 rfl) ?_
    refine cVv E I (c_X8_plansGo l w g u9 k0 E.2.2.1 I.2.2 h_k0  ) (cwV 0 E.1.2.2.2.2 (gWs (C := "StarWalkModel") mw_5_235 mw_5_237 mw_s_55 mw_1_9 mw_5_238) rfl rfl rfl (by decide +kernel) ⟨by decide, by decide⟩) h_k0.1.1 ((ce_o h_k0.1.2).trans rfl) rfl rfl hl.1 rfl (Nat.le_of_ble_eq_true rfl) dX8_runs_19 ⟨Nat.le_refl _, Nat.le_refl _⟩ (fun u11 H lo hp hPS => ?_)
    obtain ⟨hp, hex, hfr⟩ := hp
    replace hF := xl_i hex hF
    obtain ⟨hwf, p12⟩ := hp
    have I : Wo w g s.heap u11 H lo := ⟨hPS.1, hPS.2, hwf⟩
    have rzu11 : ∀ k j : Nat, ¬ (k = k0 + 2 ∨ (k = k0 ∧ 19 ≤ j ∧ j ≤ 22)) → u11.1 k j = v.1 k j := fun k j h => (hfr k j (fun z => h (by rcases z with z | z <;> omega))).trans (rzu9 k j h)
    refine lv_iload_n hx hb dX8_runs_22 rfl (lv_at hl 1 rfl) ?_
    by_cases c13 : a0.toInt = 0
    ·
      replace hF := if_t c13 hF
      refine lv_tableIn hx hb dX8_runs_23 (by omega) (by omega) (by rw [c13]; rfl) (tgt := 60) (by decide) ?_
      refine lv_aload_n hx hb dX8_runs_60 rfl (lv_at hl 0 rfl) ?_
      refine g_StarWalkModel_at E I h_k0.1 mw_4_171 dX8_runs_61 ?_
      refine lv_bipush (v := 30) hx hb dX8_runs_64 (by decide) ?_
      refine ga_31 E I h_k0.2.2.1 (by decide) dX8_runs_66 ?_
      refine lv_topi (fun x14 ex14 => ?_)
      replace hF := xl_i (ex14) hF
      exact rI E I hr hlk rfl (by rw [← hpost]; exact ⟨⟨I.2.2, trivial⟩, hF.trans hres, rzu11⟩) dX8_runs_67
    replace hF := if_f c13 hF
    by_cases c15 : a0.toInt = 1
    ·
      replace hF := if_t c15 hF
      refine lv_tableIn hx hb dX8_runs_23 (by omega) (by omega) (by rw [c15]; rfl) (tgt := 68) (by decide) ?_
      refine lv_sipush (v := 1000) hx hb dX8_runs_68 (by decide) ?_
      refine lv_aload_n hx hb dX8_runs_71 rfl (lv_at hl 0 rfl) ?_
      refine g_StarWalkModel_at E I h_k0.1 mw_4_171 dX8_runs_72 ?_
      refine lv_bipush (v := 31) hx hb dX8_runs_75 (by decide) ?_
      refine ga_31 E I h_k0.2.2.1 (by decide) dX8_runs_77 ?_
      refine lv_topi (fun x16 ex16 => ?_)
      replace hF := xl_i (ex16) hF
      refine lv_iadd hx hb dX8_runs_78 ?_
      refine lv_topi (fun x17 ex17 => ?_)
      replace hF := xl_i (ex17) hF
      exact rI E I hr hlk rfl (by rw [← hpost]; exact ⟨⟨I.2.2, trivial⟩, hF.trans hres, rzu11⟩) dX8_runs_79
    replace hF := if_f c15 hF
    by_cases c18 : a0.toInt = 2
    ·
      replace hF := if_t c18 hF
      refine lv_tableIn hx hb dX8_runs_23 (by omega) (by omega) (by rw [c18]; rfl) (tgt := 80) (by decide) ?_
      refine lv_aload_n hx hb dX8_runs_80 rfl (lv_at hl 0 rfl) ?_
      refine g_StarWalkModel_at E I h_k0.1 mw_4_171 dX8_runs_81 ?_
      refine lv_bipush (v := 27) hx hb dX8_runs_84 (by decide) ?_
      refine ga_31 E I h_k0.2.2.1 (by decide) dX8_runs_86 ?_
      refine lv_topi (fun x19 ex19 => ?_)
      replace hF := xl_i (ex19) hF
      exact rI E I hr hlk rfl (by rw [← hpost]; exact ⟨⟨I.2.2, trivial⟩, hF.trans hres, rzu11⟩) dX8_runs_87
    replace hF := if_f c18 hF
    by_cases c20 : a0.toInt = 3
    ·
      replace hF := if_t c20 hF
      refine lv_tableIn hx hb dX8_runs_23 (by omega) (by omega) (by rw [c20]; rfl) (tgt := 88) (by decide) ?_
      refine lv_aload_n hx hb dX8_runs_88 rfl (lv_at hl 0 rfl) ?_
      refine g_StarWalkModel_at E I h_k0.1 mw_4_171 dX8_runs_89 ?_
      refine lv_bipush (v := 29) hx hb dX8_runs_92 (by decide) ?_
      refine ga_31 E I h_k0.2.2.1 (by decide) dX8_runs_94 ?_
      refine lv_topi (fun x21 ex21 => ?_)
      replace hF := xl_i (ex21) hF
      have hx21 : 0 ≤ x21.toInt ∧ x21.toInt ≤ 10 := by have h := ra_31 I h_k0.2.2.1 29; rw [ex21]; exact h.2.1 rfl
      exact rI E I hr hlk rfl (by rw [← hpost]; exact ⟨⟨I.2.2, trivial⟩, hF.trans hres, rzu11⟩) dX8_runs_95
    replace hF := if_f c20 hF
    by_cases c22 : a0.toInt = 4
    ·
      replace hF := if_t c22 hF
      refine lv_tableIn hx hb dX8_runs_23 (by omega) (by omega) (by rw [c22]; rfl) (tgt := 96) (by decide) ?_
      refine lv_aload_n hx hb dX8_runs_96 rfl (lv_at hl 0 rfl) ?_
      refine g_StarWalkModel_blindSteps E I h_k0.1 mw_4_189 dX8_runs_97 ?_
      refine lv_topi (fun x23 ex23 => ?_)
      replace hF := xl_i (ex23) hF
      exact rI E I hr hlk rfl (by rw [← hpost]; exact ⟨⟨I.2.2, trivial⟩, hF.trans hres, rzu11⟩) dX8_runs_100
    replace hF := if_f c22 hF
    by_cases c24 : a0.toInt = 5
    ·
      replace hF := if_t c24 hF
      refine lv_tableIn hx hb dX8_runs_23 (by omega) (by omega) (by rw [c24]; rfl) (tgt := 101) (by decide) ?_
      refine lv_aload_n hx hb dX8_runs_101 rfl (lv_at hl 0 rfl) ?_
      refine cVi E I (c_X8_isAtWell l w g u11 k0 E.2.2.1 I.2.2 h_k0  ) (cwV 0 E.1.2.2.2.2 (gWs (C := "StarWalkModel") mw_5_112 mw_5_114 mw_s_43 mw_1_9 mw_5_115) rfl rfl rfl (by decide +kernel) ⟨by decide, by decide⟩) h_k0.1.1 ((ce_o h_k0.1.2).trans rfl) rfl rfl hl.1 rfl (Nat.le_of_ble_eq_true rfl) dX8_runs_102 ⟨Nat.le_refl _, Nat.le_refl _⟩ (fun r25 u26 H lo hp hPS => ?_)
      obtain ⟨hp, hex, hfr⟩ := hp
      replace hF := xl_i hex hF
      obtain ⟨hu, p27⟩ := hp
      rw [hu] at hPS
      have I : Wo w g s.heap u11 H lo := ⟨hPS.1, hPS.2, I.2.2⟩
      refine cSi E I (c_X8_flag l w g u11 r25 E.2.2.1 I.2.2   ) (va_cwS 1 E.1.2.2.2.2 (gSs mw_5_119 mw_5_120 mw_1_9 mw_5_121) rfl rfl rfl (by decide +kernel) ⟨by decide, by decide⟩) rfl hl.1 rfl (Nat.le_of_ble_eq_true rfl) dX8_runs_105 ⟨Nat.le_refl _, Nat.le_refl _⟩ (fun r28 u29 H lo hp hPS => ?_)
      obtain ⟨hp, hex, hfr⟩ := hp
      replace hF := xl_i hex hF
      obtain ⟨hu, p30⟩ := hp
      rw [hu] at hPS
      have I : Wo w g s.heap u11 H lo := ⟨hPS.1, hPS.2, I.2.2⟩
      exact rI E I hr hlk rfl (by rw [← hpost]; exact ⟨⟨I.2.2, trivial⟩, hF.trans hres, rzu11⟩) dX8_runs_108
    replace hF := if_f c24 hF
    refine lv_tableOut hx hb dX8_runs_23 (by omega) (tgt := 109) (by decide) ?_
    refine lv_aload_n hx hb dX8_runs_109 rfl (lv_at hl 0 rfl) ?_
    refine g_StarWalkModel_passedOver E I h_k0.1 mw_4_190 dX8_runs_110 ?_
    refine lv_topi (fun x31 ex31 => ?_)
    replace hF := xl_i (ex31) hF
    exact rI E I hr hlk rfl (by rw [← hpost]; exact ⟨⟨I.2.2, trivial⟩, hF.trans hres, rzu11⟩) dX8_runs_113
  ·
    replace hF := if_t c8 hF
    refine lv_iconst (v := (-1)) hx hb dX8_runs_12 (by decide) ?_
    exact rI E I hr hlk rfl (by rw [← hpost]; exact ⟨⟨I.2.2, trivial⟩, hF.trans hres, rz0⟩) dX8_runs_13
def F_X8_isBetter (k0 : Nat) (v : St) : Int32 × St :=
xl (fun (y72_2 : Int32) (z72_1 : Int32) =>
xl (up1 v k0 22 z72_1) fun v1 =>
if y72_2.toInt = 0 then (
xl (v1.1 k0 21) fun x3 =>
xl (up1 v1 k0 21 x3) fun v4 =>
(y72_2, v4)) else (
xl (v1.1 (k0 + 2) (31 : Int32).toNatClampNeg) fun x5 =>
xl (up1 v1 k0 21 x5) fun v6 =>
(y72_2, v6))) fun J_72 =>
xl (fun (z52_0 : Int32) =>
if z52_0.toInt = 0 then (
xl (v.1 k0 22) fun x8 =>
(J_72 z52_0 x8)) else (
xl (v.1 (k0 + 2) (30 : Int32).toNatClampNeg) fun x9 =>
(J_72 z52_0 x9))) fun J_52 =>
xl ((J_52 (0 : Int32))) fun J_51 =>
xl ((J_52 (1 : Int32))) fun J_47 =>
xl (v.1 (k0 + 2) (31 : Int32).toNatClampNeg) fun x10 =>
xl (F_X8_sizeOf x10 v) fun r11 =>
xl (v.1 k0 21) fun x14 =>
xl (F_X8_sizeOf x14 v) fun r15 =>
if r11.toInt < r15.toInt then (
(J_47 )) else (
xl (v.1 k0 21) fun x19 =>
xl (F_X8_sizeOf x19 v) fun r20 =>
if r11.toInt = r20.toInt then (
xl (v.1 (k0 + 2) (30 : Int32).toNatClampNeg) fun x24 =>
xl (v.1 k0 22) fun x25 =>
if x25.toInt < x24.toInt then (
(J_47 )) else (
(J_51 ))) else (
(J_51 )))
set_option maxHeartbeats 4000000 in
set_option maxRecDepth 100000 in
theorem c_X8_isBetter (l : Launch) (w : Wp) (g : Nat → Nat → Int32) (v : St) (k0 : Nat) (hq : Inj w) (hw : WF (wk w) g v) (h_k0 : oM w k0) : CTi w l yX8_isBetter (wsy yX8_isBetter prog_10_method_58_code 3 (some .boolean)) (rmL 2) [.ref (wq w k0)] v (fun (r : Int32) (u : St) => (WF (wk w) g u ∧ 0 ≤ r.toInt ∧ r.toInt ≤ 1) ∧ ((r, u) = F_X8_isBetter k0 v) ∧ (∀ k j : Nat, ¬ (k = k0 ∧ 21 ≤ j ∧ j ≤ 22) → u.1 k j = v.1 k j)) := by
  generalize hpost : (fun (r : Int32) (u : St) => (WF (wk w) g u ∧ 0 ≤ r.toInt ∧ r.toInt ≤ 1) ∧ ((r, u) = F_X8_isBetter k0 v) ∧ (∀ k j : Nat, ¬ (k = k0 ∧ 21 ≤ j ∧ j ≤ 22) → u.1 k j = v.1 k j)) = post
  refine CTi.of prog_10_method_58_code 3 (some .boolean) "StarWalkModel" (by decide +kernel) rfl hq hw (Nat.le_of_ble_eq_true rfl) ?_
  intro pg en s m ar bl me cd ls E I hr hlk hl
  have hx := E.1.1
  have hb := E.1.2.1
  have hl : lv_has ls 3 [(0, .ref (wq w k0))] := hl
  obtain ⟨res, hres⟩ : ∃ z, z = F_X8_isBetter k0 v := ⟨_, rfl⟩
  have hF := hres.symm
  unfold F_X8_isBetter at hF
  replace hres : res = F_X8_isBetter k0 v := hres
  have rz0 : ∀ k j : Nat, ¬ (k = k0 ∧ 21 ≤ j ∧ j ≤ 22) → v.1 k j = v.1 k j := fun _ _ _ => rfl
  obtain ⟨J_72, eJ_72, hF⟩ := xl_e hF
  have B_72 : ∀ (H : Heap) (lo : List Loc), Wo w g s.heap v H lo → ∀ (y72_2 : Int32) (z72_1 : Int32), (0 ≤ y72_2.toInt ∧ y72_2.toInt ≤ 1) → (∀ k j : Nat, ¬ (k = k0 ∧ 21 ≤ j ∧ j ≤ 22) → v.1 k j = v.1 k j) → (J_72 y72_2 z72_1 = res) → ∀ (ls : Array Slot), lv_has ls 3 [(0, .ref (wq w k0)), (2, .int y72_2)] → W pg l en (rmL 2) s m ar bl me cd H lo 0 0 (Zi w bl ar s post) (F0 m 72 ls [.int z72_1, .ref (wq w k0)]) := by
    intro H lo  I y72_2 z72_1 hy72_2 rB72_Z hF ls hl
    replace hF := ap2 eJ_72 hF
    refine p_StarWalkModel_bestMiles E I h_k0.1 mw_4_192 dX8_isBetter_72 (fun H lo I => ?_)
    generalize ev1 : up1 v k0 22 z72_1 = v1 at I
    replace hF := xl_i (ev1.symm) hF
    have rzv1 : ∀ k j : Nat, ¬ (k = k0 ∧ 21 ≤ j ∧ j ≤ 22) → v1.1 k j = v.1 k j := fun k j h => fz_u ev1 (by omega) (rB72_Z k j h)
    refine lv_aload_n hx hb dX8_isBetter_75 rfl (lv_at hl 0 rfl) ?_
    refine lv_iload_n hx hb dX8_isBetter_76 rfl (lv_at hl 1 rfl) ?_
    refine bz_eq E (a := y72_2.toInt) rfl (tgt := 90) dX8_isBetter_77 (by decide) (fun c2 => ?_) (fun c2 => ?_)
    ·
      replace hF := if_t c2 hF
      refine lv_aload_n hx hb dX8_isBetter_90 rfl (lv_at hl 0 rfl) ?_
      refine g_StarWalkModel_bestSide E I h_k0.1 mw_4_191 dX8_isBetter_91 ?_
      refine lv_topi (fun x3 ex3 => ?_)
      replace hF := xl_i (ex3) hF
      refine p_StarWalkModel_bestSide E I h_k0.1 mw_4_191 dX8_isBetter_94 (fun H lo I => ?_)
      generalize ev4 : up1 v1 k0 21 x3 = v4 at I
      replace hF := xl_i (ev4.symm) hF
      have rzv4 : ∀ k j : Nat, ¬ (k = k0 ∧ 21 ≤ j ∧ j ≤ 22) → v4.1 k j = v.1 k j := fun k j h => fz_u ev4 (by omega) (rzv1 k j h)
      refine lv_iload_n hx hb dX8_isBetter_97 rfl (lv_at hl 1 rfl) ?_
      exact rI E I hr hlk (nbI (by omega)) (by rw [← hpost]; exact ⟨⟨I.2.2, by omega⟩, hF.trans hres, rzv4⟩) dX8_isBetter_98
    ·
      replace hF := if_f c2 hF
      refine lv_aload_n hx hb dX8_isBetter_80 rfl (lv_at hl 0 rfl) ?_
      refine g_StarWalkModel_at E I h_k0.1 mw_4_171 dX8_isBetter_81 ?_
      refine lv_bipush (v := 31) hx hb dX8_isBetter_84 (by decide) ?_
      refine ga_31 E I h_k0.2.2.1 (by decide) dX8_isBetter_86 ?_
      refine lv_topi (fun x5 ex5 => ?_)
      replace hF := xl_i (ex5) hF
      refine lv_goto (tgt := 94) hx hb dX8_isBetter_87 (by decide) ?_
      refine p_StarWalkModel_bestSide E I h_k0.1 mw_4_191 dX8_isBetter_94 (fun H lo I => ?_)
      generalize ev6 : up1 v1 k0 21 x5 = v6 at I
      replace hF := xl_i (ev6.symm) hF
      have rzv6 : ∀ k j : Nat, ¬ (k = k0 ∧ 21 ≤ j ∧ j ≤ 22) → v6.1 k j = v.1 k j := fun k j h => fz_u ev6 (by omega) (rzv1 k j h)
      refine lv_iload_n hx hb dX8_isBetter_97 rfl (lv_at hl 1 rfl) ?_
      exact rI E I hr hlk (nbI (by omega)) (by rw [← hpost]; exact ⟨⟨I.2.2, by omega⟩, hF.trans hres, rzv6⟩) dX8_isBetter_98
  obtain ⟨J_52, eJ_52, hF⟩ := xl_e hF
  have B_52 : ∀ (H : Heap) (lo : List Loc), Wo w g s.heap v H lo → ∀ (z52_0 : Int32), (0 ≤ z52_0.toInt ∧ z52_0.toInt ≤ 1) → (∀ k j : Nat, ¬ (k = k0 ∧ 21 ≤ j ∧ j ≤ 22) → v.1 k j = v.1 k j) → (J_52 z52_0 = res) → ∀ (ls : Array Slot), lv_has ls 3 [(0, .ref (wq w k0))] → W pg l en (rmL 2) s m ar bl me cd H lo 0 0 (Zi w bl ar s post) (F0 m 52 ls [.int z52_0]) := by
    intro H lo  I z52_0 hz52_0 rB52_Z hF ls hl
    replace hF := ap1 eJ_52 hF
    refine lv_istore_n (lv' := [(2, .int z52_0), (0, .ref (wq w k0))]) hx hb dX8_isBetter_52 rfl hl (by decide) rfl (fun ls hl => ?_)
    refine lv_aload_n hx hb dX8_isBetter_53 rfl (lv_at hl 1 rfl) ?_
    refine lv_iload_n hx hb dX8_isBetter_54 rfl (lv_at hl 0 rfl) ?_
    refine bz_eq E (a := z52_0.toInt) rfl (tgt := 68) dX8_isBetter_55 (by decide) (fun c7 => ?_) (fun c7 => ?_)
    ·
      replace hF := if_t c7 hF
      refine lv_aload_n hx hb dX8_isBetter_68 rfl (lv_at hl 1 rfl) ?_
      refine g_StarWalkModel_bestMiles E I h_k0.1 mw_4_192 dX8_isBetter_69 ?_
      refine lv_topi (fun x8 ex8 => ?_)
      replace hF := xl_i (ex8) hF
      exact B_72 _ _ I z52_0 x8 (by omega) rB52_Z hF ls (lv_sub hl [1, 0] rfl)
    ·
      replace hF := if_f c7 hF
      refine lv_aload_n hx hb dX8_isBetter_58 rfl (lv_at hl 1 rfl) ?_
      refine g_StarWalkModel_at E I h_k0.1 mw_4_171 dX8_isBetter_59 ?_
      refine lv_bipush (v := 30) hx hb dX8_isBetter_62 (by decide) ?_
      refine ga_31 E I h_k0.2.2.1 (by decide) dX8_isBetter_64 ?_
      refine lv_topi (fun x9 ex9 => ?_)
      replace hF := xl_i (ex9) hF
      refine lv_goto (tgt := 72) hx hb dX8_isBetter_65 (by decide) ?_
      exact B_72 _ _ I z52_0 x9 (by omega) rB52_Z hF ls (lv_sub hl [1, 0] rfl)
  obtain ⟨J_51, eJ_51, hF⟩ := xl_e hF
  have B_51 : ∀ (H : Heap) (lo : List Loc), Wo w g s.heap v H lo → (∀ k j : Nat, ¬ (k = k0 ∧ 21 ≤ j ∧ j ≤ 22) → v.1 k j = v.1 k j) → (J_51  = res) → ∀ (ls : Array Slot), lv_has ls 3 [(0, .ref (wq w k0))] → W pg l en (rmL 2) s m ar bl me cd H lo 0 0 (Zi w bl ar s post) (F0 m 51 ls []) := by
    intro H lo  I  rB51_Z hF ls hl
    replace hF := ap0 eJ_51 hF
    refine lv_iconst (v := 0) hx hb dX8_isBetter_51 (by decide) ?_
    exact B_52 _ _ I (0 : Int32) (by decide) rB51_Z hF ls (lv_sub hl [0] rfl)
  obtain ⟨J_47, eJ_47, hF⟩ := xl_e hF
  have B_47 : ∀ (H : Heap) (lo : List Loc), Wo w g s.heap v H lo → (∀ k j : Nat, ¬ (k = k0 ∧ 21 ≤ j ∧ j ≤ 22) → v.1 k j = v.1 k j) → (J_47  = res) → ∀ (ls : Array Slot), lv_has ls 3 [(0, .ref (wq w k0))] → W pg l en (rmL 2) s m ar bl me cd H lo 0 0 (Zi w bl ar s post) (F0 m 47 ls []) := by
    intro H lo  I  rB47_Z hF ls hl
    replace hF := ap0 eJ_47 hF
    refine lv_iconst (v := 1) hx hb dX8_isBetter_47 (by decide) ?_
    refine lv_goto (tgt := 52) hx hb dX8_isBetter_48 (by decide) ?_
    exact B_52 _ _ I (1 : Int32) (by decide) rB47_Z hF ls (lv_sub hl [0] rfl)
  refine lv_aload_n hx hb dX8_isBetter_0 rfl (lv_at hl 0 rfl) ?_
  refine g_StarWalkModel_at E I h_k0.1 mw_4_171 dX8_isBetter_1 ?_
  refine lv_bipush (v := 31) hx hb dX8_isBetter_4 (by decide) ?_
  refine ga_31 E I h_k0.2.2.1 (by decide) dX8_isBetter_6 ?_
  refine lv_topi (fun x10 ex10 => ?_)
  replace hF := xl_i (ex10) hF
  refine cSi E I (c_X8_sizeOf l w g v x10 E.2.2.1 I.2.2   ) (va_cwS 1 E.1.2.2.2.2 (gSs mw_5_116 mw_5_117 mw_1_9 mw_5_118) rfl rfl rfl (by decide +kernel) ⟨by decide, by decide⟩) rfl hl.1 rfl (Nat.le_of_ble_eq_true rfl) dX8_isBetter_7 ⟨Nat.le_refl _, Nat.le_refl _⟩ (fun r11 u12 H lo hp hPS => ?_)
  obtain ⟨hp, hex, hfr⟩ := hp
  replace hF := xl_i hex hF
  obtain ⟨hu, p13⟩ := hp
  rw [hu] at hPS
  have I : Wo w g s.heap v H lo := ⟨hPS.1, hPS.2, I.2.2⟩
  refine lv_istore_n (lv' := [(1, .int r11), (0, .ref (wq w k0))]) hx hb dX8_isBetter_10 rfl hl (by decide) rfl (fun ls hl => ?_)
  refine lv_iload_n hx hb dX8_isBetter_11 rfl (lv_at hl 0 rfl) ?_
  refine lv_aload_n hx hb dX8_isBetter_12 rfl (lv_at hl 1 rfl) ?_
  refine g_StarWalkModel_bestSide E I h_k0.1 mw_4_191 dX8_isBetter_13 ?_
  refine lv_topi (fun x14 ex14 => ?_)
  replace hF := xl_i (ex14) hF
  refine cSi E I (c_X8_sizeOf l w g v x14 E.2.2.1 I.2.2   ) (va_cwS 1 E.1.2.2.2.2 (gSs mw_5_116 mw_5_117 mw_1_9 mw_5_118) rfl rfl rfl (by decide +kernel) ⟨by decide, by decide⟩) rfl hl.1 rfl (Nat.le_of_ble_eq_true rfl) dX8_isBetter_16 ⟨Nat.le_refl _, Nat.le_refl _⟩ (fun r15 u16 H lo hp hPS => ?_)
  obtain ⟨hp, hex, hfr⟩ := hp
  replace hF := xl_i hex hF
  obtain ⟨hu, p17⟩ := hp
  rw [hu] at hPS
  have I : Wo w g s.heap v H lo := ⟨hPS.1, hPS.2, I.2.2⟩
  refine bi_lt E (a := r11.toInt) (b := r15.toInt) rfl rfl (tgt := 47) dX8_isBetter_19 (by decide) (fun c18 => ?_) (fun c18 => ?_)
  ·
    have rgr11 := i32_rng r11
    have rgr15 := i32_rng r15
    replace hF := if_t c18 hF
    exact B_47 _ _ I  rz0 hF ls (lv_sub hl [1] rfl)
  ·
    have rgr11 := i32_rng r11
    have rgr15 := i32_rng r15
    replace hF := if_l c18 hF
    refine lv_iload_n hx hb dX8_isBetter_22 rfl (lv_at hl 0 rfl) ?_
    refine lv_aload_n hx hb dX8_isBetter_23 rfl (lv_at hl 1 rfl) ?_
    refine g_StarWalkModel_bestSide E I h_k0.1 mw_4_191 dX8_isBetter_24 ?_
    refine lv_topi (fun x19 ex19 => ?_)
    replace hF := xl_i (ex19) hF
    refine cSi E I (c_X8_sizeOf l w g v x19 E.2.2.1 I.2.2   ) (va_cwS 1 E.1.2.2.2.2 (gSs mw_5_116 mw_5_117 mw_1_9 mw_5_118) rfl rfl rfl (by decide +kernel) ⟨by decide, by decide⟩) rfl hl.1 rfl (Nat.le_of_ble_eq_true rfl) dX8_isBetter_27 ⟨Nat.le_refl _, Nat.le_refl _⟩ (fun r20 u21 H lo hp hPS => ?_)
    obtain ⟨hp, hex, hfr⟩ := hp
    replace hF := xl_i hex hF
    obtain ⟨hu, p22⟩ := hp
    rw [hu] at hPS
    have I : Wo w g s.heap v H lo := ⟨hPS.1, hPS.2, I.2.2⟩
    refine bi_ne E (a := r11.toInt) (b := r20.toInt) rfl rfl (tgt := 51) dX8_isBetter_30 (by decide) (fun c23 => ?_) (fun c23 => ?_)
    ·
      replace hF := if_f c23 hF
      exact B_51 _ _ I  rz0 hF ls (lv_sub hl [1] rfl)
    ·
      replace hF := if_t c23 hF
      refine lv_aload_n hx hb dX8_isBetter_33 rfl (lv_at hl 1 rfl) ?_
      refine g_StarWalkModel_at E I h_k0.1 mw_4_171 dX8_isBetter_34 ?_
      refine lv_bipush (v := 30) hx hb dX8_isBetter_37 (by decide) ?_
      refine ga_31 E I h_k0.2.2.1 (by decide) dX8_isBetter_39 ?_
      refine lv_topi (fun x24 ex24 => ?_)
      replace hF := xl_i (ex24) hF
      refine lv_aload_n hx hb dX8_isBetter_40 rfl (lv_at hl 1 rfl) ?_
      refine g_StarWalkModel_bestMiles E I h_k0.1 mw_4_192 dX8_isBetter_41 ?_
      refine lv_topi (fun x25 ex25 => ?_)
      replace hF := xl_i (ex25) hF
      refine bi_le E (a := x24.toInt) (b := x25.toInt) rfl rfl (tgt := 51) dX8_isBetter_44 (by decide) (fun c26 => ?_) (fun c26 => ?_)
      ·
        have rgx24 := i32_rng x24
        have rgx25 := i32_rng x25
        replace hF := if_l c26 hF
        exact B_51 _ _ I  rz0 hF ls (lv_sub hl [1] rfl)
      ·
        have rgx24 := i32_rng x24
        have rgx25 := i32_rng x25
        replace hF := if_t c26 hF
        exact B_47 _ _ I  rz0 hF ls (lv_sub hl [1] rfl)
def F_X8_next (k0 : Nat) (v : St) : Int32 × St :=
xl (fun (self_30 : Int32 → Int32 → St → Int32 × St) (y30_1 : Int32) (y30_2 : Int32) (v_30 : St) =>
xl (fun (y66_1 : Int32) (v_66 : St) =>
xl (y30_2 + 1) fun x1 =>
(self_30 y66_1 x1 v_66)) fun J_66 =>
xl (fun (z65_0 : Int32) (v_65 : St) =>
(J_66 z65_0 v_65)) fun J_65 =>
if 5 < y30_2.toInt then (
(y30_1, v_30)) else (
xl (F_X8_isAim k0 y30_2 v_30) fun r3 =>
if r3.toInt = 0 then (
(J_66 y30_1 v_30)) else (
xl (F_X8_starts k0 v_30) fun u7 =>
xm (F_X8_steps k0 y30_2 u7) fun r9 u10 =>
xm (F_X8_isBetter k0 u10) fun r12 u13 =>
if r12.toInt = 0 then (
(J_65 y30_1 u13)) else (
(J_65 y30_2 u13))))) fun P_30 =>
xl (F_X8_starts k0 v) fun u16 =>
xl (F_X8_canWalk k0 u16) fun r18 =>
if r18.toInt = 0 then (
((-2 : Int32), u16)) else (
xl (up1 u16 k0 21 (1000000 : Int32)) fun v22 =>
xl (up1 v22 k0 22 (0 : Int32)) fun v23 =>
(lp P_30 (fun _ _ _ => ((0 : Int32), v)) ((2147483647 - (0 : Int32).toInt).toNat + 1) (-4 : Int32) (0 : Int32) v23))
set_option maxHeartbeats 4000000 in
set_option maxRecDepth 100000 in
theorem c_X8_next (l : Launch) (w : Wp) (g : Nat → Nat → Int32) (v : St) (k0 : Nat) (hq : Inj w) (hw : WF (wk w) g v) (h_k0 : oM w k0) : CTi w l yX8_next (wsy yX8_next prog_10_method_59_code 3 (some .int)) (rmL 5) [.ref (wq w k0)] v (fun (r : Int32) (u : St) => (WF (wk w) g u ∧ True) ∧ ((r, u) = F_X8_next k0 v) ∧ (∀ k j : Nat, ¬ (k = k0 + 2 ∨ (k = k0 ∧ 19 ≤ j ∧ j ≤ 22)) → u.1 k j = v.1 k j)) := by
  generalize hpost : (fun (r : Int32) (u : St) => (WF (wk w) g u ∧ True) ∧ ((r, u) = F_X8_next k0 v) ∧ (∀ k j : Nat, ¬ (k = k0 + 2 ∨ (k = k0 ∧ 19 ≤ j ∧ j ≤ 22)) → u.1 k j = v.1 k j)) = post
  refine CTi.of prog_10_method_59_code 3 (some .int) "StarWalkModel" (by decide +kernel) rfl hq hw (Nat.le_of_ble_eq_true rfl) ?_
  intro pg en s m ar bl me cd ls E I hr hlk hl
  have hx := E.1.1
  have hb := E.1.2.1
  have hl : lv_has ls 3 [(0, .ref (wq w k0))] := hl
  obtain ⟨res, hres⟩ : ∃ z, z = F_X8_next k0 v := ⟨_, rfl⟩
  have hF := hres.symm
  unfold F_X8_next at hF
  replace hres : res = F_X8_next k0 v := hres
  have rz0 : ∀ k j : Nat, ¬ (k = k0 + 2 ∨ (k = k0 ∧ 19 ≤ j ∧ j ≤ 22)) → v.1 k j = v.1 k j := fun _ _ _ => rfl
  obtain ⟨P_30, eP_30, hF⟩ := xl_e hF
  have L_30 : ∀ (n : Nat), ∀ (H : Heap) (lo : List Loc) (v_30 : St), Wo w g s.heap v_30 H lo → ∀ (y30_1 : Int32) (y30_2 : Int32), (-4 ≤ y30_1.toInt ∧ y30_1.toInt ≤ 5) → (0 ≤ y30_2.toInt ∧ y30_2.toInt ≤ 6) → (∀ k j : Nat, ¬ (k = k0 + 2 ∨ (k = k0 ∧ 19 ≤ j ∧ j ≤ 22)) → v_30.1 k j = v.1 k j) → (lp P_30 (fun _ _ _ => ((0 : Int32), v)) n y30_1 y30_2 v_30 = res) → (2147483647 - y30_2.toInt).toNat < n → ∀ (ls : Array Slot), lv_has ls 3 [(0, .ref (wq w k0)), (1, .int y30_1), (2, .int y30_2)] → W pg l en (rmL 5) s m ar bl me cd H lo 0 0 (Zi w bl ar s post) (F0 m 30 ls []) := by
    intro n
    induction n with
    | zero => intro H lo v_30 I y30_1 y30_2 hy30_1 hy30_2 rB30_Z hF hm; exact absurd hm (Nat.not_lt_zero _)
    | succ n ih_30 =>
      intro H lo v_30 I y30_1 y30_2 hy30_1 hy30_2 rB30_Z hF hm ls hl
      replace hF := lpa3 eP_30 hF
      obtain ⟨J_66, eJ_66, hF⟩ := xl_e hF
      have B_66 : ∀ (H : Heap) (lo : List Loc) (v_66 : St), Wo w g s.heap v_66 H lo → ∀ (y66_1 : Int32), (-4 ≤ y66_1.toInt ∧ y66_1.toInt ≤ 5) → (0 ≤ y30_2.toInt ∧ y30_2.toInt ≤ 5) → (∀ k j : Nat, ¬ (k = k0 + 2 ∨ (k = k0 ∧ 19 ≤ j ∧ j ≤ 22)) → v_66.1 k j = v.1 k j) → (J_66 y66_1 v_66 = res) → ∀ (ls : Array Slot), lv_has ls 3 [(0, .ref (wq w k0)), (1, .int y66_1), (2, .int y30_2)] → W pg l en (rmL 5) s m ar bl me cd H lo 0 0 (Zi w bl ar s post) (F0 m 66 ls []) := by
        intro H lo v_66 I y66_1 hy66_1 hE66_0 rB66_Z hF ls hl
        replace hF := ap2 eJ_66 hF
        obtain ⟨x1, ex1⟩ : ∃ z : Int32, z = y30_2 + 1 := ⟨_, rfl⟩
        replace hF := xl_i (ex1) hF
        have hx1 : x1.toInt = y30_2.toInt + (1) := by rw [ex1]; exact adI (a := y30_2.toInt) (b := 1) rfl rfl (by omega) (by omega)
        refine lv_iinc (v := x1) (lv' := [(2, .int x1), (0, .ref (wq w k0)), (1, .int y66_1)]) hx hb dX8_next_66 hl (k := 2) rfl (by rw [ex1]; rfl) (by decide) rfl (fun ls hl => ?_)
        refine lv_goto (tgt := 30) hx hb dX8_next_69 (by decide) ?_
        exact ih_30 _ _ v_66 I y66_1 x1 (by omega) (by omega) rB66_Z hF (by omega) ls (lv_sub hl [1, 2, 0] rfl)
      obtain ⟨J_65, eJ_65, hF⟩ := xl_e hF
      have B_65 : ∀ (H : Heap) (lo : List Loc) (v_65 : St), Wo w g s.heap v_65 H lo → ∀ (z65_0 : Int32), (-4 ≤ z65_0.toInt ∧ z65_0.toInt ≤ 5) → (0 ≤ y30_2.toInt ∧ y30_2.toInt ≤ 5) → (∀ k j : Nat, ¬ (k = k0 + 2 ∨ (k = k0 ∧ 19 ≤ j ∧ j ≤ 22)) → v_65.1 k j = v.1 k j) → (J_65 z65_0 v_65 = res) → ∀ (ls : Array Slot), lv_has ls 3 [(0, .ref (wq w k0)), (2, .int y30_2)] → W pg l en (rmL 5) s m ar bl me cd H lo 0 0 (Zi w bl ar s post) (F0 m 65 ls [.int z65_0]) := by
        intro H lo v_65 I z65_0 hz65_0 hE65_0 rB65_Z hF ls hl
        replace hF := ap2 eJ_65 hF
        refine lv_istore_n (lv' := [(1, .int z65_0), (0, .ref (wq w k0)), (2, .int y30_2)]) hx hb dX8_next_65 rfl hl (by decide) rfl (fun ls hl => ?_)
        exact B_66 _ _ v_65 I z65_0 (by omega) (by omega) rB65_Z hF ls (lv_sub hl [1, 0, 2] rfl)
      refine lv_iload_n hx hb dX8_next_30 rfl (lv_at hl 2 rfl) ?_
      refine lv_iconst (v := 5) hx hb dX8_next_31 (by decide) ?_
      refine bi_gt E (a := y30_2.toInt) (b := 5) rfl rfl (tgt := 72) dX8_next_32 (by decide) (fun c2 => ?_) (fun c2 => ?_)
      ·
        replace hF := if_t c2 hF
        refine lv_iload_n hx hb dX8_next_72 rfl (lv_at hl 1 rfl) ?_
        exact rI E I hr hlk rfl (by rw [← hpost]; exact ⟨⟨I.2.2, trivial⟩, hF.trans hres, rB30_Z⟩) dX8_next_73
      ·
        replace hF := if_l c2 hF
        refine lv_aload_n hx hb dX8_next_35 rfl (lv_at hl 0 rfl) ?_
        refine lv_iload_n hx hb dX8_next_36 rfl (lv_at hl 2 rfl) ?_
        refine cVi E I (c_X8_isAim l w g v_30 k0 y30_2 E.2.2.1 I.2.2 h_k0  ) (cwV 1 E.1.2.2.2.2 (gWs (C := "StarWalkModel") mw_5_183 mw_5_185 mw_s_48 mw_1_9 mw_5_186) rfl rfl rfl (by decide +kernel) ⟨by decide, by decide⟩) h_k0.1.1 ((ce_o h_k0.1.2).trans rfl) rfl rfl hl.1 rfl (Nat.le_of_ble_eq_true rfl) dX8_next_37 ⟨Nat.le_refl _, Nat.le_refl _⟩ (fun r3 u4 H lo hp hPS => ?_)
        obtain ⟨hp, hex, hfr⟩ := hp
        replace hF := xl_i hex hF
        obtain ⟨hu, p5⟩ := hp
        rw [hu] at hPS
        have I : Wo w g s.heap v_30 H lo := ⟨hPS.1, hPS.2, I.2.2⟩
        refine bz_eq E (a := r3.toInt) rfl (tgt := 66) dX8_next_40 (by decide) (fun c6 => ?_) (fun c6 => ?_)
        ·
          replace hF := if_t c6 hF
          exact B_66 _ _ v_30 I y30_1 (by omega) (by omega) rB30_Z hF ls (lv_sub hl [0, 1, 2] rfl)
        ·
          replace hF := if_f c6 hF
          refine lv_aload_n hx hb dX8_next_43 rfl (lv_at hl 0 rfl) ?_
          refine cVv E I (c_X8_starts l w g v_30 k0 E.2.2.1 I.2.2 h_k0  ) (cwV 0 E.1.2.2.2.2 (gWs (C := "StarWalkModel") mw_5_108 mw_5_110 mw_s_42 mw_1_9 mw_5_111) rfl rfl rfl (by decide +kernel) ⟨by decide, by decide⟩) h_k0.1.1 ((ce_o h_k0.1.2).trans rfl) rfl rfl hl.1 rfl (Nat.le_of_ble_eq_true rfl) dX8_next_44 ⟨Nat.le_refl _, Nat.le_refl _⟩ (fun u7 H lo hp hPS => ?_)
          obtain ⟨hp, hex, hfr⟩ := hp
          replace hF := xl_i hex hF
          obtain ⟨hwf, p8⟩ := hp
          have I : Wo w g s.heap u7 H lo := ⟨hPS.1, hPS.2, hwf⟩
          have rzu7 : ∀ k j : Nat, ¬ (k = k0 + 2 ∨ (k = k0 ∧ 19 ≤ j ∧ j ≤ 22)) → u7.1 k j = v.1 k j := fun k j h => (hfr k j (fun z => h (by omega))).trans (rB30_Z k j h)
          refine lv_aload_n hx hb dX8_next_47 rfl (lv_at hl 0 rfl) ?_
          refine lv_iload_n hx hb dX8_next_48 rfl (lv_at hl 2 rfl) ?_
          refine cVi E I (c_X8_steps l w g u7 k0 y30_2 E.2.2.1 I.2.2 h_k0 (by omega) ) (cwV 1 E.1.2.2.2.2 (gWs (C := "StarWalkModel") mw_5_215 mw_5_217 mw_s_51 mw_1_9 mw_5_218) rfl rfl rfl (by decide +kernel) ⟨by decide, by decide⟩) h_k0.1.1 ((ce_o h_k0.1.2).trans rfl) rfl rfl hl.1 rfl (Nat.le_of_ble_eq_true rfl) dX8_next_49 ⟨Nat.le_refl _, Nat.le_refl _⟩ (fun r9 u10 H lo hp hPS => ?_)
          obtain ⟨hp, hex, hfr⟩ := hp
          replace hF := xm_i hex hF
          obtain ⟨hwf, p11⟩ := hp
          have I : Wo w g s.heap u10 H lo := ⟨hPS.1, hPS.2, hwf⟩
          have rzu10 : ∀ k j : Nat, ¬ (k = k0 + 2 ∨ (k = k0 ∧ 19 ≤ j ∧ j ≤ 22)) → u10.1 k j = v.1 k j := fun k j h => (hfr k j (fun z => h (by rcases z with z | z <;> omega))).trans (rzu7 k j h)
          refine lv_pop hx hb dX8_next_52 rfl ?_
          refine lv_aload_n hx hb dX8_next_53 rfl (lv_at hl 0 rfl) ?_
          refine cVi E I (c_X8_isBetter l w g u10 k0 E.2.2.1 I.2.2 h_k0  ) (cwV 0 E.1.2.2.2.2 (gWs (C := "StarWalkModel") mw_6_4 mw_6_6 mw_s_56 mw_1_9 mw_6_7) rfl rfl rfl (by decide +kernel) ⟨by decide, by decide⟩) h_k0.1.1 ((ce_o h_k0.1.2).trans rfl) rfl rfl hl.1 rfl (Nat.le_of_ble_eq_true rfl) dX8_next_54 ⟨Nat.le_refl _, Nat.le_refl _⟩ (fun r12 u13 H lo hp hPS => ?_)
          obtain ⟨hp, hex, hfr⟩ := hp
          replace hF := xm_i hex hF
          obtain ⟨hwf, p14⟩ := hp
          have I : Wo w g s.heap u13 H lo := ⟨hPS.1, hPS.2, hwf⟩
          have rzu13 : ∀ k j : Nat, ¬ (k = k0 + 2 ∨ (k = k0 ∧ 19 ≤ j ∧ j ≤ 22)) → u13.1 k j = v.1 k j := fun k j h => (hfr k j (fun z => h (by omega))).trans (rzu10 k j h)
          refine bz_eq E (a := r12.toInt) rfl (tgt := 64) dX8_next_57 (by decide) (fun c15 => ?_) (fun c15 => ?_)
          ·
            replace hF := if_t c15 hF
            refine lv_iload_n hx hb dX8_next_64 rfl (lv_at hl 1 rfl) ?_
            exact B_65 _ _ u13 I y30_1 (by omega) (by omega) rzu13 hF ls (lv_sub hl [0, 2] rfl)
          ·
            replace hF := if_f c15 hF
            refine lv_iload_n hx hb dX8_next_60 rfl (lv_at hl 2 rfl) ?_
            refine lv_goto (tgt := 65) hx hb dX8_next_61 (by decide) ?_
            exact B_65 _ _ u13 I y30_2 (by omega) (by omega) rzu13 hF ls (lv_sub hl [0, 2] rfl)
  refine lv_aload_n hx hb dX8_next_0 rfl (lv_at hl 0 rfl) ?_
  refine cVv E I (c_X8_starts l w g v k0 E.2.2.1 I.2.2 h_k0  ) (cwV 0 E.1.2.2.2.2 (gWs (C := "StarWalkModel") mw_5_108 mw_5_110 mw_s_42 mw_1_9 mw_5_111) rfl rfl rfl (by decide +kernel) ⟨by decide, by decide⟩) h_k0.1.1 ((ce_o h_k0.1.2).trans rfl) rfl rfl hl.1 rfl (Nat.le_of_ble_eq_true rfl) dX8_next_1 ⟨Nat.le_refl _, Nat.le_refl _⟩ (fun u16 H lo hp hPS => ?_)
  obtain ⟨hp, hex, hfr⟩ := hp
  replace hF := xl_i hex hF
  obtain ⟨hwf, p17⟩ := hp
  have I : Wo w g s.heap u16 H lo := ⟨hPS.1, hPS.2, hwf⟩
  have rzu16 : ∀ k j : Nat, ¬ (k = k0 + 2 ∨ (k = k0 ∧ 19 ≤ j ∧ j ≤ 22)) → u16.1 k j = v.1 k j := fun k j h => (hfr k j (fun z => h (by omega))).trans (rz0 k j h)
  refine lv_aload_n hx hb dX8_next_4 rfl (lv_at hl 0 rfl) ?_
  refine cVi E I (c_X8_canWalk l w g u16 k0 E.2.2.1 I.2.2 h_k0  ) (cwV 0 E.1.2.2.2.2 (gWs (C := "StarWalkModel") mw_5_219 mw_5_221 mw_s_52 mw_1_9 mw_5_222) rfl rfl rfl (by decide +kernel) ⟨by decide, by decide⟩) h_k0.1.1 ((ce_o h_k0.1.2).trans rfl) rfl rfl hl.1 rfl (Nat.le_of_ble_eq_true rfl) dX8_next_5 ⟨Nat.le_refl _, Nat.le_refl _⟩ (fun r18 u19 H lo hp hPS => ?_)
  obtain ⟨hp, hex, hfr⟩ := hp
  replace hF := xl_i hex hF
  obtain ⟨hu, p20⟩ := hp
  rw [hu] at hPS
  have I : Wo w g s.heap u16 H lo := ⟨hPS.1, hPS.2, I.2.2⟩
  refine bz_ne E (a := r18.toInt) rfl (tgt := 14) dX8_next_8 (by decide) (fun c21 => ?_) (fun c21 => ?_)
  ·
    replace hF := if_f c21 hF
    refine lv_bipush (v := (-4)) hx hb dX8_next_14 (by decide) ?_
    refine lv_istore_n (lv' := [(1, .int (-4)), (0, .ref (wq w k0))]) hx hb dX8_next_16 rfl hl (by decide) rfl (fun ls hl => ?_)
    refine lv_aload_n hx hb dX8_next_17 rfl (lv_at hl 1 rfl) ?_
    refine lv_ldc (own := "StarWalkModel") hx hb E.1.2.2.2.1 (Ew E mw_6_3 rfl) dX8_next_18 ?_
    refine p_StarWalkModel_bestSide E I h_k0.1 mw_4_191 dX8_next_20 (fun H lo I => ?_)
    generalize ev22 : up1 u16 k0 21 (1000000 : Int32) = v22 at I
    replace hF := xl_i (ev22.symm) hF
    have rzv22 : ∀ k j : Nat, ¬ (k = k0 + 2 ∨ (k = k0 ∧ 19 ≤ j ∧ j ≤ 22)) → v22.1 k j = v.1 k j := fun k j h => fz_u ev22 (by omega) (rzu16 k j h)
    refine lv_aload_n hx hb dX8_next_23 rfl (lv_at hl 1 rfl) ?_
    refine lv_iconst (v := 0) hx hb dX8_next_24 (by decide) ?_
    refine p_StarWalkModel_bestMiles E I h_k0.1 mw_4_192 dX8_next_25 (fun H lo I => ?_)
    generalize ev23 : up1 v22 k0 22 (0 : Int32) = v23 at I
    replace hF := xl_i (ev23.symm) hF
    have rzv23 : ∀ k j : Nat, ¬ (k = k0 + 2 ∨ (k = k0 ∧ 19 ≤ j ∧ j ≤ 22)) → v23.1 k j = v.1 k j := fun k j h => fz_u ev23 (by omega) (rzv22 k j h)
    refine lv_iconst (v := 0) hx hb dX8_next_28 (by decide) ?_
    refine lv_istore_n (lv' := [(2, .int 0), (1, .int (-4)), (0, .ref (wq w k0))]) hx hb dX8_next_29 rfl hl (by decide) rfl (fun ls hl => ?_)
    exact L_30 ((2147483647 - (0 : Int32).toInt).toNat + 1) _ _ v23 I (-4 : Int32) (0 : Int32) (by decide) (by decide) rzv23 hF (Nat.lt_succ_self _) ls (lv_sub hl [2, 1, 0] rfl)
  ·
    replace hF := if_t c21 hF
    refine lv_bipush (v := (-2)) hx hb dX8_next_11 (by decide) ?_
    exact rI E I hr hlk rfl (by rw [← hpost]; exact ⟨⟨I.2.2, trivial⟩, hF.trans hres, rzu16⟩) dX8_next_13
def F_X8_power (a1 : Int32) (v : St) : Int32 :=
xl (fun (self_4 : Int32 → Int32 → Int32) (y4_2 : Int32) (y4_3 : Int32) =>
if y4_3.toInt < a1.toInt then (
xl (y4_2 * (7 : Int32)) fun x2 =>
xl (y4_3 + 1) fun x3 =>
(self_4 x2 x3)) else (
y4_2)) fun P_4 =>
(lp P_4 (fun _ _ => (0 : Int32)) ((2147483647 - (0 : Int32).toInt).toNat + 1) (1 : Int32) (0 : Int32))
set_option maxHeartbeats 4000000 in
set_option maxRecDepth 100000 in
theorem c_X8_power (l : Launch) (w : Wp) (g : Nat → Nat → Int32) (v : St) (a1 : Int32) (hq : Inj w) (hw : WF (wk w) g v) (h_a1 : -5 ≤ a1.toInt ∧ a1.toInt ≤ 4) : CTi w l yX8_power (wsy yX8_power prog_10_method_60_code 4 (some .int)) (rmL 1) [.int 7, .int a1] v (fun (r : Int32) (u : St) => (u = v ∧ 1 ≤ r.toInt ∧ r.toInt ≤ 2401) ∧ (r = F_X8_power a1 v) ∧ True) := by
  generalize hpost : (fun (r : Int32) (u : St) => (u = v ∧ 1 ≤ r.toInt ∧ r.toInt ≤ 2401) ∧ (r = F_X8_power a1 v) ∧ True) = post
  refine CTi.of prog_10_method_60_code 4 (some .int) "StarWalkModel" (by decide +kernel) rfl hq hw (Nat.le_of_ble_eq_true rfl) ?_
  intro pg en s m ar bl me cd ls E I hr hlk hl
  have hx := E.1.1
  have hb := E.1.2.1
  have hl : lv_has ls 4 [(0, .int 7), (1, .int a1)] := hl
  obtain ⟨res, hres⟩ : ∃ z, z = F_X8_power a1 v := ⟨_, rfl⟩
  have hF := hres.symm
  unfold F_X8_power at hF
  replace hres : res = F_X8_power a1 v := hres
  obtain ⟨P_4, eP_4, hF⟩ := xl_e hF
  have L_4 : ∀ (n : Nat), ∀ (H : Heap) (lo : List Loc), Wo w g s.heap v H lo → ∀ (y4_2 : Int32) (y4_3 : Int32), (1 ≤ y4_2.toInt ∧ y4_2.toInt ≤ 2401) → (0 ≤ y4_3.toInt ∧ y4_3.toInt ≤ 4) → (-5 ≤ a1.toInt ∧ a1.toInt ≤ 4) → ((y4_3.toInt = 0 ∧ y4_2.toInt = 1) ∨ (y4_3.toInt = 1 ∧ y4_2.toInt = 7) ∨ (y4_3.toInt = 2 ∧ y4_2.toInt = 49) ∨ (y4_3.toInt = 3 ∧ y4_2.toInt = 343) ∨ (y4_3.toInt = 4 ∧ y4_2.toInt = 2401)) → (lp P_4 (fun _ _ => (0 : Int32)) n y4_2 y4_3 = res) → (2147483647 - y4_3.toInt).toNat < n → ∀ (ls : Array Slot), lv_has ls 4 [(0, .int 7), (1, .int a1), (2, .int y4_2), (3, .int y4_3)] → W pg l en (rmL 1) s m ar bl me cd H lo 0 0 (Zi w bl ar s post) (F0 m 4 ls []) := by
    intro n
    induction n with
    | zero => intro H lo  I y4_2 y4_3 hy4_2 hy4_3 hE4_0 iv4_0 hF hm; exact absurd hm (Nat.not_lt_zero _)
    | succ n ih_4 =>
      intro H lo  I y4_2 y4_3 hy4_2 hy4_3 hE4_0 iv4_0 hF hm ls hl
      replace hF := lpa2 eP_4 hF
      refine lv_iload_n hx hb dX8_power_4 rfl (lv_at hl 3 rfl) ?_
      refine lv_iload_n hx hb dX8_power_5 rfl (lv_at hl 1 rfl) ?_
      refine bi_ge E (a := y4_3.toInt) (b := a1.toInt) rfl rfl (tgt := 19) dX8_power_6 (by decide) (fun c1 => ?_) (fun c1 => ?_)
      ·
        replace hF := if_l c1 hF
        refine lv_iload_n hx hb dX8_power_19 rfl (lv_at hl 2 rfl) ?_
        exact rI E I hr hlk rfl (by rw [← hpost]; exact ⟨⟨rfl, by omega⟩, hF.trans hres, trivial⟩) dX8_power_20
      ·
        replace hF := if_t c1 hF
        refine lv_iload_n hx hb dX8_power_9 rfl (lv_at hl 2 rfl) ?_
        refine lv_iload_n hx hb dX8_power_10 rfl (lv_at hl 0 rfl) ?_
        refine lv_imul hx hb dX8_power_11 ?_
        refine lv_topi (fun x2 ex2 => ?_)
        replace hF := xl_i (ex2) hF
        have hx2 : x2.toInt = y4_2.toInt * 7 := by rw [ex2]; exact mlI (a := y4_2.toInt) (b := 7) rfl rfl (by omega) (by omega)
        refine lv_istore_n (lv' := [(2, .int x2), (0, .int 7), (1, .int a1), (3, .int y4_3)]) hx hb dX8_power_12 rfl hl (by decide) rfl (fun ls hl => ?_)
        obtain ⟨x3, ex3⟩ : ∃ z : Int32, z = y4_3 + 1 := ⟨_, rfl⟩
        replace hF := xl_i (ex3) hF
        have hx3 : x3.toInt = y4_3.toInt + (1) := by rw [ex3]; exact adI (a := y4_3.toInt) (b := 1) rfl rfl (by omega) (by omega)
        refine lv_iinc (v := x3) (lv' := [(3, .int x3), (2, .int x2), (0, .int 7), (1, .int a1)]) hx hb dX8_power_13 hl (k := 3) rfl (by rw [ex3]; rfl) (by decide) rfl (fun ls hl => ?_)
        refine lv_goto (tgt := 4) hx hb dX8_power_16 (by decide) ?_
        exact ih_4 _ _ I x2 x3 (by omega) (by omega) (by omega) (by omega) hF (by omega) ls (lv_sub hl [2, 3, 1, 0] rfl)
  refine lv_iconst (v := 1) hx hb dX8_power_0 (by decide) ?_
  refine lv_istore_n (lv' := [(2, .int 1), (0, .int 7), (1, .int a1)]) hx hb dX8_power_1 rfl hl (by decide) rfl (fun ls hl => ?_)
  refine lv_iconst (v := 0) hx hb dX8_power_2 (by decide) ?_
  refine lv_istore_n (lv' := [(3, .int 0), (2, .int 1), (0, .int 7), (1, .int a1)]) hx hb dX8_power_3 rfl hl (by decide) rfl (fun ls hl => ?_)
  exact L_4 ((2147483647 - (0 : Int32).toInt).toNat + 1) _ _ I (1 : Int32) (0 : Int32) (by decide) (by decide) (by omega) (by decide) hF (Nat.lt_succ_self _) ls (lv_sub hl [2, 3, 1, 0] rfl)
def F_X8_aimIn (a0 : Int32) (a1 : Int32) (a2 : Int32) (v : St) : Int32 :=
xl (a1 - (1 : Int32)) fun x1 =>
xl (x1 - a2) fun x2 =>
xl (F_X8_power x2 v) fun r3 =>
xl (a0 / r3) fun x6 =>
xl (x6 - x6 / (7 : Int32) * (7 : Int32)) fun x7 =>
x7
set_option maxHeartbeats 4000000 in
set_option maxRecDepth 100000 in
theorem c_X8_aimIn (l : Launch) (w : Wp) (g : Nat → Nat → Int32) (v : St) (a0 : Int32) (a1 : Int32) (a2 : Int32) (hq : Inj w) (hw : WF (wk w) g v) (h_a0 : 0 ≤ a0.toInt) (h_a1 : 0 ≤ a1.toInt ∧ a1.toInt ≤ 4) (h_a2 : 0 ≤ a2.toInt ∧ a2.toInt ≤ 4) : CTi w l yX8_aimIn (wsy yX8_aimIn prog_10_method_61_code 3 (some .int)) (rmL 2) [.int a0, .int a1, .int a2] v (fun (r : Int32) (u : St) => (u = v ∧ 0 ≤ r.toInt ∧ r.toInt ≤ 6) ∧ (r = F_X8_aimIn a0 a1 a2 v) ∧ True) := by
  generalize hpost : (fun (r : Int32) (u : St) => (u = v ∧ 0 ≤ r.toInt ∧ r.toInt ≤ 6) ∧ (r = F_X8_aimIn a0 a1 a2 v) ∧ True) = post
  refine CTi.of prog_10_method_61_code 3 (some .int) "StarWalkModel" (by decide +kernel) rfl hq hw (Nat.le_of_ble_eq_true rfl) ?_
  intro pg en s m ar bl me cd ls E I hr hlk hl
  have hx := E.1.1
  have hb := E.1.2.1
  have hl : lv_has ls 3 [(0, .int a0), (1, .int a1), (2, .int a2)] := hl
  obtain ⟨res, hres⟩ : ∃ z, z = F_X8_aimIn a0 a1 a2 v := ⟨_, rfl⟩
  have hF := hres.symm
  unfold F_X8_aimIn at hF
  replace hres : res = F_X8_aimIn a0 a1 a2 v := hres
  refine lv_iload_n hx hb dX8_aimIn_0 rfl (lv_at hl 0 rfl) ?_
  refine lv_bipush (v := 7) hx hb dX8_aimIn_1 (by decide) ?_
  refine lv_iload_n hx hb dX8_aimIn_3 rfl (lv_at hl 1 rfl) ?_
  refine lv_iconst (v := 1) hx hb dX8_aimIn_4 (by decide) ?_
  refine lv_isub hx hb dX8_aimIn_5 ?_
  refine lv_topi (fun x1 ex1 => ?_)
  replace hF := xl_i (ex1) hF
  have hx1 : x1.toInt = a1.toInt - 1 := by rw [ex1]; exact sbI (a := a1.toInt) (b := 1) rfl rfl (by omega) (by omega)
  refine lv_iload_n hx hb dX8_aimIn_6 rfl (lv_at hl 2 rfl) ?_
  refine lv_isub hx hb dX8_aimIn_7 ?_
  refine lv_topi (fun x2 ex2 => ?_)
  replace hF := xl_i (ex2) hF
  have hx2 : x2.toInt = x1.toInt - a2.toInt := by rw [ex2]; exact sbI (a := x1.toInt) (b := a2.toInt) rfl rfl (by omega) (by omega)
  refine cSi E I (c_X8_power l w g v x2 E.2.2.1 I.2.2  (by omega) ) (va_cwS 2 E.1.2.2.2.2 (gSs mw_6_16 mw_6_17 mw_1_9 mw_6_18) rfl rfl rfl (by decide +kernel) ⟨by decide, by decide⟩) rfl hl.1 rfl (Nat.le_of_ble_eq_true rfl) dX8_aimIn_8 ⟨Nat.le_refl _, Nat.le_refl _⟩ (fun r3 u4 H lo hp hPS => ?_)
  obtain ⟨hp, hex, hfr⟩ := hp
  replace hF := xl_i hex hF
  obtain ⟨hu, p5⟩ := hp
  rw [hu] at hPS
  have I : Wo w g s.heap v H lo := ⟨hPS.1, hPS.2, I.2.2⟩
  refine lv_idiv hx hb dX8_aimIn_11 (nz_of rfl (by omega)) ?_
  refine lv_topi (fun x6 ex6 => ?_)
  replace hF := xl_i (ex6) hF
  have hx6 := dvI (x := a0) (y := r3) (a := a0.toInt) (b := r3.toInt) rfl rfl (by omega) (by omega)
  rw [← ex6] at hx6
  refine lv_bipush (v := 7) hx hb dX8_aimIn_12 (by decide) ?_
  refine lv_irem hx hb dX8_aimIn_14 (by decide) ?_
  refine lv_topi (fun x7 ex7 => ?_)
  replace hF := xl_i (ex7) hF
  have hx7 := rmI (x := x6) (y := (7 : Int32)) (a := x6.toInt) (b := 7) rfl rfl (by omega) (by omega)
  rw [← ex7] at hx7
  exact rI E I hr hlk rfl (by rw [← hpost]; exact ⟨⟨rfl, by omega⟩, hF.trans hres, trivial⟩) dX8_aimIn_15
def F_X8_isRow (k0 : Nat) (a0 : Int32) (a1 : Int32) (v : St) : Int32 :=
xl (fun (self_5 : Int32 → Int32 → Int32) (y5_3 : Int32) (y5_4 : Int32) =>
xl (fun (z34_0 : Int32) =>
xl (y5_4 + 1) fun x1 =>
(self_5 z34_0 x1)) fun J_34 =>
xl ((J_34 (0 : Int32))) fun J_33 =>
if y5_4.toInt < a1.toInt then (
if y5_3.toInt = 0 then (
(J_33 )) else (
xl (F_X8_aimIn a0 a1 y5_4 v) fun r4 =>
xl (F_X8_isAim k0 r4 v) fun r7 =>
if r7.toInt = 0 then (
(J_33 )) else (
(J_34 (1 : Int32))))) else (
y5_3)) fun P_5 =>
(lp P_5 (fun _ _ => (0 : Int32)) ((2147483647 - (0 : Int32).toInt).toNat + 1) (1 : Int32) (0 : Int32))
set_option maxHeartbeats 4000000 in
set_option maxRecDepth 100000 in
theorem c_X8_isRow (l : Launch) (w : Wp) (g : Nat → Nat → Int32) (v : St) (k0 : Nat) (a0 : Int32) (a1 : Int32) (hq : Inj w) (hw : WF (wk w) g v) (h_k0 : oM w k0) (h_a0 : 0 ≤ a0.toInt) (h_a1 : 0 ≤ a1.toInt ∧ a1.toInt ≤ 4) : CTi w l yX8_isRow (wsy yX8_isRow prog_10_method_62_code 5 (some .boolean)) (rmL 4) [.ref (wq w k0), .int a0, .int a1] v (fun (r : Int32) (u : St) => (u = v ∧ 0 ≤ r.toInt ∧ r.toInt ≤ 1) ∧ (r = F_X8_isRow k0 a0 a1 v) ∧ True) := by
  generalize hpost : (fun (r : Int32) (u : St) => (u = v ∧ 0 ≤ r.toInt ∧ r.toInt ≤ 1) ∧ (r = F_X8_isRow k0 a0 a1 v) ∧ True) = post
  refine CTi.of prog_10_method_62_code 5 (some .boolean) "StarWalkModel" (by decide +kernel) rfl hq hw (Nat.le_of_ble_eq_true rfl) ?_
  intro pg en s m ar bl me cd ls E I hr hlk hl
  have hx := E.1.1
  have hb := E.1.2.1
  have hl : lv_has ls 5 [(0, .ref (wq w k0)), (1, .int a0), (2, .int a1)] := hl
  obtain ⟨res, hres⟩ : ∃ z, z = F_X8_isRow k0 a0 a1 v := ⟨_, rfl⟩
  have hF := hres.symm
  unfold F_X8_isRow at hF
  replace hres : res = F_X8_isRow k0 a0 a1 v := hres
  obtain ⟨P_5, eP_5, hF⟩ := xl_e hF
  have L_5 : ∀ (n : Nat), ∀ (H : Heap) (lo : List Loc), Wo w g s.heap v H lo → ∀ (y5_3 : Int32) (y5_4 : Int32), (0 ≤ y5_3.toInt ∧ y5_3.toInt ≤ 1) → (0 ≤ y5_4.toInt ∧ y5_4.toInt ≤ 4) → (0 ≤ a0.toInt) → (0 ≤ a1.toInt ∧ a1.toInt ≤ 4) → (lp P_5 (fun _ _ => (0 : Int32)) n y5_3 y5_4 = res) → (2147483647 - y5_4.toInt).toNat < n → ∀ (ls : Array Slot), lv_has ls 5 [(0, .ref (wq w k0)), (1, .int a0), (2, .int a1), (3, .int y5_3), (4, .int y5_4)] → W pg l en (rmL 4) s m ar bl me cd H lo 0 0 (Zi w bl ar s post) (F0 m 5 ls []) := by
    intro n
    induction n with
    | zero => intro H lo  I y5_3 y5_4 hy5_3 hy5_4 hE5_0 hE5_1 hF hm; exact absurd hm (Nat.not_lt_zero _)
    | succ n ih_5 =>
      intro H lo  I y5_3 y5_4 hy5_3 hy5_4 hE5_0 hE5_1 hF hm ls hl
      replace hF := lpa2 eP_5 hF
      obtain ⟨J_34, eJ_34, hF⟩ := xl_e hF
      have B_34 : ∀ (H : Heap) (lo : List Loc), Wo w g s.heap v H lo → ∀ (z34_0 : Int32), (0 ≤ z34_0.toInt ∧ z34_0.toInt ≤ 1) → (0 ≤ a0.toInt) → (1 ≤ a1.toInt ∧ a1.toInt ≤ 4) → (0 ≤ y5_4.toInt ∧ y5_4.toInt ≤ 3) → (J_34 z34_0 = res) → ∀ (ls : Array Slot), lv_has ls 5 [(0, .ref (wq w k0)), (1, .int a0), (2, .int a1), (4, .int y5_4)] → W pg l en (rmL 4) s m ar bl me cd H lo 0 0 (Zi w bl ar s post) (F0 m 34 ls [.int z34_0]) := by
        intro H lo  I z34_0 hz34_0 hE34_0 hE34_1 hE34_2 hF ls hl
        replace hF := ap1 eJ_34 hF
        refine lv_istore_n (lv' := [(3, .int z34_0), (0, .ref (wq w k0)), (1, .int a0), (2, .int a1), (4, .int y5_4)]) hx hb dX8_isRow_34 rfl hl (by decide) rfl (fun ls hl => ?_)
        obtain ⟨x1, ex1⟩ : ∃ z : Int32, z = y5_4 + 1 := ⟨_, rfl⟩
        replace hF := xl_i (ex1) hF
        have hx1 : x1.toInt = y5_4.toInt + (1) := by rw [ex1]; exact adI (a := y5_4.toInt) (b := 1) rfl rfl (by omega) (by omega)
        refine lv_iinc (v := x1) (lv' := [(4, .int x1), (3, .int z34_0), (0, .ref (wq w k0)), (1, .int a0), (2, .int a1)]) hx hb dX8_isRow_35 hl (k := 4) rfl (by rw [ex1]; rfl) (by decide) rfl (fun ls hl => ?_)
        refine lv_goto (tgt := 5) hx hb dX8_isRow_38 (by decide) ?_
        exact ih_5 _ _ I z34_0 x1 (by omega) (by omega) (by omega) (by omega) hF (by omega) ls (lv_sub hl [2, 3, 4, 1, 0] rfl)
      obtain ⟨J_33, eJ_33, hF⟩ := xl_e hF
      have B_33 : ∀ (H : Heap) (lo : List Loc), Wo w g s.heap v H lo → (0 ≤ a0.toInt) → (1 ≤ a1.toInt ∧ a1.toInt ≤ 4) → (0 ≤ y5_4.toInt ∧ y5_4.toInt ≤ 3) → (J_33  = res) → ∀ (ls : Array Slot), lv_has ls 5 [(0, .ref (wq w k0)), (1, .int a0), (2, .int a1), (4, .int y5_4)] → W pg l en (rmL 4) s m ar bl me cd H lo 0 0 (Zi w bl ar s post) (F0 m 33 ls []) := by
        intro H lo  I  hE33_0 hE33_1 hE33_2 hF ls hl
        replace hF := ap0 eJ_33 hF
        refine lv_iconst (v := 0) hx hb dX8_isRow_33 (by decide) ?_
        exact B_34 _ _ I (0 : Int32) (by decide) (by omega) (by omega) (by omega) hF ls (lv_sub hl [0, 1, 2, 3] rfl)
      refine lv_iload hx hb dX8_isRow_5 (lv_at hl 4 rfl) ?_
      refine lv_iload_n hx hb dX8_isRow_7 rfl (lv_at hl 2 rfl) ?_
      refine bi_ge E (a := y5_4.toInt) (b := a1.toInt) rfl rfl (tgt := 41) dX8_isRow_8 (by decide) (fun c2 => ?_) (fun c2 => ?_)
      ·
        replace hF := if_l c2 hF
        refine lv_iload_n hx hb dX8_isRow_41 rfl (lv_at hl 3 rfl) ?_
        exact rI E I hr hlk (nbI (by omega)) (by rw [← hpost]; exact ⟨⟨rfl, by omega⟩, hF.trans hres, trivial⟩) dX8_isRow_42
      ·
        replace hF := if_t c2 hF
        refine lv_iload_n hx hb dX8_isRow_11 rfl (lv_at hl 3 rfl) ?_
        refine bz_eq E (a := y5_3.toInt) rfl (tgt := 33) dX8_isRow_12 (by decide) (fun c3 => ?_) (fun c3 => ?_)
        ·
          replace hF := if_t c3 hF
          exact B_33 _ _ I  (by omega) (by omega) (by omega) hF ls (lv_sub hl [0, 1, 2, 4] rfl)
        ·
          replace hF := if_f c3 hF
          refine lv_aload_n hx hb dX8_isRow_15 rfl (lv_at hl 0 rfl) ?_
          refine lv_iload_n hx hb dX8_isRow_16 rfl (lv_at hl 1 rfl) ?_
          refine lv_iload_n hx hb dX8_isRow_17 rfl (lv_at hl 2 rfl) ?_
          refine lv_iload hx hb dX8_isRow_18 (lv_at hl 4 rfl) ?_
          refine cSi E I (c_X8_aimIn l w g v a0 a1 y5_4 E.2.2.1 I.2.2  (by omega) (by omega) (by omega) ) (va_cwS 3 E.1.2.2.2.2 (gSs mw_6_23 mw_6_24 mw_1_9 mw_6_25) rfl rfl rfl (by decide +kernel) ⟨by decide, by decide⟩) rfl hl.1 rfl (Nat.le_of_ble_eq_true rfl) dX8_isRow_20 ⟨Nat.le_refl _, Nat.le_refl _⟩ (fun r4 u5 H lo hp hPS => ?_)
          obtain ⟨hp, hex, hfr⟩ := hp
          replace hF := xl_i hex hF
          obtain ⟨hu, p6⟩ := hp
          rw [hu] at hPS
          have I : Wo w g s.heap v H lo := ⟨hPS.1, hPS.2, I.2.2⟩
          refine cVi E I (c_X8_isAim l w g v k0 r4 E.2.2.1 I.2.2 h_k0  ) (cwV 1 E.1.2.2.2.2 (gWs (C := "StarWalkModel") mw_5_183 mw_5_185 mw_s_48 mw_1_9 mw_5_186) rfl rfl rfl (by decide +kernel) ⟨by decide, by decide⟩) h_k0.1.1 ((ce_o h_k0.1.2).trans rfl) rfl rfl hl.1 rfl (Nat.le_of_ble_eq_true rfl) dX8_isRow_23 ⟨Nat.le_refl _, Nat.le_refl _⟩ (fun r7 u8 H lo hp hPS => ?_)
          obtain ⟨hp, hex, hfr⟩ := hp
          replace hF := xl_i hex hF
          obtain ⟨hu, p9⟩ := hp
          rw [hu] at hPS
          have I : Wo w g s.heap v H lo := ⟨hPS.1, hPS.2, I.2.2⟩
          refine bz_eq E (a := r7.toInt) rfl (tgt := 33) dX8_isRow_26 (by decide) (fun c10 => ?_) (fun c10 => ?_)
          ·
            replace hF := if_t c10 hF
            exact B_33 _ _ I  (by omega) (by omega) (by omega) hF ls (lv_sub hl [0, 1, 2, 4] rfl)
          ·
            replace hF := if_f c10 hF
            refine lv_iconst (v := 1) hx hb dX8_isRow_29 (by decide) ?_
            refine lv_goto (tgt := 34) hx hb dX8_isRow_30 (by decide) ?_
            exact B_34 _ _ I (1 : Int32) (by decide) (by omega) (by omega) (by omega) hF ls (lv_sub hl [0, 1, 2, 4] rfl)
  refine lv_iconst (v := 1) hx hb dX8_isRow_0 (by decide) ?_
  refine lv_istore_n (lv' := [(3, .int 1), (0, .ref (wq w k0)), (1, .int a0), (2, .int a1)]) hx hb dX8_isRow_1 rfl hl (by decide) rfl (fun ls hl => ?_)
  refine lv_iconst (v := 0) hx hb dX8_isRow_2 (by decide) ?_
  refine lv_istore (lv' := [(4, .int 0), (3, .int 1), (0, .ref (wq w k0)), (1, .int a0), (2, .int a1)]) hx hb dX8_isRow_3 hl (by decide) rfl (fun ls hl => ?_)
  exact L_5 ((2147483647 - (0 : Int32).toInt).toNat + 1) _ _ I (1 : Int32) (0 : Int32) (by decide) (by decide) (by omega) (by omega) hF (Nat.lt_succ_self _) ls (lv_sub hl [2, 3, 4, 1, 0] rfl)
set_option maxHeartbeats 4000000 in
set_option maxRecDepth 100000 in
theorem c_X8_best (l : Launch) (w : Wp) (g : Nat → Nat → Int32) (v : St) (k0 : Nat) (a0 : Int32) (a1 : Int32) (hq : Inj w) (hw : WF (wk w) g v) (h_k0 : oM w k0) : CTi w l yX8_best (wsy yX8_best prog_10_method_63_code 6 (some .int)) (rmL 5) [.ref (wq w k0), .int a0, .int a1] v (fun (r : Int32) (u : St) => (WF (wk w) g u ∧ True) ∧ (True) ∧ (∀ k j : Nat, ¬ (k = k0 + 2 ∨ (k = k0 ∧ 19 ≤ j ∧ j ≤ 22)) → u.1 k j = v.1 k j)) := by
  generalize hpost : (fun (r : Int32) (u : St) => (WF (wk w) g u ∧ True) ∧ (True) ∧ (∀ k j : Nat, ¬ (k = k0 + 2 ∨ (k = k0 ∧ 19 ≤ j ∧ j ≤ 22)) → u.1 k j = v.1 k j)) = post
  refine CTi.of prog_10_method_63_code 6 (some .int) "StarWalkModel" (by decide +kernel) rfl hq hw (Nat.le_of_ble_eq_true rfl) ?_
  intro pg en s m ar bl me cd ls E I hr hlk hl
  have hx := E.1.1
  have hb := E.1.2.1
  have hl : lv_has ls 6 [(0, .ref (wq w k0)), (1, .int a0), (2, .int a1)] := hl
  have rz0 : ∀ k j : Nat, ¬ (k = k0 + 2 ∨ (k = k0 ∧ 19 ≤ j ∧ j ≤ 22)) → v.1 k j = v.1 k j := fun _ _ _ => rfl
  have L_52 : ∀ (n : Nat), ∀ (H : Heap) (lo : List Loc) (v_52 : St), Wo w g s.heap v_52 H lo → ∀ (y52_3 : Int32) (y52_4 : Int32), (0 ≤ y52_3.toInt ∧ y52_3.toInt ≤ 2147483646) → (0 ≤ y52_4.toInt) → (0 ≤ a0.toInt ∧ a0.toInt ≤ 4) → (0 ≤ a1.toInt ∧ a1.toInt ≤ 13) → (∀ k j : Nat, ¬ (k = k0 + 2 ∨ (k = k0 ∧ 19 ≤ j ∧ j ≤ 22)) → v_52.1 k j = v.1 k j) → ((0 ≤ a1.toInt ∧ a1.toInt ≤ 1) ∨ (10 ≤ a1.toInt ∧ a1.toInt ≤ 13)) → (2147483647 - y52_4.toInt).toNat < n → ∀ (ls : Array Slot), lv_has ls 6 [(0, .ref (wq w k0)), (1, .int a0), (2, .int a1), (3, .int y52_3), (4, .int y52_4)] → W pg l en (rmL 5) s m ar bl me cd H lo 0 0 (Zi w bl ar s post) (F0 m 52 ls []) := by
    intro n
    induction n with
    | zero => intro H lo v_52 I y52_3 y52_4 hy52_3 hy52_4 hE52_0 hE52_1 rB52_Z hC52_5 hm; exact absurd hm (Nat.not_lt_zero _)
    | succ n ih_52 =>
      intro H lo v_52 I y52_3 y52_4 hy52_3 hy52_4 hE52_0 hE52_1 rB52_Z hC52_5 hm ls hl
      have B_119 : ∀ (H : Heap) (lo : List Loc) (v_119 : St), Wo w g s.heap v_119 H lo → ∀ (y119_3 : Int32), (0 ≤ y119_3.toInt ∧ y119_3.toInt ≤ 2147483646) → (0 ≤ a0.toInt ∧ a0.toInt ≤ 4) → (0 ≤ a1.toInt ∧ a1.toInt ≤ 13) → (0 ≤ y52_4.toInt ∧ y52_4.toInt ≤ 2147483646) → (∀ k j : Nat, ¬ (k = k0 + 2 ∨ (k = k0 ∧ 19 ≤ j ∧ j ≤ 22)) → v_119.1 k j = v.1 k j) → ((0 ≤ a1.toInt ∧ a1.toInt ≤ 1) ∨ (10 ≤ a1.toInt ∧ a1.toInt ≤ 13)) → ∀ (ls : Array Slot), lv_has ls 6 [(0, .ref (wq w k0)), (1, .int a0), (2, .int a1), (3, .int y119_3), (4, .int y52_4)] → W pg l en (rmL 5) s m ar bl me cd H lo 0 0 (Zi w bl ar s post) (F0 m 119 ls []) := by
        intro H lo v_119 I y119_3 hy119_3 hE119_0 hE119_1 hE119_2 rB119_Z hC119_5 ls hl
        obtain ⟨x1, ex1⟩ : ∃ z : Int32, z = y52_4 + 1 := ⟨_, rfl⟩
        have hx1 : x1.toInt = y52_4.toInt + (1) := by rw [ex1]; exact adI (a := y52_4.toInt) (b := 1) rfl rfl (by omega) (by omega)
        refine lv_iinc (v := x1) (lv' := [(4, .int x1), (0, .ref (wq w k0)), (1, .int a0), (2, .int a1), (3, .int y119_3)]) hx hb dX8_best_119 hl (k := 4) rfl (by rw [ex1]; rfl) (by decide) rfl (fun ls hl => ?_)
        refine lv_goto (tgt := 52) hx hb dX8_best_122 (by decide) ?_
        exact ih_52 _ _ v_119 I y119_3 x1 (by omega) (by omega) (by omega) (by omega) rB119_Z (by omega) (by omega) ls (lv_sub hl [1, 2, 3, 4, 0] rfl)
      have B_118 : ∀ (H : Heap) (lo : List Loc) (v_118 : St), Wo w g s.heap v_118 H lo → ∀ (z118_0 : Int32), (0 ≤ z118_0.toInt ∧ z118_0.toInt ≤ 2147483646) → (0 ≤ a0.toInt ∧ a0.toInt ≤ 4) → (0 ≤ a1.toInt ∧ a1.toInt ≤ 13) → (0 ≤ y52_4.toInt ∧ y52_4.toInt ≤ 2147483646) → (∀ k j : Nat, ¬ (k = k0 + 2 ∨ (k = k0 ∧ 19 ≤ j ∧ j ≤ 22)) → v_118.1 k j = v.1 k j) → ((0 ≤ a1.toInt ∧ a1.toInt ≤ 1) ∨ (10 ≤ a1.toInt ∧ a1.toInt ≤ 13)) → ∀ (ls : Array Slot), lv_has ls 6 [(0, .ref (wq w k0)), (1, .int a0), (2, .int a1), (4, .int y52_4)] → W pg l en (rmL 5) s m ar bl me cd H lo 0 0 (Zi w bl ar s post) (F0 m 118 ls [.int z118_0]) := by
        intro H lo v_118 I z118_0 hz118_0 hE118_0 hE118_1 hE118_2 rB118_Z hC118_5 ls hl
        refine lv_istore_n (lv' := [(3, .int z118_0), (0, .ref (wq w k0)), (1, .int a0), (2, .int a1), (4, .int y52_4)]) hx hb dX8_best_118 rfl hl (by decide) rfl (fun ls hl => ?_)
        exact B_119 _ _ v_118 I z118_0 (by omega) (by omega) (by omega) (by omega) rB118_Z (by omega) ls (lv_sub hl [1, 2, 3, 0, 4] rfl)
      have L_80 : ∀ (n : Nat), ∀ (H : Heap) (lo : List Loc) (v_80 : St), Wo w g s.heap v_80 H lo → ∀ (y80_5 : Int32), (0 ≤ y80_5.toInt ∧ y80_5.toInt ≤ 4) → (0 ≤ a0.toInt ∧ a0.toInt ≤ 4) → (0 ≤ a1.toInt ∧ a1.toInt ≤ 13) → (0 ≤ y52_3.toInt ∧ y52_3.toInt ≤ 2147483646) → (0 ≤ y52_4.toInt ∧ y52_4.toInt ≤ 2147483646) → (∀ k j : Nat, ¬ (k = k0 + 2 ∨ (k = k0 ∧ 19 ≤ j ∧ j ≤ 22)) → v_80.1 k j = v.1 k j) → ((0 ≤ a1.toInt ∧ a1.toInt ≤ 1) ∨ (10 ≤ a1.toInt ∧ a1.toInt ≤ 13)) → (2147483647 - y80_5.toInt).toNat < n → ∀ (ls : Array Slot), lv_has ls 6 [(0, .ref (wq w k0)), (1, .int a0), (2, .int a1), (3, .int y52_3), (4, .int y52_4), (5, .int y80_5)] → W pg l en (rmL 5) s m ar bl me cd H lo 0 0 (Zi w bl ar s post) (F0 m 80 ls []) := by
        intro n
        induction n with
        | zero => intro H lo v_80 I y80_5 hy80_5 hE80_0 hE80_1 hE80_2 hE80_3 rB80_Z hC80_6 hm; exact absurd hm (Nat.not_lt_zero _)
        | succ n ih_80 =>
          intro H lo v_80 I y80_5 hy80_5 hE80_0 hE80_1 hE80_2 hE80_3 rB80_Z hC80_6 hm ls hl
          refine lv_iload hx hb dX8_best_80 (lv_at hl 5 rfl) ?_
          refine lv_iload_n hx hb dX8_best_82 rfl (lv_at hl 1 rfl) ?_
          refine bi_ge E (a := y80_5.toInt) (b := a0.toInt) rfl rfl (tgt := 105) dX8_best_83 (by decide) (fun c2 => ?_) (fun c2 => ?_)
          ·
            refine lv_aload_n hx hb dX8_best_105 rfl (lv_at hl 0 rfl) ?_
            refine cVi E I (c_X8_isBetter l w g v_80 k0 E.2.2.1 I.2.2 h_k0  ) (cwV 0 E.1.2.2.2.2 (gWs (C := "StarWalkModel") mw_6_4 mw_6_6 mw_s_56 mw_1_9 mw_6_7) rfl rfl rfl (by decide +kernel) ⟨by decide, by decide⟩) h_k0.1.1 ((ce_o h_k0.1.2).trans rfl) rfl rfl hl.1 rfl (Nat.le_of_ble_eq_true rfl) dX8_best_106 ⟨Nat.le_refl _, Nat.le_refl _⟩ (fun r3 u4 H lo hp hPS => ?_)
            obtain ⟨hp, hex, hfr⟩ := hp
            obtain ⟨hwf, p5⟩ := hp
            have I : Wo w g s.heap u4 H lo := ⟨hPS.1, hPS.2, hwf⟩
            have rzu4 : ∀ k j : Nat, ¬ (k = k0 + 2 ∨ (k = k0 ∧ 19 ≤ j ∧ j ≤ 22)) → u4.1 k j = v.1 k j := fun k j h => (hfr k j (fun z => h (by omega))).trans (rB80_Z k j h)
            refine bz_eq E (a := r3.toInt) rfl (tgt := 117) dX8_best_109 (by decide) (fun c6 => ?_) (fun c6 => ?_)
            ·
              refine lv_iload_n hx hb dX8_best_117 rfl (lv_at hl 3 rfl) ?_
              exact B_118 _ _ u4 I y52_3 (by omega) (by omega) (by omega) (by omega) rzu4 (by omega) ls (lv_sub hl [0, 1, 2, 4] rfl)
            ·
              refine lv_iload hx hb dX8_best_112 (lv_at hl 4 rfl) ?_
              refine lv_goto (tgt := 118) hx hb dX8_best_114 (by decide) ?_
              exact B_118 _ _ u4 I y52_4 (by omega) (by omega) (by omega) (by omega) rzu4 (by omega) ls (lv_sub hl [0, 1, 2, 4] rfl)
          ·
            refine lv_aload_n hx hb dX8_best_86 rfl (lv_at hl 0 rfl) ?_
            refine lv_iload hx hb dX8_best_87 (lv_at hl 4 rfl) ?_
            refine lv_iload_n hx hb dX8_best_89 rfl (lv_at hl 1 rfl) ?_
            refine lv_iload hx hb dX8_best_90 (lv_at hl 5 rfl) ?_
            refine cSi E I (c_X8_aimIn l w g v_80 y52_4 a0 y80_5 E.2.2.1 I.2.2  (by omega) (by omega) (by omega) ) (va_cwS 3 E.1.2.2.2.2 (gSs mw_6_23 mw_6_24 mw_1_9 mw_6_25) rfl rfl rfl (by decide +kernel) ⟨by decide, by decide⟩) rfl hl.1 rfl (Nat.le_of_ble_eq_true rfl) dX8_best_92 ⟨Nat.le_refl _, Nat.le_refl _⟩ (fun r7 u8 H lo hp hPS => ?_)
            obtain ⟨hp, hex, hfr⟩ := hp
            obtain ⟨hu, p9⟩ := hp
            rw [hu] at hPS
            have I : Wo w g s.heap v_80 H lo := ⟨hPS.1, hPS.2, I.2.2⟩
            refine cVi E I (c_X8_steps l w g v_80 k0 r7 E.2.2.1 I.2.2 h_k0 (by omega) ) (cwV 1 E.1.2.2.2.2 (gWs (C := "StarWalkModel") mw_5_215 mw_5_217 mw_s_51 mw_1_9 mw_5_218) rfl rfl rfl (by decide +kernel) ⟨by decide, by decide⟩) h_k0.1.1 ((ce_o h_k0.1.2).trans rfl) rfl rfl hl.1 rfl (Nat.le_of_ble_eq_true rfl) dX8_best_95 ⟨Nat.le_refl _, Nat.le_refl _⟩ (fun r10 u11 H lo hp hPS => ?_)
            obtain ⟨hp, hex, hfr⟩ := hp
            obtain ⟨hwf, p12⟩ := hp
            have I : Wo w g s.heap u11 H lo := ⟨hPS.1, hPS.2, hwf⟩
            have rzu11 : ∀ k j : Nat, ¬ (k = k0 + 2 ∨ (k = k0 ∧ 19 ≤ j ∧ j ≤ 22)) → u11.1 k j = v.1 k j := fun k j h => (hfr k j (fun z => h (by rcases z with z | z <;> omega))).trans (rB80_Z k j h)
            refine lv_pop hx hb dX8_best_98 rfl ?_
            obtain ⟨x13, ex13⟩ : ∃ z : Int32, z = y80_5 + 1 := ⟨_, rfl⟩
            have hx13 : x13.toInt = y80_5.toInt + (1) := by rw [ex13]; exact adI (a := y80_5.toInt) (b := 1) rfl rfl (by omega) (by omega)
            refine lv_iinc (v := x13) (lv' := [(5, .int x13), (0, .ref (wq w k0)), (1, .int a0), (2, .int a1), (3, .int y52_3), (4, .int y52_4)]) hx hb dX8_best_99 hl (k := 5) rfl (by rw [ex13]; rfl) (by decide) rfl (fun ls hl => ?_)
            refine lv_goto (tgt := 80) hx hb dX8_best_102 (by decide) ?_
            exact ih_80 _ _ u11 I x13 (by omega) (by omega) (by omega) (by omega) (by omega) rzu11 (by omega) (by omega) ls (lv_sub hl [1, 2, 3, 4, 5, 0] rfl)
      refine lv_iload hx hb dX8_best_52 (lv_at hl 4 rfl) ?_
      refine lv_bipush (v := 7) hx hb dX8_best_54 (by decide) ?_
      refine lv_iload_n hx hb dX8_best_56 rfl (lv_at hl 1 rfl) ?_
      refine cSi E I (c_X8_power l w g v_52 a0 E.2.2.1 I.2.2  (by omega) ) (va_cwS 2 E.1.2.2.2.2 (gSs mw_6_16 mw_6_17 mw_1_9 mw_6_18) rfl rfl rfl (by decide +kernel) ⟨by decide, by decide⟩) rfl hl.1 rfl (Nat.le_of_ble_eq_true rfl) dX8_best_57 ⟨Nat.le_refl _, Nat.le_refl _⟩ (fun r14 u15 H lo hp hPS => ?_)
      obtain ⟨hp, hex, hfr⟩ := hp
      obtain ⟨hu, p16⟩ := hp
      rw [hu] at hPS
      have I : Wo w g s.heap v_52 H lo := ⟨hPS.1, hPS.2, I.2.2⟩
      refine bi_ge E (a := y52_4.toInt) (b := r14.toInt) rfl rfl (tgt := 125) dX8_best_60 (by decide) (fun c17 => ?_) (fun c17 => ?_)
      ·
        have rgy52_4 := i32_rng y52_4
        refine lv_iload_n hx hb dX8_best_125 rfl (lv_at hl 2 rfl) ?_
        refine cSi E I (c_X8_isPart l w g v_52 a1 E.2.2.1 I.2.2   ) (va_cwS 1 E.1.2.2.2.2 (gSs mw_6_13 mw_6_14 mw_1_9 mw_6_15) rfl rfl rfl (by decide +kernel) ⟨by decide, by decide⟩) rfl hl.1 rfl (Nat.le_of_ble_eq_true rfl) dX8_best_126 ⟨Nat.le_refl _, Nat.le_refl _⟩ (fun r18 u19 H lo hp hPS => ?_)
        obtain ⟨hp, hex, hfr⟩ := hp
        obtain ⟨hu, p20⟩ := hp
        rw [hu] at hPS
        have I : Wo w g s.heap v_52 H lo := ⟨hPS.1, hPS.2, I.2.2⟩
        refine bz_eq E (a := r18.toInt) rfl (tgt := 152) dX8_best_129 (by decide) (fun c21 => ?_) (fun c21 => ?_)
        ·
          refine lv_iload_n hx hb dX8_best_152 rfl (lv_at hl 2 rfl) ?_
          refine lv_bipush (v := 10) hx hb dX8_best_153 (by decide) ?_
          refine lv_isub hx hb dX8_best_155 ?_
          refine lv_topi (fun x22 ex22 => ?_)
          have hx22 : x22.toInt = a1.toInt - 10 := by rw [ex22]; exact sbI (a := a1.toInt) (b := 10) rfl rfl (by omega) (by omega)
          refine lv_iload_n hx hb dX8_best_156 rfl (lv_at hl 1 rfl) ?_
          refine bi_ge E (a := x22.toInt) (b := a0.toInt) rfl rfl (tgt := 172) dX8_best_157 (by decide) (fun c23 => ?_) (fun c23 => ?_)
          ·
            refine lv_bipush (v := (-4)) hx hb dX8_best_172 (by decide) ?_
            exact rI E I hr hlk rfl (by rw [← hpost]; exact ⟨⟨I.2.2, trivial⟩, trivial, rB52_Z⟩) dX8_best_174
          ·
            refine lv_iload_n hx hb dX8_best_160 rfl (lv_at hl 3 rfl) ?_
            refine lv_iload_n hx hb dX8_best_161 rfl (lv_at hl 1 rfl) ?_
            refine lv_iload_n hx hb dX8_best_162 rfl (lv_at hl 2 rfl) ?_
            refine lv_bipush (v := 10) hx hb dX8_best_163 (by decide) ?_
            refine lv_isub hx hb dX8_best_165 ?_
            refine lv_topi (fun x24 ex24 => ?_)
            obtain rfl : x22 = x24 := ex22.trans ex24.symm
            refine cSi E I (c_X8_aimIn l w g v_52 y52_3 a0 x22 E.2.2.1 I.2.2  (by omega) (by omega) (by omega) ) (va_cwS 3 E.1.2.2.2.2 (gSs mw_6_23 mw_6_24 mw_1_9 mw_6_25) rfl rfl rfl (by decide +kernel) ⟨by decide, by decide⟩) rfl hl.1 rfl (Nat.le_of_ble_eq_true rfl) dX8_best_166 ⟨Nat.le_refl _, Nat.le_refl _⟩ (fun r25 u26 H lo hp hPS => ?_)
            obtain ⟨hp, hex, hfr⟩ := hp
            obtain ⟨hu, p27⟩ := hp
            rw [hu] at hPS
            have I : Wo w g s.heap v_52 H lo := ⟨hPS.1, hPS.2, I.2.2⟩
            refine lv_goto (tgt := 174) hx hb dX8_best_169 (by decide) ?_
            exact rI E I hr hlk rfl (by rw [← hpost]; exact ⟨⟨I.2.2, trivial⟩, trivial, rB52_Z⟩) dX8_best_174
        ·
          refine lv_iload_n hx hb dX8_best_132 rfl (lv_at hl 2 rfl) ?_
          refine bz_ne E (a := a1.toInt) rfl (tgt := 147) dX8_best_133 (by decide) (fun c28 => ?_) (fun c28 => ?_)
          ·
            refine lv_aload_n hx hb dX8_best_147 rfl (lv_at hl 0 rfl) ?_
            refine g_StarWalkModel_bestMiles E I h_k0.1 mw_4_192 dX8_best_148 ?_
            refine lv_topi (fun x29 ex29 => ?_)
            exact rI E I hr hlk rfl (by rw [← hpost]; exact ⟨⟨I.2.2, trivial⟩, trivial, rB52_Z⟩) dX8_best_151
          ·
            refine lv_sipush (v := 1000) hx hb dX8_best_136 (by decide) ?_
            refine lv_aload_n hx hb dX8_best_139 rfl (lv_at hl 0 rfl) ?_
            refine g_StarWalkModel_bestSide E I h_k0.1 mw_4_191 dX8_best_140 ?_
            refine lv_topi (fun x30 ex30 => ?_)
            refine lv_iadd hx hb dX8_best_143 ?_
            refine lv_topi (fun x31 ex31 => ?_)
            refine lv_goto (tgt := 151) hx hb dX8_best_144 (by decide) ?_
            exact rI E I hr hlk rfl (by rw [← hpost]; exact ⟨⟨I.2.2, trivial⟩, trivial, rB52_Z⟩) dX8_best_151
      ·
        have rgy52_4 := i32_rng y52_4
        refine lv_aload_n hx hb dX8_best_63 rfl (lv_at hl 0 rfl) ?_
        refine lv_iload hx hb dX8_best_64 (lv_at hl 4 rfl) ?_
        refine lv_iload_n hx hb dX8_best_66 rfl (lv_at hl 1 rfl) ?_
        refine cVi E I (c_X8_isRow l w g v_52 k0 y52_4 a0 E.2.2.1 I.2.2 h_k0 (by omega) (by omega) ) (cwV 2 E.1.2.2.2.2 (gWs (C := "StarWalkModel") mw_6_19 mw_6_21 mw_s_57 mw_1_9 mw_6_22) rfl rfl rfl (by decide +kernel) ⟨by decide, by decide⟩) h_k0.1.1 ((ce_o h_k0.1.2).trans rfl) rfl rfl hl.1 rfl (Nat.le_of_ble_eq_true rfl) dX8_best_67 ⟨Nat.le_refl _, Nat.le_refl _⟩ (fun r32 u33 H lo hp hPS => ?_)
        obtain ⟨hp, hex, hfr⟩ := hp
        obtain ⟨hu, p34⟩ := hp
        rw [hu] at hPS
        have I : Wo w g s.heap v_52 H lo := ⟨hPS.1, hPS.2, I.2.2⟩
        refine bz_eq E (a := r32.toInt) rfl (tgt := 119) dX8_best_70 (by decide) (fun c35 => ?_) (fun c35 => ?_)
        ·
          exact B_119 _ _ v_52 I y52_3 (by omega) (by omega) (by omega) (by omega) rB52_Z (by omega) ls (lv_sub hl [0, 1, 2, 3, 4] rfl)
        ·
          refine lv_aload_n hx hb dX8_best_73 rfl (lv_at hl 0 rfl) ?_
          refine cVv E I (c_X8_starts l w g v_52 k0 E.2.2.1 I.2.2 h_k0  ) (cwV 0 E.1.2.2.2.2 (gWs (C := "StarWalkModel") mw_5_108 mw_5_110 mw_s_42 mw_1_9 mw_5_111) rfl rfl rfl (by decide +kernel) ⟨by decide, by decide⟩) h_k0.1.1 ((ce_o h_k0.1.2).trans rfl) rfl rfl hl.1 rfl (Nat.le_of_ble_eq_true rfl) dX8_best_74 ⟨Nat.le_refl _, Nat.le_refl _⟩ (fun u36 H lo hp hPS => ?_)
          obtain ⟨hp, hex, hfr⟩ := hp
          obtain ⟨hwf, p37⟩ := hp
          have I : Wo w g s.heap u36 H lo := ⟨hPS.1, hPS.2, hwf⟩
          have rzu36 : ∀ k j : Nat, ¬ (k = k0 + 2 ∨ (k = k0 ∧ 19 ≤ j ∧ j ≤ 22)) → u36.1 k j = v.1 k j := fun k j h => (hfr k j (fun z => h (by omega))).trans (rB52_Z k j h)
          refine lv_iconst (v := 0) hx hb dX8_best_77 (by decide) ?_
          refine lv_istore (lv' := [(5, .int 0), (0, .ref (wq w k0)), (1, .int a0), (2, .int a1), (3, .int y52_3), (4, .int y52_4)]) hx hb dX8_best_78 hl (by decide) rfl (fun ls hl => ?_)
          exact L_80 ((2147483647 - (0 : Int32).toInt).toNat + 1) _ _ u36 I (0 : Int32) (by decide) (by omega) (by omega) (by omega) (by omega) rzu36 (by omega) (Nat.lt_succ_self _) ls (lv_sub hl [1, 2, 3, 4, 5, 0] rfl)
  have B_36 : ∀ (H : Heap) (lo : List Loc), Wo w g s.heap v H lo → (0 ≤ a0.toInt ∧ a0.toInt ≤ 4) → (0 ≤ a1.toInt ∧ a1.toInt ≤ 13) → (∀ k j : Nat, ¬ (k = k0 + 2 ∨ (k = k0 ∧ 19 ≤ j ∧ j ≤ 22)) → v.1 k j = v.1 k j) → ((0 ≤ a1.toInt ∧ a1.toInt ≤ 1) ∨ (10 ≤ a1.toInt ∧ a1.toInt ≤ 13)) → ∀ (ls : Array Slot), lv_has ls 6 [(0, .ref (wq w k0)), (1, .int a0), (2, .int a1)] → W pg l en (rmL 5) s m ar bl me cd H lo 0 0 (Zi w bl ar s post) (F0 m 36 ls []) := by
    intro H lo  I  hE36_0 hE36_1 rB36_Z hC36_3 ls hl
    refine lv_iconst (v := 0) hx hb dX8_best_36 (by decide) ?_
    refine lv_istore_n (lv' := [(3, .int 0), (0, .ref (wq w k0)), (1, .int a0), (2, .int a1)]) hx hb dX8_best_37 rfl hl (by decide) rfl (fun ls hl => ?_)
    refine lv_aload_n hx hb dX8_best_38 rfl (lv_at hl 1 rfl) ?_
    refine lv_ldc (own := "StarWalkModel") hx hb E.1.2.2.2.1 (Ew E mw_6_3 rfl) dX8_best_39 ?_
    refine p_StarWalkModel_bestSide E I h_k0.1 mw_4_191 dX8_best_41 (fun H lo I => ?_)
    generalize ev38 : up1 v k0 21 (1000000 : Int32) = v38 at I
    have rzv38 : ∀ k j : Nat, ¬ (k = k0 + 2 ∨ (k = k0 ∧ 19 ≤ j ∧ j ≤ 22)) → v38.1 k j = v.1 k j := fun k j h => fz_u ev38 (by omega) (rB36_Z k j h)
    refine lv_aload_n hx hb dX8_best_44 rfl (lv_at hl 1 rfl) ?_
    refine lv_iconst (v := 0) hx hb dX8_best_45 (by decide) ?_
    refine p_StarWalkModel_bestMiles E I h_k0.1 mw_4_192 dX8_best_46 (fun H lo I => ?_)
    generalize ev39 : up1 v38 k0 22 (0 : Int32) = v39 at I
    have rzv39 : ∀ k j : Nat, ¬ (k = k0 + 2 ∨ (k = k0 ∧ 19 ≤ j ∧ j ≤ 22)) → v39.1 k j = v.1 k j := fun k j h => fz_u ev39 (by omega) (rzv38 k j h)
    refine lv_iconst (v := 0) hx hb dX8_best_49 (by decide) ?_
    refine lv_istore (lv' := [(4, .int 0), (3, .int 0), (0, .ref (wq w k0)), (1, .int a0), (2, .int a1)]) hx hb dX8_best_50 hl (by decide) rfl (fun ls hl => ?_)
    exact L_52 ((2147483647 - (0 : Int32).toInt).toNat + 1) _ _ v39 I (0 : Int32) (0 : Int32) (by decide) (by decide) (by omega) (by omega) rzv39 (by omega) (Nat.lt_succ_self _) ls (lv_sub hl [2, 3, 4, 1, 0] rfl)
  refine lv_iload_n hx hb dX8_best_0 rfl (lv_at hl 1 rfl) ?_
  refine lv_i2l (v := a0.toInt64) hx hb dX8_best_1 rfl ?_
  refine lv_lconst (v := 0) hx hb dX8_best_2 (by decide) ?_
  refine lv_ldc2 (own := "StarWalkModel") hx hb E.1.2.2.2.1 (Ew E mw_6_12 rfl) dX8_best_3 ?_
  refine cSi E I (c_X8_in l w g v a0.toInt64 (0 : Int64) (4 : Int64) E.2.2.1 I.2.2   ) (va_cwS 3 E.1.2.2.2.2 (gSs mw_5_29 mw_5_30 mw_1_9 mw_5_31) rfl rfl rfl (by decide +kernel) ⟨by decide, by decide⟩) rfl hl.1 rfl (Nat.le_of_ble_eq_true rfl) dX8_best_6 ⟨Nat.le_refl _, Nat.le_refl _⟩ (fun r41 u42 H lo hp hPS => ?_)
  have iz43 := i64_of a0
  have iz44 : (0 : Int64).toInt = 0 := rfl
  have iz45 : (4 : Int64).toInt = 4 := rfl
  obtain ⟨hp, hex, hfr⟩ := hp
  obtain ⟨hu, p46⟩ := hp
  rw [hu] at hPS
  have I : Wo w g s.heap v H lo := ⟨hPS.1, hPS.2, I.2.2⟩
  refine bz_eq E (a := r41.toInt) rfl (tgt := 34) dX8_best_9 (by decide) (fun c47 => ?_) (fun c47 => ?_)
  ·
    refine lv_iconst (v := (-1)) hx hb dX8_best_34 (by decide) ?_
    exact rI E I hr hlk rfl (by rw [← hpost]; exact ⟨⟨I.2.2, trivial⟩, trivial, rz0⟩) dX8_best_35
  ·
    refine lv_iload_n hx hb dX8_best_12 rfl (lv_at hl 2 rfl) ?_
    refine cSi E I (c_X8_isPart l w g v a1 E.2.2.1 I.2.2   ) (va_cwS 1 E.1.2.2.2.2 (gSs mw_6_13 mw_6_14 mw_1_9 mw_6_15) rfl rfl rfl (by decide +kernel) ⟨by decide, by decide⟩) rfl hl.1 rfl (Nat.le_of_ble_eq_true rfl) dX8_best_13 ⟨Nat.le_refl _, Nat.le_refl _⟩ (fun r48 u49 H lo hp hPS => ?_)
    obtain ⟨hp, hex, hfr⟩ := hp
    obtain ⟨hu, p50⟩ := hp
    rw [hu] at hPS
    have I : Wo w g s.heap v H lo := ⟨hPS.1, hPS.2, I.2.2⟩
    refine bz_ne E (a := r48.toInt) rfl (tgt := 36) dX8_best_16 (by decide) (fun c51 => ?_) (fun c51 => ?_)
    ·
      exact B_36 _ _ I  (by omega) (by omega) rz0 (by omega) ls (lv_sub hl [0, 1, 2] rfl)
    ·
      refine lv_iload_n hx hb dX8_best_19 rfl (lv_at hl 2 rfl) ?_
      refine lv_bipush (v := 10) hx hb dX8_best_20 (by decide) ?_
      refine lv_isub hx hb dX8_best_22 ?_
      refine lv_topi (fun x52 ex52 => ?_)
      refine lv_i2l (v := x52.toInt64) hx hb dX8_best_23 rfl ?_
      refine lv_lconst (v := 0) hx hb dX8_best_24 (by decide) ?_
      refine lv_ldc2 (own := "StarWalkModel") hx hb E.1.2.2.2.1 (Ew E mw_5_130 rfl) dX8_best_25 ?_
      refine cSi E I (c_X8_in l w g v x52.toInt64 (0 : Int64) (3 : Int64) E.2.2.1 I.2.2   ) (va_cwS 3 E.1.2.2.2.2 (gSs mw_5_29 mw_5_30 mw_1_9 mw_5_31) rfl rfl rfl (by decide +kernel) ⟨by decide, by decide⟩) rfl hl.1 rfl (Nat.le_of_ble_eq_true rfl) dX8_best_28 ⟨Nat.le_refl _, Nat.le_refl _⟩ (fun r54 u55 H lo hp hPS => ?_)
      have iz56 := i64_of x52
      have iz57 : (0 : Int64).toInt = 0 := rfl
      have iz58 : (3 : Int64).toInt = 3 := rfl
      obtain ⟨hp, hex, hfr⟩ := hp
      obtain ⟨hu, p59⟩ := hp
      rw [hu] at hPS
      have I : Wo w g s.heap v H lo := ⟨hPS.1, hPS.2, I.2.2⟩
      refine bz_ne E (a := r54.toInt) rfl (tgt := 36) dX8_best_31 (by decide) (fun c60 => ?_) (fun c60 => ?_)
      ·
        have eA : a1 = x52 + 10 := by rw [ex52, Int32.sub_add_cancel]
        have hA := (congrArg Int32.toInt eA).trans (adI (a := x52.toInt) (b := 10) rfl rfl (by omega) (by omega))
        exact B_36 _ _ I  (by omega) (by omega) rz0 (by omega) ls (lv_sub hl [0, 1, 2] rfl)
      ·
        refine lv_iconst (v := (-1)) hx hb dX8_best_34 (by decide) ?_
        exact rI E I hr hlk rfl (by rw [← hpost]; exact ⟨⟨I.2.2, trivial⟩, trivial, rz0⟩) dX8_best_35
