def F_X7_front (k0 : Nat) (a0 : Int32) (v : St) : Int32 × St :=
xl (fun (self_17 : Int32 → Int32 → Int32 → St → Int32 × St) (y17_2 : Int32) (y17_3 : Int32) (y17_4 : Int32) (v_17 : St) =>
xl (fun (y98_2 : Int32) (y98_3 : Int32) (v_98 : St) =>
xl (y17_4 + 1) fun x1 =>
(self_17 y98_2 y98_3 x1 v_98)) fun J_98 =>
xl (fun (y92_5 : Int32) (v_92 : St) =>
(J_98 y17_4 y92_5 v_92)) fun J_92 =>
xl (v_17.1 (k0 + 12) 6) fun x2 =>
if y17_4.toInt < x2.toInt then (
xl (F_X6_begin (k0 + 21) (k0 + 12) v_17) fun u7 =>
xl (up1 u7 (k0 + 21 + 1) 7 y17_4) fun v9 =>
xl (F_X6_walkPlan (k0 + 21) v9) fun u10 =>
xl (u10.1 (k0 + 21 + 1 + 5) 2) fun x12 =>
if y17_2.toInt = (-4) then (
(J_92 x12 u10)) else (
xl (if 0 ≤ x12 then x12 else 0 - x12) fun x14 =>
xl (if 0 ≤ y17_3 then y17_3 else 0 - y17_3) fun x15 =>
if x14.toInt < x15.toInt then (
(J_92 x12 u10)) else (
(J_98 y17_2 y17_3 u10)))) else (
if a0.toInt = 0 then (
(y17_2, v_17)) else (
if y17_2.toInt = (-4) then (
(y17_2, v_17)) else (
xl ((1000 : Int32) + y17_3) fun x6 =>
(x6, v_17))))) fun P_17 =>
xl (F_X7_isZeroOrOne a0 v) fun r17 =>
if r17.toInt = 0 then (
((-1 : Int32), v)) else (
(lp P_17 (fun _ _ _ _ => ((0 : Int32), v)) ((2147483647 - (0 : Int32).toInt).toNat + 1) (-4 : Int32) (0 : Int32) (0 : Int32) v))
set_option maxHeartbeats 4000000 in
set_option maxRecDepth 100000 in
theorem c_X7_front (l : Launch) (w : Wp) (g : Nat → Nat → Int32) (v : St) (k0 : Nat) (a0 : Int32) (hq : Inj w) (hw : WF (wk w) g v) (h_k0 : oW w k0) : CTi w l yX7_front (wsy yX7_front prog_1_method_24_code 6 (some .int)) (rmL 6) [.ref (wq w k0), .int a0] v (fun (r : Int32) (u : St) => (WF (wk w) g u ∧ True) ∧ ((r, u) = F_X7_front k0 a0 v) ∧ (∀ k j : Nat, ¬ (k0 + 21 ≤ k ∧ k < k0 + 32) → u.1 k j = v.1 k j)) := by
  generalize hpost : (fun (r : Int32) (u : St) => (WF (wk w) g u ∧ True) ∧ ((r, u) = F_X7_front k0 a0 v) ∧ (∀ k j : Nat, ¬ (k0 + 21 ≤ k ∧ k < k0 + 32) → u.1 k j = v.1 k j)) = post
  refine CTi.of prog_1_method_24_code 6 (some .int) "StarWalk" (by decide +kernel) rfl hq hw (Nat.le_of_ble_eq_true rfl) ?_
  intro pg en s m ar bl me cd ls E I hr hlk hl
  have hx := E.1.1
  have hb := E.1.2.1
  have hl : lv_has ls 6 [(0, .ref (wq w k0)), (1, .int a0)] := hl
  obtain ⟨res, hres⟩ : ∃ z, z = F_X7_front k0 a0 v := ⟨_, rfl⟩
  have hF := hres.symm
  unfold F_X7_front at hF
  replace hres : res = F_X7_front k0 a0 v := hres
  have rz0 : ∀ k j : Nat, ¬ (k0 + 21 ≤ k ∧ k < k0 + 32) → v.1 k j = v.1 k j := fun _ _ _ => rfl
  obtain ⟨P_17, eP_17, hF⟩ := xl_e hF
  have L_17 : ∀ (n : Nat), ∀ (H : Heap) (lo : List Loc) (v_17 : St), Wo w g s.heap v_17 H lo → ∀ (y17_2 : Int32) (y17_3 : Int32) (y17_4 : Int32), (-4 ≤ y17_2.toInt ∧ y17_2.toInt ≤ 2) → (0 ≤ y17_4.toInt ∧ y17_4.toInt ≤ 3) → (0 ≤ a0.toInt ∧ a0.toInt ≤ 1) → (∀ k j : Nat, ¬ (k0 + 21 ≤ k ∧ k < k0 + 32) → v_17.1 k j = v.1 k j) → (lp P_17 (fun _ _ _ _ => ((0 : Int32), v)) n y17_2 y17_3 y17_4 v_17 = res) → (2147483647 - y17_4.toInt).toNat < n → ∀ (ls : Array Slot), lv_has ls 6 [(0, .ref (wq w k0)), (1, .int a0), (2, .int y17_2), (3, .int y17_3), (4, .int y17_4)] → W pg l en (rmL 6) s m ar bl me cd H lo 0 0 (Zi w bl ar s post) (F0 m 17 ls []) := by
    intro n
    induction n with
    | zero => intro H lo v_17 I y17_2 y17_3 y17_4 hy17_2 hy17_4 hE17_0 rB17_Z hF hm; exact absurd hm (Nat.not_lt_zero _)
    | succ n ih_17 =>
      intro H lo v_17 I y17_2 y17_3 y17_4 hy17_2 hy17_4 hE17_0 rB17_Z hF hm ls hl
      replace hF := lpa4 eP_17 hF
      obtain ⟨J_98, eJ_98, hF⟩ := xl_e hF
      have B_98 : ∀ (H : Heap) (lo : List Loc) (v_98 : St), Wo w g s.heap v_98 H lo → ∀ (y98_2 : Int32) (y98_3 : Int32), (-4 ≤ y98_2.toInt ∧ y98_2.toInt ≤ 2) → (0 ≤ a0.toInt ∧ a0.toInt ≤ 1) → (0 ≤ y17_4.toInt ∧ y17_4.toInt ≤ 2) → (∀ k j : Nat, ¬ (k0 + 21 ≤ k ∧ k < k0 + 32) → v_98.1 k j = v.1 k j) → (J_98 y98_2 y98_3 v_98 = res) → ∀ (ls : Array Slot), lv_has ls 6 [(0, .ref (wq w k0)), (1, .int a0), (2, .int y98_2), (3, .int y98_3), (4, .int y17_4)] → W pg l en (rmL 6) s m ar bl me cd H lo 0 0 (Zi w bl ar s post) (F0 m 98 ls []) := by
        intro H lo v_98 I y98_2 y98_3 hy98_2 hE98_0 hE98_1 rB98_Z hF ls hl
        replace hF := ap3 eJ_98 hF
        obtain ⟨x1, ex1⟩ : ∃ z : Int32, z = y17_4 + 1 := ⟨_, rfl⟩
        replace hF := xl_i (ex1) hF
        have hx1 : x1.toInt = y17_4.toInt + (1) := by rw [ex1]; exact adI (a := y17_4.toInt) (b := 1) rfl rfl (by omega) (by omega)
        refine lv_iinc (v := x1) (lv' := [(4, .int x1), (0, .ref (wq w k0)), (1, .int a0), (2, .int y98_2), (3, .int y98_3)]) hx hb dX7_front_98 hl (k := 4) rfl (by rw [ex1]; rfl) (by decide) rfl (fun ls hl => ?_)
        refine lv_goto (tgt := 17) hx hb dX7_front_101 (by decide) ?_
        exact ih_17 _ _ v_98 I y98_2 y98_3 x1 (by omega) (by omega) (by omega) rB98_Z hF (by omega) ls (lv_sub hl [1, 2, 3, 4, 0] rfl)
      obtain ⟨J_92, eJ_92, hF⟩ := xl_e hF
      have B_92 : ∀ (H : Heap) (lo : List Loc) (v_92 : St), Wo w g s.heap v_92 H lo → ∀ (y92_5 : Int32), (0 ≤ a0.toInt ∧ a0.toInt ≤ 1) → (0 ≤ y17_4.toInt ∧ y17_4.toInt ≤ 2) → (∀ k j : Nat, ¬ (k0 + 21 ≤ k ∧ k < k0 + 32) → v_92.1 k j = v.1 k j) → (J_92 y92_5 v_92 = res) → ∀ (ls : Array Slot), lv_has ls 6 [(0, .ref (wq w k0)), (1, .int a0), (4, .int y17_4), (5, .int y92_5)] → W pg l en (rmL 6) s m ar bl me cd H lo 0 0 (Zi w bl ar s post) (F0 m 92 ls []) := by
        intro H lo v_92 I y92_5 hE92_0 hE92_1 rB92_Z hF ls hl
        replace hF := ap2 eJ_92 hF
        refine lv_iload hx hb dX7_front_92 (lv_at hl 2 rfl) ?_
        refine lv_istore_n (lv' := [(2, .int y17_4), (0, .ref (wq w k0)), (1, .int a0), (4, .int y17_4), (5, .int y92_5)]) hx hb dX7_front_94 rfl hl (by decide) rfl (fun ls hl => ?_)
        refine lv_iload hx hb dX7_front_95 (lv_at hl 4 rfl) ?_
        refine lv_istore_n (lv' := [(3, .int y92_5), (2, .int y17_4), (0, .ref (wq w k0)), (1, .int a0), (4, .int y17_4), (5, .int y92_5)]) hx hb dX7_front_97 rfl hl (by decide) rfl (fun ls hl => ?_)
        exact B_98 _ _ v_92 I y17_4 y92_5 (by omega) (by omega) (by omega) rB92_Z hF ls (lv_sub hl [2, 3, 1, 0, 4] rfl)
      refine lv_iload hx hb dX7_front_17 (lv_at hl 4 rfl) ?_
      refine lv_aload_n hx hb dX7_front_19 rfl (lv_at hl 0 rfl) ?_
      refine g_StarWalk_now E I h_k0.1 mw_2_69 dX7_front_20 ?_
      refine g_Night_walkers E I h_k0.2.2.1.1 mw_1_92 dX7_front_23 ?_
      refine lv_topi (fun x2 ex2 => ?_)
      replace hF := xl_i (ex2) hF
      have hx2 := r_Night_walkers I h_k0.2.2.1.1
      rw [← ex2] at hx2
      refine bi_ge E (a := y17_4.toInt) (b := x2.toInt) rfl rfl (tgt := 104) dX7_front_26 (by decide) (fun c3 => ?_) (fun c3 => ?_)
      ·
        replace hF := if_l c3 hF
        refine lv_iload_n hx hb dX7_front_104 rfl (lv_at hl 1 rfl) ?_
        refine bz_eq E (a := a0.toInt) rfl (tgt := 114) dX7_front_105 (by decide) (fun c4 => ?_) (fun c4 => ?_)
        ·
          replace hF := if_t c4 hF
          refine lv_iload_n hx hb dX7_front_114 rfl (lv_at hl 2 rfl) ?_
          refine lv_goto (tgt := 123) hx hb dX7_front_115 (by decide) ?_
          exact rI E I hr hlk rfl (by rw [← hpost]; exact ⟨⟨I.2.2, trivial⟩, hF.trans hres, rB17_Z⟩) dX7_front_123
        ·
          replace hF := if_f c4 hF
          refine lv_iload_n hx hb dX7_front_108 rfl (lv_at hl 2 rfl) ?_
          refine lv_bipush (v := (-4)) hx hb dX7_front_109 (by decide) ?_
          refine bi_ne E (a := y17_2.toInt) (b := (-4)) rfl rfl (tgt := 118) dX7_front_111 (by decide) (fun c5 => ?_) (fun c5 => ?_)
          ·
            replace hF := if_f c5 hF
            refine lv_sipush (v := 1000) hx hb dX7_front_118 (by decide) ?_
            refine lv_iload_n hx hb dX7_front_121 rfl (lv_at hl 3 rfl) ?_
            refine lv_iadd hx hb dX7_front_122 ?_
            refine lv_topi (fun x6 ex6 => ?_)
            replace hF := xl_i (ex6) hF
            exact rI E I hr hlk rfl (by rw [← hpost]; exact ⟨⟨I.2.2, trivial⟩, hF.trans hres, rB17_Z⟩) dX7_front_123
          ·
            replace hF := if_t c5 hF
            refine lv_iload_n hx hb dX7_front_114 rfl (lv_at hl 2 rfl) ?_
            refine lv_goto (tgt := 123) hx hb dX7_front_115 (by decide) ?_
            exact rI E I hr hlk rfl (by rw [← hpost]; exact ⟨⟨I.2.2, trivial⟩, hF.trans hres, rB17_Z⟩) dX7_front_123
      ·
        replace hF := if_t c3 hF
        refine lv_aload_n hx hb dX7_front_29 rfl (lv_at hl 0 rfl) ?_
        refine g_StarWalk_trial E I h_k0.1 mw_2_70 dX7_front_30 ?_
        refine lv_aload_n hx hb dX7_front_33 rfl (lv_at hl 0 rfl) ?_
        refine g_StarWalk_now E I h_k0.1 mw_2_69 dX7_front_34 ?_
        refine cVv E I (c_X6_begin l w g v_17 (k0 + 21) (k0 + 12) E.2.2.1 I.2.2 h_k0.2.2.2.1 h_k0.2.2.1  ) (cwV 1 E.1.2.2.2.2 (gWs (C := "StarWalk$Trial") mw_3_201 mw_3_202 mw_3_203 mw_1_5 mw_3_204) rfl rfl rfl (by decide +kernel) ⟨by decide, by decide⟩) h_k0.2.2.2.1.1.1 ((ce_o h_k0.2.2.2.1.1.2).trans rfl) rfl rfl hl.1 rfl (Nat.le_of_ble_eq_true rfl) dX7_front_37 ⟨Nat.le_refl _, Nat.le_refl _⟩ (fun u7 H lo hp hPS => ?_)
        obtain ⟨hp, hex, hfr⟩ := hp
        replace hF := xl_i hex hF
        obtain ⟨hwf, p8⟩ := hp
        have I : Wo w g s.heap u7 H lo := ⟨hPS.1, hPS.2, hwf⟩
        have rzu7 : ∀ k j : Nat, ¬ (k0 + 21 ≤ k ∧ k < k0 + 32) → u7.1 k j = v.1 k j := fun k j h => (hfr k j (fun z => h (by omega))).trans (rB17_Z k j h)
        refine lv_aload_n hx hb dX7_front_40 rfl (lv_at hl 0 rfl) ?_
        refine g_StarWalk_trial E I h_k0.1 mw_2_70 dX7_front_41 ?_
        refine g_Trial_night E I h_k0.2.2.2.1.1 mw_1_215 dX7_front_44 ?_
        refine lv_iload hx hb dX7_front_47 (lv_at hl 4 rfl) ?_
        refine p_Night_inFront E I h_k0.2.2.2.1.2.1.1 mw_1_95 dX7_front_49 (fun H lo I => ?_)
        generalize ev9 : up1 u7 (k0 + 21 + 1) 7 y17_4 = v9 at I
        replace hF := xl_i (ev9.symm) hF
        have rzv9 : ∀ k j : Nat, ¬ (k0 + 21 ≤ k ∧ k < k0 + 32) → v9.1 k j = v.1 k j := fun k j h => fz_u ev9 (by omega) (rzu7 k j h)
        refine lv_aload_n hx hb dX7_front_52 rfl (lv_at hl 0 rfl) ?_
        refine g_StarWalk_trial E I h_k0.1 mw_2_70 dX7_front_53 ?_
        refine cVv E I (c_X6_walkPlan l w g v9 (k0 + 21) E.2.2.1 I.2.2 h_k0.2.2.2.1  ) (cwV 0 E.1.2.2.2.2 (gWs (C := "StarWalk$Trial") mw_3_206 mw_3_207 mw_3_208 mw_1_5 mw_3_209) rfl rfl rfl (by decide +kernel) ⟨by decide, by decide⟩) h_k0.2.2.2.1.1.1 ((ce_o h_k0.2.2.2.1.1.2).trans rfl) rfl rfl hl.1 rfl (Nat.le_of_ble_eq_true rfl) dX7_front_56 ⟨Nat.le_refl _, Nat.le_refl _⟩ (fun u10 H lo hp hPS => ?_)
        obtain ⟨hp, hex, hfr⟩ := hp
        replace hF := xl_i hex hF
        obtain ⟨hwf, p11⟩ := hp
        have I : Wo w g s.heap u10 H lo := ⟨hPS.1, hPS.2, hwf⟩
        have rzu10 : ∀ k j : Nat, ¬ (k0 + 21 ≤ k ∧ k < k0 + 32) → u10.1 k j = v.1 k j := fun k j h => (hfr k j (fun z => h (by omega))).trans (rzv9 k j h)
        refine lv_aload_n hx hb dX7_front_59 rfl (lv_at hl 0 rfl) ?_
        refine g_StarWalk_trial E I h_k0.1 mw_2_70 dX7_front_60 ?_
        refine g_Trial_night E I h_k0.2.2.2.1.1 mw_1_215 dX7_front_63 ?_
        refine g_Night_place E I h_k0.2.2.2.1.2.1.1 mw_1_113 dX7_front_66 ?_
        refine g_Place_side E I h_k0.2.2.2.1.2.1.2.2.2.2.2.1 mw_1_57 dX7_front_69 ?_
        refine lv_topi (fun x12 ex12 => ?_)
        replace hF := xl_i (ex12) hF
        refine lv_istore (lv' := [(5, .int x12), (0, .ref (wq w k0)), (1, .int a0), (2, .int y17_2), (3, .int y17_3), (4, .int y17_4)]) hx hb dX7_front_72 hl (by decide) rfl (fun ls hl => ?_)
        refine lv_iload_n hx hb dX7_front_74 rfl (lv_at hl 3 rfl) ?_
        refine lv_bipush (v := (-4)) hx hb dX7_front_75 (by decide) ?_
        refine bi_eq E (a := y17_2.toInt) (b := (-4)) rfl rfl (tgt := 92) dX7_front_77 (by decide) (fun c13 => ?_) (fun c13 => ?_)
        ·
          replace hF := if_t c13 hF
          exact B_92 _ _ u10 I x12 (by omega) (by omega) rzu10 hF ls (lv_sub hl [1, 2, 5, 0] rfl)
        ·
          replace hF := if_f c13 hF
          refine lv_iload hx hb dX7_front_80 (lv_at hl 0 rfl) ?_
          refine va_mabs hx hb (E.1.2.2.1.trans hl.1.symm) E.1.2.2.2.1 (Ew E mw_4_12 rfl) (Ew E mw_3_84 rfl) (Ew E mw_1_15 rfl) (Ew E mw_3_85 rfl) (by decide) (Nat.le_of_ble_eq_true rfl) (Nat.le_refl _) (Nat.le_refl _) dX7_front_82 ?_
          refine lv_topi (fun x14 ex14 => ?_)
          replace hF := xl_i (ex14) hF
          refine lv_iload_n hx hb dX7_front_85 rfl (lv_at hl 4 rfl) ?_
          refine va_mabs hx hb (E.1.2.2.1.trans hl.1.symm) E.1.2.2.2.1 (Ew E mw_4_12 rfl) (Ew E mw_3_84 rfl) (Ew E mw_1_15 rfl) (Ew E mw_3_85 rfl) (by decide) (Nat.le_of_ble_eq_true rfl) (Nat.le_refl _) (Nat.le_refl _) dX7_front_86 ?_
          refine lv_topi (fun x15 ex15 => ?_)
          replace hF := xl_i (ex15) hF
          refine bi_ge E (a := x14.toInt) (b := x15.toInt) rfl rfl (tgt := 98) dX7_front_89 (by decide) (fun c16 => ?_) (fun c16 => ?_)
          ·
            have rgx14 := i32_rng x14
            have rgx15 := i32_rng x15
            replace hF := if_l c16 hF
            exact B_98 _ _ u10 I y17_2 y17_3 (by omega) (by omega) (by omega) rzu10 hF ls (lv_sub hl [1, 2, 3, 4, 5] rfl)
          ·
            have rgx14 := i32_rng x14
            have rgx15 := i32_rng x15
            replace hF := if_t c16 hF
            exact B_92 _ _ u10 I x12 (by omega) (by omega) rzu10 hF ls (lv_sub hl [1, 2, 5, 0] rfl)
  refine lv_iload_n hx hb dX7_front_0 rfl (lv_at hl 1 rfl) ?_
  refine cSi E I (c_X7_isZeroOrOne l w g v a0 E.2.2.1 I.2.2   ) (va_cwS 1 E.1.2.2.2.2 (gSs mw_4_9 mw_4_10 mw_1_1 mw_4_11) rfl rfl rfl (by decide +kernel) ⟨by decide, by decide⟩) rfl hl.1 rfl (Nat.le_of_ble_eq_true rfl) dX7_front_1 ⟨Nat.le_refl _, Nat.le_refl _⟩ (fun r17 u18 H lo hp hPS => ?_)
  obtain ⟨hp, hex, hfr⟩ := hp
  replace hF := xl_i hex hF
  obtain ⟨hu, p19⟩ := hp
  rw [hu] at hPS
  have I : Wo w g s.heap v H lo := ⟨hPS.1, hPS.2, I.2.2⟩
  refine bz_ne E (a := r17.toInt) rfl (tgt := 9) dX7_front_4 (by decide) (fun c20 => ?_) (fun c20 => ?_)
  ·
    replace hF := if_f c20 hF
    refine lv_bipush (v := (-4)) hx hb dX7_front_9 (by decide) ?_
    refine lv_istore_n (lv' := [(2, .int (-4)), (0, .ref (wq w k0)), (1, .int a0)]) hx hb dX7_front_11 rfl hl (by decide) rfl (fun ls hl => ?_)
    refine lv_iconst (v := 0) hx hb dX7_front_12 (by decide) ?_
    refine lv_istore_n (lv' := [(3, .int 0), (2, .int (-4)), (0, .ref (wq w k0)), (1, .int a0)]) hx hb dX7_front_13 rfl hl (by decide) rfl (fun ls hl => ?_)
    refine lv_iconst (v := 0) hx hb dX7_front_14 (by decide) ?_
    refine lv_istore (lv' := [(4, .int 0), (3, .int 0), (2, .int (-4)), (0, .ref (wq w k0)), (1, .int a0)]) hx hb dX7_front_15 hl (by decide) rfl (fun ls hl => ?_)
    exact L_17 ((2147483647 - (0 : Int32).toInt).toNat + 1) _ _ v I (-4 : Int32) (0 : Int32) (0 : Int32) (by decide) (by decide) (by omega) rz0 hF (Nat.lt_succ_self _) ls (lv_sub hl [3, 4, 2, 1, 0] rfl)
  ·
    replace hF := if_t c20 hF
    refine lv_iconst (v := (-1)) hx hb dX7_front_7 (by decide) ?_
    exact rI E I hr hlk rfl (by rw [← hpost]; exact ⟨⟨I.2.2, trivial⟩, hF.trans hres, rz0⟩) dX7_front_8
def F_X7_isOnTheWayKnowing (k0 : Nat) (a0 : Int32) (v : St) : Int32 × St :=
xl (F_X6_begin (k0 + 21) (k0 + 12) v) fun u1 =>
xl (up1 u1 (k0 + 21 + 1) 4 a0) fun v3 =>
xl (F_X6_walkPlan (k0 + 21) v3) fun u4 =>
xl (F_X0_isWithinBroad (k0 + 21 + 1) (k0 + 21 + 1 + 5) u4) fun r6 =>
(r6, u4)
set_option maxHeartbeats 4000000 in
set_option maxRecDepth 100000 in
theorem c_X7_isOnTheWayKnowing (l : Launch) (w : Wp) (g : Nat → Nat → Int32) (v : St) (k0 : Nat) (a0 : Int32) (hq : Inj w) (hw : WF (wk w) g v) (h_k0 : oW w k0) : CTi w l yX7_isOnTheWayKnowing (wsy yX7_isOnTheWayKnowing prog_1_method_26_code 2 (some .boolean)) (rmL 6) [.ref (wq w k0), .int a0] v (fun (r : Int32) (u : St) => (WF (wk w) g u ∧ 0 ≤ r.toInt ∧ r.toInt ≤ 1) ∧ ((r, u) = F_X7_isOnTheWayKnowing k0 a0 v) ∧ (∀ k j : Nat, ¬ (k0 + 21 ≤ k ∧ k < k0 + 32) → u.1 k j = v.1 k j)) := by
  generalize hpost : (fun (r : Int32) (u : St) => (WF (wk w) g u ∧ 0 ≤ r.toInt ∧ r.toInt ≤ 1) ∧ ((r, u) = F_X7_isOnTheWayKnowing k0 a0 v) ∧ (∀ k j : Nat, ¬ (k0 + 21 ≤ k ∧ k < k0 + 32) → u.1 k j = v.1 k j)) = post
  refine CTi.of prog_1_method_26_code 2 (some .boolean) "StarWalk" (by decide +kernel) rfl hq hw (Nat.le_of_ble_eq_true rfl) ?_
  intro pg en s m ar bl me cd ls E I hr hlk hl
  have hx := E.1.1
  have hb := E.1.2.1
  have hl : lv_has ls 2 [(0, .ref (wq w k0)), (1, .int a0)] := hl
  obtain ⟨res, hres⟩ : ∃ z, z = F_X7_isOnTheWayKnowing k0 a0 v := ⟨_, rfl⟩
  have hF := hres.symm
  unfold F_X7_isOnTheWayKnowing at hF
  replace hres : res = F_X7_isOnTheWayKnowing k0 a0 v := hres
  have rz0 : ∀ k j : Nat, ¬ (k0 + 21 ≤ k ∧ k < k0 + 32) → v.1 k j = v.1 k j := fun _ _ _ => rfl
  refine lv_aload_n hx hb dX7_isOnTheWayKnowing_0 rfl (lv_at hl 0 rfl) ?_
  refine g_StarWalk_trial E I h_k0.1 mw_2_70 dX7_isOnTheWayKnowing_1 ?_
  refine lv_aload_n hx hb dX7_isOnTheWayKnowing_4 rfl (lv_at hl 0 rfl) ?_
  refine g_StarWalk_now E I h_k0.1 mw_2_69 dX7_isOnTheWayKnowing_5 ?_
  refine cVv E I (c_X6_begin l w g v (k0 + 21) (k0 + 12) E.2.2.1 I.2.2 h_k0.2.2.2.1 h_k0.2.2.1  ) (cwV 1 E.1.2.2.2.2 (gWs (C := "StarWalk$Trial") mw_3_201 mw_3_202 mw_3_203 mw_1_5 mw_3_204) rfl rfl rfl (by decide +kernel) ⟨by decide, by decide⟩) h_k0.2.2.2.1.1.1 ((ce_o h_k0.2.2.2.1.1.2).trans rfl) rfl rfl hl.1 rfl (Nat.le_of_ble_eq_true rfl) dX7_isOnTheWayKnowing_8 ⟨Nat.le_refl _, Nat.le_refl _⟩ (fun u1 H lo hp hPS => ?_)
  obtain ⟨hp, hex, hfr⟩ := hp
  replace hF := xl_i hex hF
  obtain ⟨hwf, p2⟩ := hp
  have I : Wo w g s.heap u1 H lo := ⟨hPS.1, hPS.2, hwf⟩
  have rzu1 : ∀ k j : Nat, ¬ (k0 + 21 ≤ k ∧ k < k0 + 32) → u1.1 k j = v.1 k j := fun k j h => (hfr k j (fun z => h (by omega))).trans (rz0 k j h)
  refine lv_aload_n hx hb dX7_isOnTheWayKnowing_11 rfl (lv_at hl 0 rfl) ?_
  refine g_StarWalk_trial E I h_k0.1 mw_2_70 dX7_isOnTheWayKnowing_12 ?_
  refine g_Trial_night E I h_k0.2.2.2.1.1 mw_1_215 dX7_isOnTheWayKnowing_15 ?_
  refine lv_iload_n hx hb dX7_isOnTheWayKnowing_18 rfl (lv_at hl 1 rfl) ?_
  refine p_Night_known E I h_k0.2.2.2.1.2.1.1 mw_1_88 dX7_isOnTheWayKnowing_19 (fun H lo I => ?_)
  generalize ev3 : up1 u1 (k0 + 21 + 1) 4 a0 = v3 at I
  replace hF := xl_i (ev3.symm) hF
  have rzv3 : ∀ k j : Nat, ¬ (k0 + 21 ≤ k ∧ k < k0 + 32) → v3.1 k j = v.1 k j := fun k j h => fz_u ev3 (by omega) (rzu1 k j h)
  refine lv_aload_n hx hb dX7_isOnTheWayKnowing_22 rfl (lv_at hl 0 rfl) ?_
  refine g_StarWalk_trial E I h_k0.1 mw_2_70 dX7_isOnTheWayKnowing_23 ?_
  refine cVv E I (c_X6_walkPlan l w g v3 (k0 + 21) E.2.2.1 I.2.2 h_k0.2.2.2.1  ) (cwV 0 E.1.2.2.2.2 (gWs (C := "StarWalk$Trial") mw_3_206 mw_3_207 mw_3_208 mw_1_5 mw_3_209) rfl rfl rfl (by decide +kernel) ⟨by decide, by decide⟩) h_k0.2.2.2.1.1.1 ((ce_o h_k0.2.2.2.1.1.2).trans rfl) rfl rfl hl.1 rfl (Nat.le_of_ble_eq_true rfl) dX7_isOnTheWayKnowing_26 ⟨Nat.le_refl _, Nat.le_refl _⟩ (fun u4 H lo hp hPS => ?_)
  obtain ⟨hp, hex, hfr⟩ := hp
  replace hF := xl_i hex hF
  obtain ⟨hwf, p5⟩ := hp
  have I : Wo w g s.heap u4 H lo := ⟨hPS.1, hPS.2, hwf⟩
  have rzu4 : ∀ k j : Nat, ¬ (k0 + 21 ≤ k ∧ k < k0 + 32) → u4.1 k j = v.1 k j := fun k j h => (hfr k j (fun z => h (by omega))).trans (rzv3 k j h)
  refine lv_aload_n hx hb dX7_isOnTheWayKnowing_29 rfl (lv_at hl 0 rfl) ?_
  refine g_StarWalk_trial E I h_k0.1 mw_2_70 dX7_isOnTheWayKnowing_30 ?_
  refine g_Trial_night E I h_k0.2.2.2.1.1 mw_1_215 dX7_isOnTheWayKnowing_33 ?_
  refine lv_aload_n hx hb dX7_isOnTheWayKnowing_36 rfl (lv_at hl 0 rfl) ?_
  refine g_StarWalk_trial E I h_k0.1 mw_2_70 dX7_isOnTheWayKnowing_37 ?_
  refine g_Trial_night E I h_k0.2.2.2.1.1 mw_1_215 dX7_isOnTheWayKnowing_40 ?_
  refine g_Night_place E I h_k0.2.2.2.1.2.1.1 mw_1_113 dX7_isOnTheWayKnowing_43 ?_
  refine cVi E I (c_X0_isWithinBroad l w g u4 (k0 + 21 + 1) (k0 + 21 + 1 + 5) E.2.2.1 I.2.2 h_k0.2.2.2.1.2.1 h_k0.2.2.2.1.2.1.2.2.2.2.2.1  ) (cwV 1 E.1.2.2.2.2 (gWs (C := "StarWalk$Night") mw_4_27 mw_3_80 mw_3_81 mw_1_3 mw_3_82) rfl rfl rfl (by decide +kernel) ⟨by decide, by decide⟩) h_k0.2.2.2.1.2.1.1.1 ((ce_o h_k0.2.2.2.1.2.1.1.2).trans rfl) rfl rfl hl.1 rfl (Nat.le_of_ble_eq_true rfl) dX7_isOnTheWayKnowing_46 ⟨Nat.le_refl _, Nat.le_refl _⟩ (fun r6 u7 H lo hp hPS => ?_)
  obtain ⟨hp, hex, hfr⟩ := hp
  replace hF := xl_i hex hF
  obtain ⟨hu, p8⟩ := hp
  rw [hu] at hPS
  have I : Wo w g s.heap u4 H lo := ⟨hPS.1, hPS.2, I.2.2⟩
  exact rI E I hr hlk (nbI (by omega)) (by rw [← hpost]; exact ⟨⟨I.2.2, by omega⟩, hF.trans hres, rzu4⟩) dX7_isOnTheWayKnowing_49
def F_X7_lessons (k0 : Nat) (a0 : Int32) (v : St) : Int32 × St :=
xl (fun (self_18 : Int32 → Int32 → Int32 → St → Int32 × St) (y18_2 : Int32) (y18_3 : Int32) (y18_4 : Int32) (v_18 : St) =>
xl (fun (y99_2 : Int32) (y99_3 : Int32) (v_99 : St) =>
xl (y18_4 + 1) fun x1 =>
(self_18 y99_2 y99_3 x1 v_99)) fun J_99 =>
xl (fun (y56_5 : Int32) (z56_0 : Int32) (v_56 : St) =>
xl (v_56.1 (k0 + 12) 4) fun x2 =>
xl (y18_4 &&& x2) fun x3 =>
if x3.toInt = 0 then (
if z56_0.toInt = 0 then (
(J_99 y18_2 y18_3 v_56)) else (
xl (v_56.1 (k0 + 12) 4) fun x6 =>
xl (x6 ||| y18_4) fun x7 =>
xm (F_X7_isOnTheWayKnowing k0 x7 v_56) fun r8 u9 =>
if r8.toInt = 0 then (
(J_99 y18_2 y18_3 u9)) else (
(J_99 y56_5 y18_4 u9)))) else (
(J_99 y18_2 y18_3 v_56))) fun J_56 =>
xl (fun (y51_5 : Int32) (v_51 : St) =>
(J_56 y51_5 (1 : Int32) v_51)) fun J_51 =>
xl (v_18.1 (k0 + 12) 3) fun x12 =>
xl ((1 : Int32) <<< (x12 &&& 31)) fun x13 =>
if y18_4.toInt < x13.toInt then (
xl (F_J6_bitCount_0f7a4 y18_4 v_18) fun r16 =>
if y18_2.toInt = (-4) then (
(J_51 r16 v_18)) else (
if r16.toInt < y18_2.toInt then (
(J_51 r16 v_18)) else (
(J_56 r16 (0 : Int32) v_18)))) else (
if a0.toInt = 0 then (
(y18_2, v_18)) else (
(y18_3, v_18)))) fun P_18 =>
xl (F_X7_isZeroOrOne a0 v) fun r21 =>
if r21.toInt = 0 then (
((-1 : Int32), v)) else (
(lp P_18 (fun _ _ _ _ => ((0 : Int32), v)) ((2147483647 - (0 : Int32).toInt).toNat + 1) (-4 : Int32) (-4 : Int32) (0 : Int32) v))
set_option maxHeartbeats 4000000 in
set_option maxRecDepth 100000 in
theorem c_X7_lessons (l : Launch) (w : Wp) (g : Nat → Nat → Int32) (v : St) (k0 : Nat) (a0 : Int32) (hq : Inj w) (hw : WF (wk w) g v) (h_k0 : oW w k0) : CTi w l yX7_lessons (wsy yX7_lessons prog_1_method_25_code 7 (some .int)) (rmL 7) [.ref (wq w k0), .int a0] v (fun (r : Int32) (u : St) => (WF (wk w) g u ∧ True) ∧ ((r, u) = F_X7_lessons k0 a0 v) ∧ (∀ k j : Nat, ¬ (k0 + 21 ≤ k ∧ k < k0 + 32) → u.1 k j = v.1 k j)) := by
  generalize hpost : (fun (r : Int32) (u : St) => (WF (wk w) g u ∧ True) ∧ ((r, u) = F_X7_lessons k0 a0 v) ∧ (∀ k j : Nat, ¬ (k0 + 21 ≤ k ∧ k < k0 + 32) → u.1 k j = v.1 k j)) = post
  refine CTi.of prog_1_method_25_code 7 (some .int) "StarWalk" (by decide +kernel) rfl hq hw (Nat.le_of_ble_eq_true rfl) ?_
  intro pg en s m ar bl me cd ls E I hr hlk hl
  have hx := E.1.1
  have hb := E.1.2.1
  have hl : lv_has ls 7 [(0, .ref (wq w k0)), (1, .int a0)] := hl
  obtain ⟨res, hres⟩ : ∃ z, z = F_X7_lessons k0 a0 v := ⟨_, rfl⟩
  have hF := hres.symm
  unfold F_X7_lessons at hF
  replace hres : res = F_X7_lessons k0 a0 v := hres
  have rz0 : ∀ k j : Nat, ¬ (k0 + 21 ≤ k ∧ k < k0 + 32) → v.1 k j = v.1 k j := fun _ _ _ => rfl
  obtain ⟨P_18, eP_18, hF⟩ := xl_e hF
  have L_18 : ∀ (n : Nat), ∀ (H : Heap) (lo : List Loc) (v_18 : St), Wo w g s.heap v_18 H lo → ∀ (y18_2 : Int32) (y18_3 : Int32) (y18_4 : Int32), (-4 ≤ y18_3.toInt ∧ y18_3.toInt ≤ 2147483646) → (0 ≤ y18_4.toInt) → (0 ≤ a0.toInt ∧ a0.toInt ≤ 1) → (∀ k j : Nat, ¬ (k0 + 21 ≤ k ∧ k < k0 + 32) → v_18.1 k j = v.1 k j) → (lp P_18 (fun _ _ _ _ => ((0 : Int32), v)) n y18_2 y18_3 y18_4 v_18 = res) → (2147483647 - y18_4.toInt).toNat < n → ∀ (ls : Array Slot), lv_has ls 7 [(0, .ref (wq w k0)), (1, .int a0), (2, .int y18_2), (3, .int y18_3), (4, .int y18_4)] → W pg l en (rmL 7) s m ar bl me cd H lo 0 0 (Zi w bl ar s post) (F0 m 18 ls []) := by
    intro n
    induction n with
    | zero => intro H lo v_18 I y18_2 y18_3 y18_4 hy18_3 hy18_4 hE18_0 rB18_Z hF hm; exact absurd hm (Nat.not_lt_zero _)
    | succ n ih_18 =>
      intro H lo v_18 I y18_2 y18_3 y18_4 hy18_3 hy18_4 hE18_0 rB18_Z hF hm ls hl
      replace hF := lpa4 eP_18 hF
      obtain ⟨J_99, eJ_99, hF⟩ := xl_e hF
      have B_99 : ∀ (H : Heap) (lo : List Loc) (v_99 : St), Wo w g s.heap v_99 H lo → ∀ (y99_2 : Int32) (y99_3 : Int32), (-4 ≤ y99_3.toInt ∧ y99_3.toInt ≤ 2147483646) → (0 ≤ a0.toInt ∧ a0.toInt ≤ 1) → (0 ≤ y18_4.toInt ∧ y18_4.toInt ≤ 2147483646) → (∀ k j : Nat, ¬ (k0 + 21 ≤ k ∧ k < k0 + 32) → v_99.1 k j = v.1 k j) → (J_99 y99_2 y99_3 v_99 = res) → ∀ (ls : Array Slot), lv_has ls 7 [(0, .ref (wq w k0)), (1, .int a0), (2, .int y99_2), (3, .int y99_3), (4, .int y18_4)] → W pg l en (rmL 7) s m ar bl me cd H lo 0 0 (Zi w bl ar s post) (F0 m 99 ls []) := by
        intro H lo v_99 I y99_2 y99_3 hy99_3 hE99_0 hE99_1 rB99_Z hF ls hl
        replace hF := ap3 eJ_99 hF
        obtain ⟨x1, ex1⟩ : ∃ z : Int32, z = y18_4 + 1 := ⟨_, rfl⟩
        replace hF := xl_i (ex1) hF
        have hx1 : x1.toInt = y18_4.toInt + (1) := by rw [ex1]; exact adI (a := y18_4.toInt) (b := 1) rfl rfl (by omega) (by omega)
        refine lv_iinc (v := x1) (lv' := [(4, .int x1), (0, .ref (wq w k0)), (1, .int a0), (2, .int y99_2), (3, .int y99_3)]) hx hb dX7_lessons_99 hl (k := 4) rfl (by rw [ex1]; rfl) (by decide) rfl (fun ls hl => ?_)
        refine lv_goto (tgt := 18) hx hb dX7_lessons_102 (by decide) ?_
        exact ih_18 _ _ v_99 I y99_2 y99_3 x1 (by omega) (by omega) (by omega) rB99_Z hF (by omega) ls (lv_sub hl [1, 2, 3, 4, 0] rfl)
      obtain ⟨J_56, eJ_56, hF⟩ := xl_e hF
      have B_56 : ∀ (H : Heap) (lo : List Loc) (v_56 : St), Wo w g s.heap v_56 H lo → ∀ (y56_5 : Int32) (z56_0 : Int32), (0 ≤ z56_0.toInt ∧ z56_0.toInt ≤ 1) → (0 ≤ a0.toInt ∧ a0.toInt ≤ 1) → (-4 ≤ y18_3.toInt ∧ y18_3.toInt ≤ 2147483646) → (0 ≤ y18_4.toInt ∧ y18_4.toInt ≤ 2147483646) → (∀ k j : Nat, ¬ (k0 + 21 ≤ k ∧ k < k0 + 32) → v_56.1 k j = v.1 k j) → (J_56 y56_5 z56_0 v_56 = res) → ∀ (ls : Array Slot), lv_has ls 7 [(0, .ref (wq w k0)), (1, .int a0), (2, .int y18_2), (3, .int y18_3), (4, .int y18_4), (5, .int y56_5)] → W pg l en (rmL 7) s m ar bl me cd H lo 0 0 (Zi w bl ar s post) (F0 m 56 ls [.int z56_0]) := by
        intro H lo v_56 I y56_5 z56_0 hz56_0 hE56_0 hE56_1 hE56_2 rB56_Z hF ls hl
        replace hF := ap3 eJ_56 hF
        refine lv_istore (lv' := [(6, .int z56_0), (0, .ref (wq w k0)), (1, .int a0), (2, .int y18_2), (3, .int y18_3), (4, .int y18_4), (5, .int y56_5)]) hx hb dX7_lessons_56 hl (by decide) rfl (fun ls hl => ?_)
        refine lv_iload hx hb dX7_lessons_58 (lv_at hl 5 rfl) ?_
        refine lv_aload_n hx hb dX7_lessons_60 rfl (lv_at hl 1 rfl) ?_
        refine g_StarWalk_now E I h_k0.1 mw_2_69 dX7_lessons_61 ?_
        refine g_Night_known E I h_k0.2.2.1.1 mw_1_88 dX7_lessons_64 ?_
        refine lv_topi (fun x2 ex2 => ?_)
        replace hF := xl_i (ex2) hF
        refine lv_iand hx hb dX7_lessons_67 ?_
        refine lv_topi (fun x3 ex3 => ?_)
        replace hF := xl_i (ex3) hF
        refine bz_ne E (a := x3.toInt) rfl (tgt := 99) dX7_lessons_68 (by decide) (fun c4 => ?_) (fun c4 => ?_)
        ·
          replace hF := if_f c4 hF
          exact B_99 _ _ v_56 I y18_2 y18_3 (by omega) (by omega) (by omega) rB56_Z hF ls (lv_sub hl [1, 2, 3, 4, 5] rfl)
        ·
          replace hF := if_t c4 hF
          refine lv_iload hx hb dX7_lessons_71 (lv_at hl 0 rfl) ?_
          refine bz_eq E (a := z56_0.toInt) rfl (tgt := 99) dX7_lessons_73 (by decide) (fun c5 => ?_) (fun c5 => ?_)
          ·
            replace hF := if_t c5 hF
            exact B_99 _ _ v_56 I y18_2 y18_3 (by omega) (by omega) (by omega) rB56_Z hF ls (lv_sub hl [1, 2, 3, 4, 5] rfl)
          ·
            replace hF := if_f c5 hF
            refine lv_aload_n hx hb dX7_lessons_76 rfl (lv_at hl 1 rfl) ?_
            refine lv_aload_n hx hb dX7_lessons_77 rfl (lv_at hl 1 rfl) ?_
            refine g_StarWalk_now E I h_k0.1 mw_2_69 dX7_lessons_78 ?_
            refine g_Night_known E I h_k0.2.2.1.1 mw_1_88 dX7_lessons_81 ?_
            refine lv_topi (fun x6 ex6 => ?_)
            replace hF := xl_i (ex6) hF
            refine lv_iload hx hb dX7_lessons_84 (lv_at hl 5 rfl) ?_
            refine lv_ior hx hb dX7_lessons_86 ?_
            refine lv_topi (fun x7 ex7 => ?_)
            replace hF := xl_i (ex7) hF
            refine cVi E I (c_X7_isOnTheWayKnowing l w g v_56 k0 x7 E.2.2.1 I.2.2 h_k0  ) (cwV 1 E.1.2.2.2.2 (gWs (C := "StarWalk") mw_4_23 mw_4_25 mw_s_22 mw_1_1 mw_4_26) rfl rfl rfl (by decide +kernel) ⟨by decide, by decide⟩) h_k0.1.1 ((ce_o h_k0.1.2).trans rfl) rfl rfl hl.1 rfl (Nat.le_of_ble_eq_true rfl) dX7_lessons_87 ⟨Nat.le_refl _, Nat.le_refl _⟩ (fun r8 u9 H lo hp hPS => ?_)
            obtain ⟨hp, hex, hfr⟩ := hp
            replace hF := xm_i hex hF
            obtain ⟨hwf, p10⟩ := hp
            have I : Wo w g s.heap u9 H lo := ⟨hPS.1, hPS.2, hwf⟩
            have rzu9 : ∀ k j : Nat, ¬ (k0 + 21 ≤ k ∧ k < k0 + 32) → u9.1 k j = v.1 k j := fun k j h => (hfr k j (fun z => h (by omega))).trans (rB56_Z k j h)
            refine bz_eq E (a := r8.toInt) rfl (tgt := 99) dX7_lessons_90 (by decide) (fun c11 => ?_) (fun c11 => ?_)
            ·
              replace hF := if_t c11 hF
              exact B_99 _ _ u9 I y18_2 y18_3 (by omega) (by omega) (by omega) rzu9 hF ls (lv_sub hl [1, 2, 3, 4, 5] rfl)
            ·
              replace hF := if_f c11 hF
              refine lv_iload hx hb dX7_lessons_93 (lv_at hl 6 rfl) ?_
              refine lv_istore_n (lv' := [(2, .int y56_5), (6, .int z56_0), (0, .ref (wq w k0)), (1, .int a0), (3, .int y18_3), (4, .int y18_4), (5, .int y56_5)]) hx hb dX7_lessons_95 rfl hl (by decide) rfl (fun ls hl => ?_)
              refine lv_iload hx hb dX7_lessons_96 (lv_at hl 5 rfl) ?_
              refine lv_istore_n (lv' := [(3, .int y18_4), (2, .int y56_5), (6, .int z56_0), (0, .ref (wq w k0)), (1, .int a0), (4, .int y18_4), (5, .int y56_5)]) hx hb dX7_lessons_98 rfl hl (by decide) rfl (fun ls hl => ?_)
              exact B_99 _ _ u9 I y56_5 y18_4 (by omega) (by omega) (by omega) rzu9 hF ls (lv_sub hl [3, 4, 1, 0, 5] rfl)
      obtain ⟨J_51, eJ_51, hF⟩ := xl_e hF
      have B_51 : ∀ (H : Heap) (lo : List Loc) (v_51 : St), Wo w g s.heap v_51 H lo → ∀ (y51_5 : Int32), (0 ≤ a0.toInt ∧ a0.toInt ≤ 1) → (-2147483647 ≤ y18_2.toInt) → (-4 ≤ y18_3.toInt ∧ y18_3.toInt ≤ 2147483646) → (0 ≤ y18_4.toInt ∧ y18_4.toInt ≤ 2147483646) → (∀ k j : Nat, ¬ (k0 + 21 ≤ k ∧ k < k0 + 32) → v_51.1 k j = v.1 k j) → (J_51 y51_5 v_51 = res) → ∀ (ls : Array Slot), lv_has ls 7 [(0, .ref (wq w k0)), (1, .int a0), (2, .int y18_2), (3, .int y18_3), (4, .int y18_4), (5, .int y51_5)] → W pg l en (rmL 7) s m ar bl me cd H lo 0 0 (Zi w bl ar s post) (F0 m 51 ls []) := by
        intro H lo v_51 I y51_5 hE51_0 hE51_1 hE51_2 hE51_3 rB51_Z hF ls hl
        replace hF := ap2 eJ_51 hF
        refine lv_iconst (v := 1) hx hb dX7_lessons_51 (by decide) ?_
        refine lv_goto (tgt := 56) hx hb dX7_lessons_52 (by decide) ?_
        exact B_56 _ _ v_51 I y51_5 (1 : Int32) (by decide) (by omega) (by omega) (by omega) rB51_Z hF ls (lv_sub hl [0, 1, 2, 3, 4, 5] rfl)
      refine lv_iload hx hb dX7_lessons_18 (lv_at hl 4 rfl) ?_
      refine lv_iconst (v := 1) hx hb dX7_lessons_20 (by decide) ?_
      refine lv_aload_n hx hb dX7_lessons_21 rfl (lv_at hl 0 rfl) ?_
      refine g_StarWalk_now E I h_k0.1 mw_2_69 dX7_lessons_22 ?_
      refine g_Night_stars E I h_k0.2.2.1.1 mw_1_85 dX7_lessons_25 ?_
      refine lv_topi (fun x12 ex12 => ?_)
      replace hF := xl_i (ex12) hF
      have hx12 := r_Night_stars I h_k0.2.2.1.1
      rw [← ex12] at hx12
      refine lv_ishl hx hb dX7_lessons_28 ?_
      refine lv_topi (fun x13 ex13 => ?_)
      replace hF := xl_i (ex13) hF
      refine bi_ge E (a := y18_4.toInt) (b := x13.toInt) rfl rfl (tgt := 105) dX7_lessons_29 (by decide) (fun c14 => ?_) (fun c14 => ?_)
      ·
        have rgy18_4 := i32_rng y18_4
        have rgx13 := i32_rng x13
        replace hF := if_l c14 hF
        refine lv_iload_n hx hb dX7_lessons_105 rfl (lv_at hl 1 rfl) ?_
        refine bz_ne E (a := a0.toInt) rfl (tgt := 113) dX7_lessons_106 (by decide) (fun c15 => ?_) (fun c15 => ?_)
        ·
          replace hF := if_f c15 hF
          refine lv_iload_n hx hb dX7_lessons_113 rfl (lv_at hl 3 rfl) ?_
          exact rI E I hr hlk rfl (by rw [← hpost]; exact ⟨⟨I.2.2, trivial⟩, hF.trans hres, rB18_Z⟩) dX7_lessons_114
        ·
          replace hF := if_t c15 hF
          refine lv_iload_n hx hb dX7_lessons_109 rfl (lv_at hl 2 rfl) ?_
          refine lv_goto (tgt := 114) hx hb dX7_lessons_110 (by decide) ?_
          exact rI E I hr hlk rfl (by rw [← hpost]; exact ⟨⟨I.2.2, trivial⟩, hF.trans hres, rB18_Z⟩) dX7_lessons_114
      ·
        have rgy18_4 := i32_rng y18_4
        have rgx13 := i32_rng x13
        replace hF := if_t c14 hF
        refine lv_iload hx hb dX7_lessons_32 (lv_at hl 4 rfl) ?_
        refine cSi E I (c_J6_bitCount_0f7a4 l w g v_18 y18_4 E.2.2.1 I.2.2   ) (va_cwS 1 E.1.2.2.2.2 (gSs mw_4_17 mw_4_18 mw_1_16 mw_4_19) rfl rfl rfl (by decide +kernel) ⟨by decide, by decide⟩) rfl hl.1 rfl (Nat.le_of_ble_eq_true rfl) dX7_lessons_34 ⟨Nat.le_refl _, Nat.le_refl _⟩ (fun r16 u17 H lo hp hPS => ?_)
        obtain ⟨hp, hex, hfr⟩ := hp
        replace hF := xl_i hex hF
        obtain ⟨hu, p18⟩ := hp
        rw [hu] at hPS
        have I : Wo w g s.heap v_18 H lo := ⟨hPS.1, hPS.2, I.2.2⟩
        refine lv_istore (lv' := [(5, .int r16), (0, .ref (wq w k0)), (1, .int a0), (2, .int y18_2), (3, .int y18_3), (4, .int y18_4)]) hx hb dX7_lessons_37 hl (by decide) rfl (fun ls hl => ?_)
        refine lv_iload_n hx hb dX7_lessons_39 rfl (lv_at hl 3 rfl) ?_
        refine lv_bipush (v := (-4)) hx hb dX7_lessons_40 (by decide) ?_
        refine bi_eq E (a := y18_2.toInt) (b := (-4)) rfl rfl (tgt := 51) dX7_lessons_42 (by decide) (fun c19 => ?_) (fun c19 => ?_)
        ·
          replace hF := if_t c19 hF
          exact B_51 _ _ v_18 I r16 (by omega) (by omega) (by omega) (by omega) rB18_Z hF ls (lv_sub hl [1, 2, 3, 4, 5, 0] rfl)
        ·
          replace hF := if_f c19 hF
          refine lv_iload hx hb dX7_lessons_45 (lv_at hl 0 rfl) ?_
          refine lv_iload_n hx hb dX7_lessons_47 rfl (lv_at hl 3 rfl) ?_
          refine bi_ge E (a := r16.toInt) (b := y18_2.toInt) rfl rfl (tgt := 55) dX7_lessons_48 (by decide) (fun c20 => ?_) (fun c20 => ?_)
          ·
            have rgr16 := i32_rng r16
            have rgy18_2 := i32_rng y18_2
            replace hF := if_l c20 hF
            refine lv_iconst (v := 0) hx hb dX7_lessons_55 (by decide) ?_
            exact B_56 _ _ v_18 I r16 (0 : Int32) (by decide) (by omega) (by omega) (by omega) rB18_Z hF ls (lv_sub hl [1, 2, 3, 4, 5, 0] rfl)
          ·
            have rgr16 := i32_rng r16
            have rgy18_2 := i32_rng y18_2
            replace hF := if_t c20 hF
            exact B_51 _ _ v_18 I r16 (by omega) (by omega) (by omega) (by omega) rB18_Z hF ls (lv_sub hl [1, 2, 3, 4, 5, 0] rfl)
  refine lv_iload_n hx hb dX7_lessons_0 rfl (lv_at hl 1 rfl) ?_
  refine cSi E I (c_X7_isZeroOrOne l w g v a0 E.2.2.1 I.2.2   ) (va_cwS 1 E.1.2.2.2.2 (gSs mw_4_9 mw_4_10 mw_1_1 mw_4_11) rfl rfl rfl (by decide +kernel) ⟨by decide, by decide⟩) rfl hl.1 rfl (Nat.le_of_ble_eq_true rfl) dX7_lessons_1 ⟨Nat.le_refl _, Nat.le_refl _⟩ (fun r21 u22 H lo hp hPS => ?_)
  obtain ⟨hp, hex, hfr⟩ := hp
  replace hF := xl_i hex hF
  obtain ⟨hu, p23⟩ := hp
  rw [hu] at hPS
  have I : Wo w g s.heap v H lo := ⟨hPS.1, hPS.2, I.2.2⟩
  refine bz_ne E (a := r21.toInt) rfl (tgt := 9) dX7_lessons_4 (by decide) (fun c24 => ?_) (fun c24 => ?_)
  ·
    replace hF := if_f c24 hF
    refine lv_bipush (v := (-4)) hx hb dX7_lessons_9 (by decide) ?_
    refine lv_istore_n (lv' := [(2, .int (-4)), (0, .ref (wq w k0)), (1, .int a0)]) hx hb dX7_lessons_11 rfl hl (by decide) rfl (fun ls hl => ?_)
    refine lv_bipush (v := (-4)) hx hb dX7_lessons_12 (by decide) ?_
    refine lv_istore_n (lv' := [(3, .int (-4)), (2, .int (-4)), (0, .ref (wq w k0)), (1, .int a0)]) hx hb dX7_lessons_14 rfl hl (by decide) rfl (fun ls hl => ?_)
    refine lv_iconst (v := 0) hx hb dX7_lessons_15 (by decide) ?_
    refine lv_istore (lv' := [(4, .int 0), (3, .int (-4)), (2, .int (-4)), (0, .ref (wq w k0)), (1, .int a0)]) hx hb dX7_lessons_16 hl (by decide) rfl (fun ls hl => ?_)
    exact L_18 ((2147483647 - (0 : Int32).toInt).toNat + 1) _ _ v I (-4 : Int32) (-4 : Int32) (0 : Int32) (by decide) (by decide) (by omega) rz0 hF (Nat.lt_succ_self _) ls (lv_sub hl [3, 4, 2, 1, 0] rfl)
  ·
    replace hF := if_t c24 hF
    refine lv_iconst (v := (-1)) hx hb dX7_lessons_7 (by decide) ?_
    exact rI E I hr hlk rfl (by rw [← hpost]; exact ⟨⟨I.2.2, trivial⟩, hF.trans hres, rz0⟩) dX7_lessons_8
def F_X7_thirst (k0 : Nat) (v : St) : Int32 × St :=
xl (fun (self_2 : Int32 → St → Int32 × St) (y2_1 : Int32) (v_2 : St) =>
if 40 < y2_1.toInt then (
((-4 : Int32), v_2)) else (
xl (F_X6_begin (k0 + 21) (k0 + 12) v_2) fun u2 =>
xl (up1 u2 (k0 + 21 + 1 + 5) 3 y2_1) fun v4 =>
xl (F_X6_walkPlan (k0 + 21) v4) fun u5 =>
xl (u5.1 (k0 + 21) 3) fun x7 =>
if x7.toInt = (-4) then (
(y2_1, u5)) else (
xl (y2_1 + 1) fun x9 =>
(self_2 x9 u5)))) fun P_2 =>
(lp P_2 (fun _ _ => ((0 : Int32), v)) ((2147483647 - (0 : Int32).toInt).toNat + 1) (0 : Int32) v)
set_option maxHeartbeats 4000000 in
set_option maxRecDepth 100000 in
theorem c_X7_thirst (l : Launch) (w : Wp) (g : Nat → Nat → Int32) (v : St) (k0 : Nat) (hq : Inj w) (hw : WF (wk w) g v) (h_k0 : oW w k0) : CTi w l yX7_thirst (wsy yX7_thirst prog_1_method_27_code 2 (some .int)) (rmL 6) [.ref (wq w k0)] v (fun (r : Int32) (u : St) => (WF (wk w) g u ∧ True) ∧ ((r, u) = F_X7_thirst k0 v) ∧ (∀ k j : Nat, ¬ (k0 + 21 ≤ k ∧ k < k0 + 32) → u.1 k j = v.1 k j)) := by
  generalize hpost : (fun (r : Int32) (u : St) => (WF (wk w) g u ∧ True) ∧ ((r, u) = F_X7_thirst k0 v) ∧ (∀ k j : Nat, ¬ (k0 + 21 ≤ k ∧ k < k0 + 32) → u.1 k j = v.1 k j)) = post
  refine CTi.of prog_1_method_27_code 2 (some .int) "StarWalk" (by decide +kernel) rfl hq hw (Nat.le_of_ble_eq_true rfl) ?_
  intro pg en s m ar bl me cd ls E I hr hlk hl
  have hx := E.1.1
  have hb := E.1.2.1
  have hl : lv_has ls 2 [(0, .ref (wq w k0))] := hl
  obtain ⟨res, hres⟩ : ∃ z, z = F_X7_thirst k0 v := ⟨_, rfl⟩
  have hF := hres.symm
  unfold F_X7_thirst at hF
  replace hres : res = F_X7_thirst k0 v := hres
  have rz0 : ∀ k j : Nat, ¬ (k0 + 21 ≤ k ∧ k < k0 + 32) → v.1 k j = v.1 k j := fun _ _ _ => rfl
  obtain ⟨P_2, eP_2, hF⟩ := xl_e hF
  have L_2 : ∀ (n : Nat), ∀ (H : Heap) (lo : List Loc) (v_2 : St), Wo w g s.heap v_2 H lo → ∀ (y2_1 : Int32), (0 ≤ y2_1.toInt ∧ y2_1.toInt ≤ 41) → (∀ k j : Nat, ¬ (k0 + 21 ≤ k ∧ k < k0 + 32) → v_2.1 k j = v.1 k j) → (lp P_2 (fun _ _ => ((0 : Int32), v)) n y2_1 v_2 = res) → (2147483647 - y2_1.toInt).toNat < n → ∀ (ls : Array Slot), lv_has ls 2 [(0, .ref (wq w k0)), (1, .int y2_1)] → W pg l en (rmL 6) s m ar bl me cd H lo 0 0 (Zi w bl ar s post) (F0 m 2 ls []) := by
    intro n
    induction n with
    | zero => intro H lo v_2 I y2_1 hy2_1 rB2_Z hF hm; exact absurd hm (Nat.not_lt_zero _)
    | succ n ih_2 =>
      intro H lo v_2 I y2_1 hy2_1 rB2_Z hF hm ls hl
      replace hF := lpa2 eP_2 hF
      refine lv_iload_n hx hb dX7_thirst_2 rfl (lv_at hl 1 rfl) ?_
      refine lv_bipush (v := 40) hx hb dX7_thirst_3 (by decide) ?_
      refine bi_gt E (a := y2_1.toInt) (b := 40) rfl rfl (tgt := 60) dX7_thirst_5 (by decide) (fun c1 => ?_) (fun c1 => ?_)
      ·
        replace hF := if_t c1 hF
        refine lv_bipush (v := (-4)) hx hb dX7_thirst_60 (by decide) ?_
        exact rI E I hr hlk rfl (by rw [← hpost]; exact ⟨⟨I.2.2, trivial⟩, hF.trans hres, rB2_Z⟩) dX7_thirst_62
      ·
        replace hF := if_l c1 hF
        refine lv_aload_n hx hb dX7_thirst_8 rfl (lv_at hl 0 rfl) ?_
        refine g_StarWalk_trial E I h_k0.1 mw_2_70 dX7_thirst_9 ?_
        refine lv_aload_n hx hb dX7_thirst_12 rfl (lv_at hl 0 rfl) ?_
        refine g_StarWalk_now E I h_k0.1 mw_2_69 dX7_thirst_13 ?_
        refine cVv E I (c_X6_begin l w g v_2 (k0 + 21) (k0 + 12) E.2.2.1 I.2.2 h_k0.2.2.2.1 h_k0.2.2.1  ) (cwV 1 E.1.2.2.2.2 (gWs (C := "StarWalk$Trial") mw_3_201 mw_3_202 mw_3_203 mw_1_5 mw_3_204) rfl rfl rfl (by decide +kernel) ⟨by decide, by decide⟩) h_k0.2.2.2.1.1.1 ((ce_o h_k0.2.2.2.1.1.2).trans rfl) rfl rfl hl.1 rfl (Nat.le_of_ble_eq_true rfl) dX7_thirst_16 ⟨Nat.le_refl _, Nat.le_refl _⟩ (fun u2 H lo hp hPS => ?_)
        obtain ⟨hp, hex, hfr⟩ := hp
        replace hF := xl_i hex hF
        obtain ⟨hwf, p3⟩ := hp
        have I : Wo w g s.heap u2 H lo := ⟨hPS.1, hPS.2, hwf⟩
        have rzu2 : ∀ k j : Nat, ¬ (k0 + 21 ≤ k ∧ k < k0 + 32) → u2.1 k j = v.1 k j := fun k j h => (hfr k j (fun z => h (by omega))).trans (rB2_Z k j h)
        refine lv_aload_n hx hb dX7_thirst_19 rfl (lv_at hl 0 rfl) ?_
        refine g_StarWalk_trial E I h_k0.1 mw_2_70 dX7_thirst_20 ?_
        refine g_Trial_night E I h_k0.2.2.2.1.1 mw_1_215 dX7_thirst_23 ?_
        refine g_Night_place E I h_k0.2.2.2.1.2.1.1 mw_1_113 dX7_thirst_26 ?_
        refine lv_iload_n hx hb dX7_thirst_29 rfl (lv_at hl 1 rfl) ?_
        refine p_Place_water E I h_k0.2.2.2.1.2.1.2.2.2.2.2.1 mw_1_60 dX7_thirst_30 (fun H lo I => ?_)
        generalize ev4 : up1 u2 (k0 + 21 + 1 + 5) 3 y2_1 = v4 at I
        replace hF := xl_i (ev4.symm) hF
        have rzv4 : ∀ k j : Nat, ¬ (k0 + 21 ≤ k ∧ k < k0 + 32) → v4.1 k j = v.1 k j := fun k j h => fz_u ev4 (by omega) (rzu2 k j h)
        refine lv_aload_n hx hb dX7_thirst_33 rfl (lv_at hl 0 rfl) ?_
        refine g_StarWalk_trial E I h_k0.1 mw_2_70 dX7_thirst_34 ?_
        refine cVv E I (c_X6_walkPlan l w g v4 (k0 + 21) E.2.2.1 I.2.2 h_k0.2.2.2.1  ) (cwV 0 E.1.2.2.2.2 (gWs (C := "StarWalk$Trial") mw_3_206 mw_3_207 mw_3_208 mw_1_5 mw_3_209) rfl rfl rfl (by decide +kernel) ⟨by decide, by decide⟩) h_k0.2.2.2.1.1.1 ((ce_o h_k0.2.2.2.1.1.2).trans rfl) rfl rfl hl.1 rfl (Nat.le_of_ble_eq_true rfl) dX7_thirst_37 ⟨Nat.le_refl _, Nat.le_refl _⟩ (fun u5 H lo hp hPS => ?_)
        obtain ⟨hp, hex, hfr⟩ := hp
        replace hF := xl_i hex hF
        obtain ⟨hwf, p6⟩ := hp
        have I : Wo w g s.heap u5 H lo := ⟨hPS.1, hPS.2, hwf⟩
        have rzu5 : ∀ k j : Nat, ¬ (k0 + 21 ≤ k ∧ k < k0 + 32) → u5.1 k j = v.1 k j := fun k j h => (hfr k j (fun z => h (by omega))).trans (rzv4 k j h)
        refine lv_aload_n hx hb dX7_thirst_40 rfl (lv_at hl 0 rfl) ?_
        refine g_StarWalk_trial E I h_k0.1 mw_2_70 dX7_thirst_41 ?_
        refine g_Trial_firstRefused E I h_k0.2.2.2.1.1 mw_1_220 dX7_thirst_44 ?_
        refine lv_topi (fun x7 ex7 => ?_)
        replace hF := xl_i (ex7) hF
        refine lv_bipush (v := (-4)) hx hb dX7_thirst_47 (by decide) ?_
        refine bi_ne E (a := x7.toInt) (b := (-4)) rfl rfl (tgt := 54) dX7_thirst_49 (by decide) (fun c8 => ?_) (fun c8 => ?_)
        ·
          replace hF := if_f c8 hF
          obtain ⟨x9, ex9⟩ : ∃ z : Int32, z = y2_1 + 1 := ⟨_, rfl⟩
          replace hF := xl_i (ex9) hF
          have hx9 : x9.toInt = y2_1.toInt + (1) := by rw [ex9]; exact adI (a := y2_1.toInt) (b := 1) rfl rfl (by omega) (by omega)
          refine lv_iinc (v := x9) (lv' := [(1, .int x9), (0, .ref (wq w k0))]) hx hb dX7_thirst_54 hl (k := 1) rfl (by rw [ex9]; rfl) (by decide) rfl (fun ls hl => ?_)
          refine lv_goto (tgt := 2) hx hb dX7_thirst_57 (by decide) ?_
          exact ih_2 _ _ u5 I x9 (by omega) rzu5 hF (by omega) ls (lv_sub hl [1, 0] rfl)
        ·
          replace hF := if_t c8 hF
          refine lv_iload_n hx hb dX7_thirst_52 rfl (lv_at hl 1 rfl) ?_
          exact rI E I hr hlk rfl (by rw [← hpost]; exact ⟨⟨I.2.2, trivial⟩, hF.trans hres, rzu5⟩) dX7_thirst_53
  refine lv_iconst (v := 0) hx hb dX7_thirst_0 (by decide) ?_
  refine lv_istore_n (lv' := [(1, .int 0), (0, .ref (wq w k0))]) hx hb dX7_thirst_1 rfl hl (by decide) rfl (fun ls hl => ?_)
  exact L_2 ((2147483647 - (0 : Int32).toInt).toNat + 1) _ _ v I (0 : Int32) (by decide) rz0 hF (Nat.lt_succ_self _) ls (lv_sub hl [1, 0] rfl)
def F_X7_isAtWellUnder (k0 : Nat) (a0 : Int32) (v : St) : Int32 × St :=
xl (F_X6_begin (k0 + 21) (k0 + 12) v) fun u1 =>
xl (up1 u1 (k0 + 21 + 1) 11 a0) fun v3 =>
xl (F_X6_walkPlan (k0 + 21) v3) fun u4 =>
xl (F_X0_isAtWell (k0 + 21 + 1) (k0 + 21 + 1 + 5) u4) fun r6 =>
(r6, u4)
set_option maxHeartbeats 4000000 in
set_option maxRecDepth 100000 in
theorem c_X7_isAtWellUnder (l : Launch) (w : Wp) (g : Nat → Nat → Int32) (v : St) (k0 : Nat) (a0 : Int32) (hq : Inj w) (hw : WF (wk w) g v) (h_k0 : oW w k0) : CTi w l yX7_isAtWellUnder (wsy yX7_isAtWellUnder prog_1_method_29_code 2 (some .boolean)) (rmL 6) [.ref (wq w k0), .int a0] v (fun (r : Int32) (u : St) => (WF (wk w) g u ∧ 0 ≤ r.toInt ∧ r.toInt ≤ 1) ∧ ((r, u) = F_X7_isAtWellUnder k0 a0 v) ∧ (∀ k j : Nat, ¬ (k0 + 21 ≤ k ∧ k < k0 + 32) → u.1 k j = v.1 k j)) := by
  generalize hpost : (fun (r : Int32) (u : St) => (WF (wk w) g u ∧ 0 ≤ r.toInt ∧ r.toInt ≤ 1) ∧ ((r, u) = F_X7_isAtWellUnder k0 a0 v) ∧ (∀ k j : Nat, ¬ (k0 + 21 ≤ k ∧ k < k0 + 32) → u.1 k j = v.1 k j)) = post
  refine CTi.of prog_1_method_29_code 2 (some .boolean) "StarWalk" (by decide +kernel) rfl hq hw (Nat.le_of_ble_eq_true rfl) ?_
  intro pg en s m ar bl me cd ls E I hr hlk hl
  have hx := E.1.1
  have hb := E.1.2.1
  have hl : lv_has ls 2 [(0, .ref (wq w k0)), (1, .int a0)] := hl
  obtain ⟨res, hres⟩ : ∃ z, z = F_X7_isAtWellUnder k0 a0 v := ⟨_, rfl⟩
  have hF := hres.symm
  unfold F_X7_isAtWellUnder at hF
  replace hres : res = F_X7_isAtWellUnder k0 a0 v := hres
  have rz0 : ∀ k j : Nat, ¬ (k0 + 21 ≤ k ∧ k < k0 + 32) → v.1 k j = v.1 k j := fun _ _ _ => rfl
  refine lv_aload_n hx hb dX7_isAtWellUnder_0 rfl (lv_at hl 0 rfl) ?_
  refine g_StarWalk_trial E I h_k0.1 mw_2_70 dX7_isAtWellUnder_1 ?_
  refine lv_aload_n hx hb dX7_isAtWellUnder_4 rfl (lv_at hl 0 rfl) ?_
  refine g_StarWalk_now E I h_k0.1 mw_2_69 dX7_isAtWellUnder_5 ?_
  refine cVv E I (c_X6_begin l w g v (k0 + 21) (k0 + 12) E.2.2.1 I.2.2 h_k0.2.2.2.1 h_k0.2.2.1  ) (cwV 1 E.1.2.2.2.2 (gWs (C := "StarWalk$Trial") mw_3_201 mw_3_202 mw_3_203 mw_1_5 mw_3_204) rfl rfl rfl (by decide +kernel) ⟨by decide, by decide⟩) h_k0.2.2.2.1.1.1 ((ce_o h_k0.2.2.2.1.1.2).trans rfl) rfl rfl hl.1 rfl (Nat.le_of_ble_eq_true rfl) dX7_isAtWellUnder_8 ⟨Nat.le_refl _, Nat.le_refl _⟩ (fun u1 H lo hp hPS => ?_)
  obtain ⟨hp, hex, hfr⟩ := hp
  replace hF := xl_i hex hF
  obtain ⟨hwf, p2⟩ := hp
  have I : Wo w g s.heap u1 H lo := ⟨hPS.1, hPS.2, hwf⟩
  have rzu1 : ∀ k j : Nat, ¬ (k0 + 21 ≤ k ∧ k < k0 + 32) → u1.1 k j = v.1 k j := fun k j h => (hfr k j (fun z => h (by omega))).trans (rz0 k j h)
  refine lv_aload_n hx hb dX7_isAtWellUnder_11 rfl (lv_at hl 0 rfl) ?_
  refine g_StarWalk_trial E I h_k0.1 mw_2_70 dX7_isAtWellUnder_12 ?_
  refine g_Trial_night E I h_k0.2.2.2.1.1 mw_1_215 dX7_isAtWellUnder_15 ?_
  refine lv_iload_n hx hb dX7_isAtWellUnder_18 rfl (lv_at hl 1 rfl) ?_
  refine p_Night_clouds E I h_k0.2.2.2.1.2.1.1 mw_1_107 dX7_isAtWellUnder_19 (fun H lo I => ?_)
  generalize ev3 : up1 u1 (k0 + 21 + 1) 11 a0 = v3 at I
  replace hF := xl_i (ev3.symm) hF
  have rzv3 : ∀ k j : Nat, ¬ (k0 + 21 ≤ k ∧ k < k0 + 32) → v3.1 k j = v.1 k j := fun k j h => fz_u ev3 (by omega) (rzu1 k j h)
  refine lv_aload_n hx hb dX7_isAtWellUnder_22 rfl (lv_at hl 0 rfl) ?_
  refine g_StarWalk_trial E I h_k0.1 mw_2_70 dX7_isAtWellUnder_23 ?_
  refine cVv E I (c_X6_walkPlan l w g v3 (k0 + 21) E.2.2.1 I.2.2 h_k0.2.2.2.1  ) (cwV 0 E.1.2.2.2.2 (gWs (C := "StarWalk$Trial") mw_3_206 mw_3_207 mw_3_208 mw_1_5 mw_3_209) rfl rfl rfl (by decide +kernel) ⟨by decide, by decide⟩) h_k0.2.2.2.1.1.1 ((ce_o h_k0.2.2.2.1.1.2).trans rfl) rfl rfl hl.1 rfl (Nat.le_of_ble_eq_true rfl) dX7_isAtWellUnder_26 ⟨Nat.le_refl _, Nat.le_refl _⟩ (fun u4 H lo hp hPS => ?_)
  obtain ⟨hp, hex, hfr⟩ := hp
  replace hF := xl_i hex hF
  obtain ⟨hwf, p5⟩ := hp
  have I : Wo w g s.heap u4 H lo := ⟨hPS.1, hPS.2, hwf⟩
  have rzu4 : ∀ k j : Nat, ¬ (k0 + 21 ≤ k ∧ k < k0 + 32) → u4.1 k j = v.1 k j := fun k j h => (hfr k j (fun z => h (by omega))).trans (rzv3 k j h)
  refine lv_aload_n hx hb dX7_isAtWellUnder_29 rfl (lv_at hl 0 rfl) ?_
  refine g_StarWalk_trial E I h_k0.1 mw_2_70 dX7_isAtWellUnder_30 ?_
  refine g_Trial_night E I h_k0.2.2.2.1.1 mw_1_215 dX7_isAtWellUnder_33 ?_
  refine lv_aload_n hx hb dX7_isAtWellUnder_36 rfl (lv_at hl 0 rfl) ?_
  refine g_StarWalk_trial E I h_k0.1 mw_2_70 dX7_isAtWellUnder_37 ?_
  refine g_Trial_night E I h_k0.2.2.2.1.1 mw_1_215 dX7_isAtWellUnder_40 ?_
  refine g_Night_place E I h_k0.2.2.2.1.2.1.1 mw_1_113 dX7_isAtWellUnder_43 ?_
  refine cVi E I (c_X0_isAtWell l w g u4 (k0 + 21 + 1) (k0 + 21 + 1 + 5) E.2.2.1 I.2.2 h_k0.2.2.2.1.2.1 h_k0.2.2.2.1.2.1.2.2.2.2.2.1  ) (cwV 1 E.1.2.2.2.2 (gWs (C := "StarWalk$Night") mw_3_75 mw_3_76 mw_3_77 mw_1_3 mw_3_78) rfl rfl rfl (by decide +kernel) ⟨by decide, by decide⟩) h_k0.2.2.2.1.2.1.1.1 ((ce_o h_k0.2.2.2.1.2.1.1.2).trans rfl) rfl rfl hl.1 rfl (Nat.le_of_ble_eq_true rfl) dX7_isAtWellUnder_46 ⟨Nat.le_refl _, Nat.le_refl _⟩ (fun r6 u7 H lo hp hPS => ?_)
  obtain ⟨hp, hex, hfr⟩ := hp
  replace hF := xl_i hex hF
  obtain ⟨hu, p8⟩ := hp
  rw [hu] at hPS
  have I : Wo w g s.heap u4 H lo := ⟨hPS.1, hPS.2, I.2.2⟩
  exact rI E I hr hlk (nbI (by omega)) (by rw [← hpost]; exact ⟨⟨I.2.2, by omega⟩, hF.trans hres, rzu4⟩) dX7_isAtWellUnder_49
def F_X7_weather (k0 : Nat) (v : St) : Int32 × St :=
xl (fun (self_20 : Int32 → Int32 → St → Int32 × St) (y20_1 : Int32) (y20_2 : Int32) (v_20 : St) =>
if y20_2.toInt < 10 then (
xl (v_20.1 (k0 + 12) 11) fun x2 =>
xl ((1 : Int32) <<< (y20_2 &&& 31)) fun x3 =>
xl (x2 ^^^ x3) fun x4 =>
xm (F_X7_isAtWellUnder k0 x4 v_20) fun r5 u6 =>
xl (F_X7_withBit y20_1 y20_2 r5 u6) fun r8 =>
xl (y20_2 + 1) fun x11 =>
(self_20 r8 x11 u6)) else (
(y20_1, v_20))) fun P_20 =>
xl (v.1 (k0 + 12) 11) fun x12 =>
xm (F_X7_isAtWellUnder k0 x12 v) fun r13 u14 =>
if r13.toInt = 0 then (
(lp P_20 (fun _ _ _ => ((0 : Int32), v)) ((2147483647 - (0 : Int32).toInt).toNat + 1) (0 : Int32) (0 : Int32) u14)) else (
((0 : Int32), u14))
set_option maxHeartbeats 4000000 in
set_option maxRecDepth 100000 in
theorem c_X7_weather (l : Launch) (w : Wp) (g : Nat → Nat → Int32) (v : St) (k0 : Nat) (hq : Inj w) (hw : WF (wk w) g v) (h_k0 : oW w k0) : CTi w l yX7_weather (wsy yX7_weather prog_1_method_28_code 3 (some .int)) (rmL 7) [.ref (wq w k0)] v (fun (r : Int32) (u : St) => (WF (wk w) g u ∧ True) ∧ ((r, u) = F_X7_weather k0 v) ∧ (∀ k j : Nat, ¬ (k0 + 21 ≤ k ∧ k < k0 + 32) → u.1 k j = v.1 k j)) := by
  generalize hpost : (fun (r : Int32) (u : St) => (WF (wk w) g u ∧ True) ∧ ((r, u) = F_X7_weather k0 v) ∧ (∀ k j : Nat, ¬ (k0 + 21 ≤ k ∧ k < k0 + 32) → u.1 k j = v.1 k j)) = post
  refine CTi.of prog_1_method_28_code 3 (some .int) "StarWalk" (by decide +kernel) rfl hq hw (Nat.le_of_ble_eq_true rfl) ?_
  intro pg en s m ar bl me cd ls E I hr hlk hl
  have hx := E.1.1
  have hb := E.1.2.1
  have hl : lv_has ls 3 [(0, .ref (wq w k0))] := hl
  obtain ⟨res, hres⟩ : ∃ z, z = F_X7_weather k0 v := ⟨_, rfl⟩
  have hF := hres.symm
  unfold F_X7_weather at hF
  replace hres : res = F_X7_weather k0 v := hres
  have rz0 : ∀ k j : Nat, ¬ (k0 + 21 ≤ k ∧ k < k0 + 32) → v.1 k j = v.1 k j := fun _ _ _ => rfl
  obtain ⟨P_20, eP_20, hF⟩ := xl_e hF
  have L_20 : ∀ (n : Nat), ∀ (H : Heap) (lo : List Loc) (v_20 : St), Wo w g s.heap v_20 H lo → ∀ (y20_1 : Int32) (y20_2 : Int32), (0 ≤ y20_2.toInt ∧ y20_2.toInt ≤ 10) → (∀ k j : Nat, ¬ (k0 + 21 ≤ k ∧ k < k0 + 32) → v_20.1 k j = v.1 k j) → (lp P_20 (fun _ _ _ => ((0 : Int32), v)) n y20_1 y20_2 v_20 = res) → (2147483647 - y20_2.toInt).toNat < n → ∀ (ls : Array Slot), lv_has ls 3 [(0, .ref (wq w k0)), (1, .int y20_1), (2, .int y20_2)] → W pg l en (rmL 7) s m ar bl me cd H lo 0 0 (Zi w bl ar s post) (F0 m 20 ls []) := by
    intro n
    induction n with
    | zero => intro H lo v_20 I y20_1 y20_2 hy20_2 rB20_Z hF hm; exact absurd hm (Nat.not_lt_zero _)
    | succ n ih_20 =>
      intro H lo v_20 I y20_1 y20_2 hy20_2 rB20_Z hF hm ls hl
      replace hF := lpa3 eP_20 hF
      refine lv_iload_n hx hb dX7_weather_20 rfl (lv_at hl 2 rfl) ?_
      refine lv_bipush (v := 10) hx hb dX7_weather_21 (by decide) ?_
      refine bi_ge E (a := y20_2.toInt) (b := 10) rfl rfl (tgt := 53) dX7_weather_23 (by decide) (fun c1 => ?_) (fun c1 => ?_)
      ·
        replace hF := if_l c1 hF
        refine lv_iload_n hx hb dX7_weather_53 rfl (lv_at hl 1 rfl) ?_
        exact rI E I hr hlk rfl (by rw [← hpost]; exact ⟨⟨I.2.2, trivial⟩, hF.trans hres, rB20_Z⟩) dX7_weather_54
      ·
        replace hF := if_t c1 hF
        refine lv_iload_n hx hb dX7_weather_26 rfl (lv_at hl 1 rfl) ?_
        refine lv_iload_n hx hb dX7_weather_27 rfl (lv_at hl 2 rfl) ?_
        refine lv_aload_n hx hb dX7_weather_28 rfl (lv_at hl 0 rfl) ?_
        refine lv_aload_n hx hb dX7_weather_29 rfl (lv_at hl 0 rfl) ?_
        refine g_StarWalk_now E I h_k0.1 mw_2_69 dX7_weather_30 ?_
        refine g_Night_clouds E I h_k0.2.2.1.1 mw_1_107 dX7_weather_33 ?_
        refine lv_topi (fun x2 ex2 => ?_)
        replace hF := xl_i (ex2) hF
        refine lv_iconst (v := 1) hx hb dX7_weather_36 (by decide) ?_
        refine lv_iload_n hx hb dX7_weather_37 rfl (lv_at hl 2 rfl) ?_
        refine lv_ishl hx hb dX7_weather_38 ?_
        refine lv_topi (fun x3 ex3 => ?_)
        replace hF := xl_i (ex3) hF
        refine lv_ixor hx hb dX7_weather_39 ?_
        refine lv_topi (fun x4 ex4 => ?_)
        replace hF := xl_i (ex4) hF
        refine cVi E I (c_X7_isAtWellUnder l w g v_20 k0 x4 E.2.2.1 I.2.2 h_k0  ) (cwV 1 E.1.2.2.2.2 (gWs (C := "StarWalk") mw_4_36 mw_4_38 mw_s_23 mw_1_1 mw_4_39) rfl rfl rfl (by decide +kernel) ⟨by decide, by decide⟩) h_k0.1.1 ((ce_o h_k0.1.2).trans rfl) rfl rfl hl.1 rfl (Nat.le_of_ble_eq_true rfl) dX7_weather_40 ⟨Nat.le_refl _, Nat.le_refl _⟩ (fun r5 u6 H lo hp hPS => ?_)
        obtain ⟨hp, hex, hfr⟩ := hp
        replace hF := xm_i hex hF
        obtain ⟨hwf, p7⟩ := hp
        have I : Wo w g s.heap u6 H lo := ⟨hPS.1, hPS.2, hwf⟩
        have rzu6 : ∀ k j : Nat, ¬ (k0 + 21 ≤ k ∧ k < k0 + 32) → u6.1 k j = v.1 k j := fun k j h => (hfr k j (fun z => h (by omega))).trans (rB20_Z k j h)
        refine cSi E I (c_X7_withBit l w g u6 y20_1 y20_2 r5 E.2.2.1 I.2.2   ) (va_cwS 3 E.1.2.2.2.2 (gSs mw_3_125 mw_2_229 mw_1_1 mw_2_230) rfl rfl rfl (by decide +kernel) ⟨by decide, by decide⟩) rfl hl.1 rfl (Nat.le_of_ble_eq_true rfl) dX7_weather_43 ⟨Nat.le_refl _, Nat.le_refl _⟩ (fun r8 u9 H lo hp hPS => ?_)
        obtain ⟨hp, hex, hfr⟩ := hp
        replace hF := xl_i hex hF
        obtain ⟨hu, p10⟩ := hp
        rw [hu] at hPS
        have I : Wo w g s.heap u6 H lo := ⟨hPS.1, hPS.2, I.2.2⟩
        refine lv_istore_n (lv' := [(1, .int r8), (0, .ref (wq w k0)), (2, .int y20_2)]) hx hb dX7_weather_46 rfl hl (by decide) rfl (fun ls hl => ?_)
        obtain ⟨x11, ex11⟩ : ∃ z : Int32, z = y20_2 + 1 := ⟨_, rfl⟩
        replace hF := xl_i (ex11) hF
        have hx11 : x11.toInt = y20_2.toInt + (1) := by rw [ex11]; exact adI (a := y20_2.toInt) (b := 1) rfl rfl (by omega) (by omega)
        refine lv_iinc (v := x11) (lv' := [(2, .int x11), (1, .int r8), (0, .ref (wq w k0))]) hx hb dX7_weather_47 hl (k := 2) rfl (by rw [ex11]; rfl) (by decide) rfl (fun ls hl => ?_)
        refine lv_goto (tgt := 20) hx hb dX7_weather_50 (by decide) ?_
        exact ih_20 _ _ u6 I r8 x11 (by omega) rzu6 hF (by omega) ls (lv_sub hl [2, 1, 0] rfl)
  refine lv_aload_n hx hb dX7_weather_0 rfl (lv_at hl 0 rfl) ?_
  refine lv_aload_n hx hb dX7_weather_1 rfl (lv_at hl 0 rfl) ?_
  refine g_StarWalk_now E I h_k0.1 mw_2_69 dX7_weather_2 ?_
  refine g_Night_clouds E I h_k0.2.2.1.1 mw_1_107 dX7_weather_5 ?_
  refine lv_topi (fun x12 ex12 => ?_)
  replace hF := xl_i (ex12) hF
  refine cVi E I (c_X7_isAtWellUnder l w g v k0 x12 E.2.2.1 I.2.2 h_k0  ) (cwV 1 E.1.2.2.2.2 (gWs (C := "StarWalk") mw_4_36 mw_4_38 mw_s_23 mw_1_1 mw_4_39) rfl rfl rfl (by decide +kernel) ⟨by decide, by decide⟩) h_k0.1.1 ((ce_o h_k0.1.2).trans rfl) rfl rfl hl.1 rfl (Nat.le_of_ble_eq_true rfl) dX7_weather_8 ⟨Nat.le_refl _, Nat.le_refl _⟩ (fun r13 u14 H lo hp hPS => ?_)
  obtain ⟨hp, hex, hfr⟩ := hp
  replace hF := xm_i hex hF
  obtain ⟨hwf, p15⟩ := hp
  have I : Wo w g s.heap u14 H lo := ⟨hPS.1, hPS.2, hwf⟩
  have rzu14 : ∀ k j : Nat, ¬ (k0 + 21 ≤ k ∧ k < k0 + 32) → u14.1 k j = v.1 k j := fun k j h => (hfr k j (fun z => h (by omega))).trans (rz0 k j h)
  refine bz_eq E (a := r13.toInt) rfl (tgt := 16) dX7_weather_11 (by decide) (fun c16 => ?_) (fun c16 => ?_)
  ·
    replace hF := if_t c16 hF
    refine lv_iconst (v := 0) hx hb dX7_weather_16 (by decide) ?_
    refine lv_istore_n (lv' := [(1, .int 0), (0, .ref (wq w k0))]) hx hb dX7_weather_17 rfl hl (by decide) rfl (fun ls hl => ?_)
    refine lv_iconst (v := 0) hx hb dX7_weather_18 (by decide) ?_
    refine lv_istore_n (lv' := [(2, .int 0), (1, .int 0), (0, .ref (wq w k0))]) hx hb dX7_weather_19 rfl hl (by decide) rfl (fun ls hl => ?_)
    exact L_20 ((2147483647 - (0 : Int32).toInt).toNat + 1) _ _ u14 I (0 : Int32) (0 : Int32) (by decide) rzu14 hF (Nat.lt_succ_self _) ls (lv_sub hl [2, 1, 0] rfl)
  ·
    replace hF := if_f c16 hF
    refine lv_iconst (v := 0) hx hb dX7_weather_14 (by decide) ?_
    exact rI E I hr hlk rfl (by rw [← hpost]; exact ⟨⟨I.2.2, trivial⟩, hF.trans hres, rzu14⟩) dX7_weather_15
set_option maxHeartbeats 4000000 in
set_option maxRecDepth 100000 in
theorem c_X7_luck (l : Launch) (w : Wp) (g : Nat → Nat → Int32) (v : St) (k0 : Nat) (a0 : Int32) (a1 : Int32) (hq : Inj w) (hw : WF (wk w) g v) (h_k0 : oW w k0) : CTl w l yX7_luck (wsy yX7_luck prog_1_method_30_code 3 (some .long)) (rmL 15) [.ref (wq w k0), .int a0, .int a1] v (fun (r : Int64) (u : St) => (WF (wk w) g u ∧ True) ∧ (True) ∧ (∀ k j : Nat, ¬ (k0 + 41 ≤ k ∧ k < k0 + 61) → u.1 k j = v.1 k j)) := by
  generalize hpost : (fun (r : Int64) (u : St) => (WF (wk w) g u ∧ True) ∧ (True) ∧ (∀ k j : Nat, ¬ (k0 + 41 ≤ k ∧ k < k0 + 61) → u.1 k j = v.1 k j)) = post
  refine CTl.of prog_1_method_30_code 3 (some .long) "StarWalk" (by decide +kernel) rfl hq hw (Nat.le_of_ble_eq_true rfl) ?_
  intro pg en s m ar bl me cd ls E I hr hlk hl
  have hx := E.1.1
  have hb := E.1.2.1
  have hl : lv_has ls 3 [(0, .ref (wq w k0)), (1, .int a0), (2, .int a1)] := hl
  have rz0 : ∀ k j : Nat, ¬ (k0 + 41 ≤ k ∧ k < k0 + 61) → v.1 k j = v.1 k j := fun _ _ _ => rfl
  refine lv_iload_n hx hb dX7_luck_0 rfl (lv_at hl 1 rfl) ?_
  refine bz_lt E (a := a0.toInt) rfl (tgt := 17) dX7_luck_1 (by decide) (fun c1 => ?_) (fun c1 => ?_)
  ·
    refine lv_ldc2 (own := "StarWalk") hx hb E.1.2.2.2.1 (Ew E mw_4_44 rfl) dX7_luck_17 ?_
    exact rL E I hr hlk (by rw [← hpost]; exact ⟨⟨I.2.2, trivial⟩, trivial, rz0⟩) dX7_luck_20
  ·
    refine lv_iload_n hx hb dX7_luck_4 rfl (lv_at hl 1 rfl) ?_
    refine lv_bipush (v := 10) hx hb dX7_luck_5 (by decide) ?_
    refine bi_gt E (a := a0.toInt) (b := 10) rfl rfl (tgt := 17) dX7_luck_7 (by decide) (fun c2 => ?_) (fun c2 => ?_)
    ·
      refine lv_ldc2 (own := "StarWalk") hx hb E.1.2.2.2.1 (Ew E mw_4_44 rfl) dX7_luck_17 ?_
      exact rL E I hr hlk (by rw [← hpost]; exact ⟨⟨I.2.2, trivial⟩, trivial, rz0⟩) dX7_luck_20
    ·
      refine lv_iload_n hx hb dX7_luck_10 rfl (lv_at hl 2 rfl) ?_
      refine cSi E I (c_X7_isZeroOrOne l w g v a1 E.2.2.1 I.2.2   ) (va_cwS 1 E.1.2.2.2.2 (gSs mw_4_9 mw_4_10 mw_1_1 mw_4_11) rfl rfl rfl (by decide +kernel) ⟨by decide, by decide⟩) rfl hl.1 rfl (Nat.le_of_ble_eq_true rfl) dX7_luck_11 ⟨Nat.le_refl _, Nat.le_refl _⟩ (fun r3 u4 H lo hp hPS => ?_)
      obtain ⟨hp, hex, hfr⟩ := hp
      obtain ⟨hu, p5⟩ := hp
      rw [hu] at hPS
      have I : Wo w g s.heap v H lo := ⟨hPS.1, hPS.2, I.2.2⟩
      refine bz_ne E (a := r3.toInt) rfl (tgt := 21) dX7_luck_14 (by decide) (fun c6 => ?_) (fun c6 => ?_)
      ·
        refine lv_aload_n hx hb dX7_luck_21 rfl (lv_at hl 0 rfl) ?_
        refine g_StarWalk_odds E I h_k0.1 mw_2_72 dX7_luck_22 ?_
        refine lv_aload_n hx hb dX7_luck_25 rfl (lv_at hl 0 rfl) ?_
        refine g_StarWalk_odds E I h_k0.1 mw_2_72 dX7_luck_26 ?_
        refine lv_aload_n hx hb dX7_luck_29 rfl (lv_at hl 0 rfl) ?_
        refine g_StarWalk_now E I h_k0.1 mw_2_69 dX7_luck_30 ?_
        refine lv_iload_n hx hb dX7_luck_33 rfl (lv_at hl 1 rfl) ?_
        refine lv_iconst (v := 0) hx hb dX7_luck_34 (by decide) ?_
        refine cVl E I (c_X1_weighAll l w g v (k0 + 41) (k0 + 12) a0 (0 : Int32) E.2.2.1 I.2.2 h_k0.2.2.2.2.2.1 h_k0.2.2.1 (by decide) ) (cwV 3 E.1.2.2.2.2 (gWs (C := "StarWalk$Odds") mw_4_45 mw_4_46 mw_4_47 mw_1_7 mw_4_48) rfl rfl rfl (by decide +kernel) ⟨by decide, by decide⟩) h_k0.2.2.2.2.2.1.1.1 ((ce_o h_k0.2.2.2.2.2.1.1.2).trans rfl) rfl rfl hl.1 rfl (Nat.le_of_ble_eq_true rfl) dX7_luck_35 ⟨Nat.le_refl _, Nat.le_refl _⟩ (fun r7 u8 H lo hp hPS => ?_)
        obtain ⟨hp, hex, hfr⟩ := hp
        obtain ⟨hwf, p9⟩ := hp
        have I : Wo w g s.heap u8 H lo := ⟨hPS.1, hPS.2, hwf⟩
        have rzu8 : ∀ k j : Nat, ¬ (k0 + 41 ≤ k ∧ k < k0 + 61) → u8.1 k j = v.1 k j := fun k j h => (hfr k j (fun z => h (by omega))).trans (rz0 k j h)
        refine lv_aload_n hx hb dX7_luck_38 rfl (lv_at hl 0 rfl) ?_
        refine g_StarWalk_now E I h_k0.1 mw_2_69 dX7_luck_39 ?_
        refine g_Night_planned E I h_k0.2.2.1.1 mw_1_122 dX7_luck_42 ?_
        refine lv_topi (fun x10 ex10 => ?_)
        have hx10 := r_Night_planned I h_k0.2.2.1.1
        rw [← ex10] at hx10
        refine lv_iload_n hx hb dX7_luck_45 rfl (lv_at hl 2 rfl) ?_
        refine cVl E I (c_X1_part l w g u8 (k0 + 41) r7 x10 a1 E.2.2.1 I.2.2 h_k0.2.2.2.2.2.1  ) (cwV 3 E.1.2.2.2.2 (gWs (C := "StarWalk$Odds") mw_4_62 mw_4_63 mw_4_64 mw_1_7 mw_4_65) rfl rfl rfl (by decide +kernel) ⟨by decide, by decide⟩) h_k0.2.2.2.2.2.1.1.1 ((ce_o h_k0.2.2.2.2.2.1.1.2).trans rfl) rfl rfl hl.1 rfl (Nat.le_of_ble_eq_true rfl) dX7_luck_46 ⟨Nat.le_refl _, Nat.le_refl _⟩ (fun r11 u12 H lo hp hPS => ?_)
        obtain ⟨hp, hex, hfr⟩ := hp
        obtain ⟨hu, p13⟩ := hp
        rw [hu] at hPS
        have I : Wo w g s.heap u8 H lo := ⟨hPS.1, hPS.2, I.2.2⟩
        exact rL E I hr hlk (by rw [← hpost]; exact ⟨⟨I.2.2, trivial⟩, trivial, rzu8⟩) dX7_luck_49
      ·
        refine lv_ldc2 (own := "StarWalk") hx hb E.1.2.2.2.1 (Ew E mw_4_44 rfl) dX7_luck_17 ?_
        exact rL E I hr hlk (by rw [← hpost]; exact ⟨⟨I.2.2, trivial⟩, trivial, rz0⟩) dX7_luck_20
set_option maxHeartbeats 4000000 in
set_option maxRecDepth 100000 in
theorem c_X7_mean (l : Launch) (w : Wp) (g : Nat → Nat → Int32) (v : St) (k0 : Nat) (a0 : Int32) (a1 : Int32) (hq : Inj w) (hw : WF (wk w) g v) (h_k0 : oW w k0) : CTl w l yX7_mean (wsy yX7_mean prog_1_method_31_code 3 (some .long)) (rmL 15) [.ref (wq w k0), .int a0, .int a1] v (fun (r : Int64) (u : St) => (WF (wk w) g u ∧ True) ∧ (True) ∧ (∀ k j : Nat, ¬ (k0 + 41 ≤ k ∧ k < k0 + 61) → u.1 k j = v.1 k j)) := by
  generalize hpost : (fun (r : Int64) (u : St) => (WF (wk w) g u ∧ True) ∧ (True) ∧ (∀ k j : Nat, ¬ (k0 + 41 ≤ k ∧ k < k0 + 61) → u.1 k j = v.1 k j)) = post
  refine CTl.of prog_1_method_31_code 3 (some .long) "StarWalk" (by decide +kernel) rfl hq hw (Nat.le_of_ble_eq_true rfl) ?_
  intro pg en s m ar bl me cd ls E I hr hlk hl
  have hx := E.1.1
  have hb := E.1.2.1
  have hl : lv_has ls 3 [(0, .ref (wq w k0)), (1, .int a0), (2, .int a1)] := hl
  have rz0 : ∀ k j : Nat, ¬ (k0 + 41 ≤ k ∧ k < k0 + 61) → v.1 k j = v.1 k j := fun _ _ _ => rfl
  refine lv_iload_n hx hb dX7_mean_0 rfl (lv_at hl 1 rfl) ?_
  refine bz_lt E (a := a0.toInt) rfl (tgt := 17) dX7_mean_1 (by decide) (fun c1 => ?_) (fun c1 => ?_)
  ·
    refine lv_ldc2 (own := "StarWalk") hx hb E.1.2.2.2.1 (Ew E mw_4_44 rfl) dX7_mean_17 ?_
    exact rL E I hr hlk (by rw [← hpost]; exact ⟨⟨I.2.2, trivial⟩, trivial, rz0⟩) dX7_mean_20
  ·
    refine lv_iload_n hx hb dX7_mean_4 rfl (lv_at hl 1 rfl) ?_
    refine lv_bipush (v := 10) hx hb dX7_mean_5 (by decide) ?_
    refine bi_gt E (a := a0.toInt) (b := 10) rfl rfl (tgt := 17) dX7_mean_7 (by decide) (fun c2 => ?_) (fun c2 => ?_)
    ·
      refine lv_ldc2 (own := "StarWalk") hx hb E.1.2.2.2.1 (Ew E mw_4_44 rfl) dX7_mean_17 ?_
      exact rL E I hr hlk (by rw [← hpost]; exact ⟨⟨I.2.2, trivial⟩, trivial, rz0⟩) dX7_mean_20
    ·
      refine lv_iload_n hx hb dX7_mean_10 rfl (lv_at hl 2 rfl) ?_
      refine cSi E I (c_X7_isZeroOrOne l w g v a1 E.2.2.1 I.2.2   ) (va_cwS 1 E.1.2.2.2.2 (gSs mw_4_9 mw_4_10 mw_1_1 mw_4_11) rfl rfl rfl (by decide +kernel) ⟨by decide, by decide⟩) rfl hl.1 rfl (Nat.le_of_ble_eq_true rfl) dX7_mean_11 ⟨Nat.le_refl _, Nat.le_refl _⟩ (fun r3 u4 H lo hp hPS => ?_)
      obtain ⟨hp, hex, hfr⟩ := hp
      obtain ⟨hu, p5⟩ := hp
      rw [hu] at hPS
      have I : Wo w g s.heap v H lo := ⟨hPS.1, hPS.2, I.2.2⟩
      refine bz_ne E (a := r3.toInt) rfl (tgt := 21) dX7_mean_14 (by decide) (fun c6 => ?_) (fun c6 => ?_)
      ·
        refine lv_aload_n hx hb dX7_mean_21 rfl (lv_at hl 0 rfl) ?_
        refine g_StarWalk_odds E I h_k0.1 mw_2_72 dX7_mean_22 ?_
        refine lv_aload_n hx hb dX7_mean_25 rfl (lv_at hl 0 rfl) ?_
        refine g_StarWalk_odds E I h_k0.1 mw_2_72 dX7_mean_26 ?_
        refine lv_aload_n hx hb dX7_mean_29 rfl (lv_at hl 0 rfl) ?_
        refine g_StarWalk_now E I h_k0.1 mw_2_69 dX7_mean_30 ?_
        refine lv_iload_n hx hb dX7_mean_33 rfl (lv_at hl 1 rfl) ?_
        refine lv_iconst (v := 1) hx hb dX7_mean_34 (by decide) ?_
        refine cVl E I (c_X1_weighAll l w g v (k0 + 41) (k0 + 12) a0 (1 : Int32) E.2.2.1 I.2.2 h_k0.2.2.2.2.2.1 h_k0.2.2.1 (by decide) ) (cwV 3 E.1.2.2.2.2 (gWs (C := "StarWalk$Odds") mw_4_45 mw_4_46 mw_4_47 mw_1_7 mw_4_48) rfl rfl rfl (by decide +kernel) ⟨by decide, by decide⟩) h_k0.2.2.2.2.2.1.1.1 ((ce_o h_k0.2.2.2.2.2.1.1.2).trans rfl) rfl rfl hl.1 rfl (Nat.le_of_ble_eq_true rfl) dX7_mean_35 ⟨Nat.le_refl _, Nat.le_refl _⟩ (fun r7 u8 H lo hp hPS => ?_)
        obtain ⟨hp, hex, hfr⟩ := hp
        obtain ⟨hwf, p9⟩ := hp
        have I : Wo w g s.heap u8 H lo := ⟨hPS.1, hPS.2, hwf⟩
        have rzu8 : ∀ k j : Nat, ¬ (k0 + 41 ≤ k ∧ k < k0 + 61) → u8.1 k j = v.1 k j := fun k j h => (hfr k j (fun z => h (by omega))).trans (rz0 k j h)
        refine lv_aload_n hx hb dX7_mean_38 rfl (lv_at hl 0 rfl) ?_
        refine g_StarWalk_now E I h_k0.1 mw_2_69 dX7_mean_39 ?_
        refine g_Night_planned E I h_k0.2.2.1.1 mw_1_122 dX7_mean_42 ?_
        refine lv_topi (fun x10 ex10 => ?_)
        have hx10 := r_Night_planned I h_k0.2.2.1.1
        rw [← ex10] at hx10
        refine lv_iload_n hx hb dX7_mean_45 rfl (lv_at hl 2 rfl) ?_
        refine cVl E I (c_X1_part l w g u8 (k0 + 41) r7 x10 a1 E.2.2.1 I.2.2 h_k0.2.2.2.2.2.1  ) (cwV 3 E.1.2.2.2.2 (gWs (C := "StarWalk$Odds") mw_4_62 mw_4_63 mw_4_64 mw_1_7 mw_4_65) rfl rfl rfl (by decide +kernel) ⟨by decide, by decide⟩) h_k0.2.2.2.2.2.1.1.1 ((ce_o h_k0.2.2.2.2.2.1.1.2).trans rfl) rfl rfl hl.1 rfl (Nat.le_of_ble_eq_true rfl) dX7_mean_46 ⟨Nat.le_refl _, Nat.le_refl _⟩ (fun r11 u12 H lo hp hPS => ?_)
        obtain ⟨hp, hex, hfr⟩ := hp
        obtain ⟨hu, p13⟩ := hp
        rw [hu] at hPS
        have I : Wo w g s.heap u8 H lo := ⟨hPS.1, hPS.2, I.2.2⟩
        exact rL E I hr hlk (by rw [← hpost]; exact ⟨⟨I.2.2, trivial⟩, trivial, rzu8⟩) dX7_mean_49
      ·
        refine lv_ldc2 (own := "StarWalk") hx hb E.1.2.2.2.1 (Ew E mw_4_44 rfl) dX7_mean_17 ?_
        exact rL E I hr hlk (by rw [← hpost]; exact ⟨⟨I.2.2, trivial⟩, trivial, rz0⟩) dX7_mean_20
def F_X7_see (k0 : Nat) (a0 : Int32) (a1 : Int32) (v : St) : Int32 × St :=
if a0.toInt < 0 then (
((-1 : Int32), v)) else (
if 8 < a0.toInt then (
((-1 : Int32), v)) else (
if a1.toInt < (-99) then (
((-1 : Int32), v)) else (
if 99 < a1.toInt then (
((-1 : Int32), v)) else (
xl (v.1 (k0 + 12) 17) fun x5 =>
if x5.toInt < 6 then (
xl (up1 v (k0 + 12 + 7) x5.toNatClampNeg a0) fun v8 =>
xl (up1 v8 (k0 + 12 + 8) x5.toNatClampNeg a1) fun v10 =>
xl (x5 + (1 : Int32)) fun x12 =>
xl (up1 v10 (k0 + 12) 17 x12) fun v13 =>
xl (v13.1 (k0 + 12) 17) fun x14 =>
(x14, v13)) else (
((-3 : Int32), v))))))
set_option maxHeartbeats 4000000 in
set_option maxRecDepth 100000 in
theorem c_X7_see (l : Launch) (w : Wp) (g : Nat → Nat → Int32) (v : St) (k0 : Nat) (a0 : Int32) (a1 : Int32) (hq : Inj w) (hw : WF (wk w) g v) (h_k0 : oW w k0) : CTi w l yX7_see (wsy yX7_see prog_1_method_32_code 3 (some .int)) (rmL 1) [.ref (wq w k0), .int a0, .int a1] v (fun (r : Int32) (u : St) => (WF (wk w) g u ∧ True) ∧ ((r, u) = F_X7_see k0 a0 a1 v) ∧ (∀ k j : Nat, ¬ (k0 + 12 ≤ k ∧ k < k0 + 21) → u.1 k j = v.1 k j)) := by
  generalize hpost : (fun (r : Int32) (u : St) => (WF (wk w) g u ∧ True) ∧ ((r, u) = F_X7_see k0 a0 a1 v) ∧ (∀ k j : Nat, ¬ (k0 + 12 ≤ k ∧ k < k0 + 21) → u.1 k j = v.1 k j)) = post
  refine CTi.of prog_1_method_32_code 3 (some .int) "StarWalk" (by decide +kernel) rfl hq hw (Nat.le_of_ble_eq_true rfl) ?_
  intro pg en s m ar bl me cd ls E I hr hlk hl
  have hx := E.1.1
  have hb := E.1.2.1
  have hl : lv_has ls 3 [(0, .ref (wq w k0)), (1, .int a0), (2, .int a1)] := hl
  obtain ⟨res, hres⟩ : ∃ z, z = F_X7_see k0 a0 a1 v := ⟨_, rfl⟩
  have hF := hres.symm
  unfold F_X7_see at hF
  replace hres : res = F_X7_see k0 a0 a1 v := hres
  have rz0 : ∀ k j : Nat, ¬ (k0 + 12 ≤ k ∧ k < k0 + 21) → v.1 k j = v.1 k j := fun _ _ _ => rfl
  refine lv_iload_n hx hb dX7_see_0 rfl (lv_at hl 1 rfl) ?_
  refine bz_lt E (a := a0.toInt) rfl (tgt := 22) dX7_see_1 (by decide) (fun c1 => ?_) (fun c1 => ?_)
  ·
    replace hF := if_t c1 hF
    refine lv_iconst (v := (-1)) hx hb dX7_see_22 (by decide) ?_
    exact rI E I hr hlk rfl (by rw [← hpost]; exact ⟨⟨I.2.2, trivial⟩, hF.trans hres, rz0⟩) dX7_see_23
  ·
    replace hF := if_l c1 hF
    refine lv_iload_n hx hb dX7_see_4 rfl (lv_at hl 1 rfl) ?_
    refine lv_bipush (v := 8) hx hb dX7_see_5 (by decide) ?_
    refine bi_gt E (a := a0.toInt) (b := 8) rfl rfl (tgt := 22) dX7_see_7 (by decide) (fun c2 => ?_) (fun c2 => ?_)
    ·
      replace hF := if_t c2 hF
      refine lv_iconst (v := (-1)) hx hb dX7_see_22 (by decide) ?_
      exact rI E I hr hlk rfl (by rw [← hpost]; exact ⟨⟨I.2.2, trivial⟩, hF.trans hres, rz0⟩) dX7_see_23
    ·
      replace hF := if_l c2 hF
      refine lv_iload_n hx hb dX7_see_10 rfl (lv_at hl 2 rfl) ?_
      refine lv_bipush (v := (-99)) hx hb dX7_see_11 (by decide) ?_
      refine bi_lt E (a := a1.toInt) (b := (-99)) rfl rfl (tgt := 22) dX7_see_13 (by decide) (fun c3 => ?_) (fun c3 => ?_)
      ·
        replace hF := if_t c3 hF
        refine lv_iconst (v := (-1)) hx hb dX7_see_22 (by decide) ?_
        exact rI E I hr hlk rfl (by rw [← hpost]; exact ⟨⟨I.2.2, trivial⟩, hF.trans hres, rz0⟩) dX7_see_23
      ·
        replace hF := if_l c3 hF
        refine lv_iload_n hx hb dX7_see_16 rfl (lv_at hl 2 rfl) ?_
        refine lv_bipush (v := 99) hx hb dX7_see_17 (by decide) ?_
        refine bi_le E (a := a1.toInt) (b := 99) rfl rfl (tgt := 24) dX7_see_19 (by decide) (fun c4 => ?_) (fun c4 => ?_)
        ·
          replace hF := if_l c4 hF
          refine lv_aload_n hx hb dX7_see_24 rfl (lv_at hl 0 rfl) ?_
          refine g_StarWalk_now E I h_k0.1 mw_2_69 dX7_see_25 ?_
          refine g_Night_seen E I h_k0.2.2.1.1 mw_1_131 dX7_see_28 ?_
          refine lv_topi (fun x5 ex5 => ?_)
          replace hF := xl_i (ex5) hF
          have hx5 := r_Night_seen I h_k0.2.2.1.1
          rw [← ex5] at hx5
          refine lv_bipush (v := 6) hx hb dX7_see_31 (by decide) ?_
          refine bi_lt E (a := x5.toInt) (b := 6) rfl rfl (tgt := 39) dX7_see_33 (by decide) (fun c6 => ?_) (fun c6 => ?_)
          ·
            replace hF := if_t c6 hF
            refine lv_aload_n hx hb dX7_see_39 rfl (lv_at hl 0 rfl) ?_
            refine g_StarWalk_now E I h_k0.1 mw_2_69 dX7_see_40 ?_
            refine g_Night_seenBehind E I h_k0.2.2.1.1 mw_1_125 dX7_see_43 ?_
            refine lv_aload_n hx hb dX7_see_46 rfl (lv_at hl 0 rfl) ?_
            refine g_StarWalk_now E I h_k0.1 mw_2_69 dX7_see_47 ?_
            refine g_Night_seen E I h_k0.2.2.1.1 mw_1_131 dX7_see_50 ?_
            refine lv_topi (fun x7 ex7 => ?_)
            obtain rfl : x5 = x7 := ex5.symm.symm.trans ex7.symm
            refine lv_iload_n hx hb dX7_see_53 rfl (lv_at hl 1 rfl) ?_
            refine pa_13 E I h_k0.2.2.1.2.2.2.2.2.2.2.1 (by omega) (by have ci := cnI (x := x5) (by omega); simp only [okk]; omega) dX7_see_54 (fun H lo I => ?_)
            generalize ev8 : up1 v (k0 + 12 + 7) x5.toNatClampNeg a0 = v8 at I
            replace hF := xl_i (ev8.symm) hF
            have mv8_0 : v8.1 (k0 + 12) 17 = x5 := by rw [← ev8, up1_n _ _ (Or.inl (by omega))] <;> exact ex5.symm
            have rzv8 : ∀ k j : Nat, ¬ (k0 + 12 ≤ k ∧ k < k0 + 21) → v8.1 k j = v.1 k j := fun k j h => fz_u ev8 (by have czx5 := cnI (x := x5) (by omega); omega) (rz0 k j h)
            refine lv_aload_n hx hb dX7_see_55 rfl (lv_at hl 0 rfl) ?_
            refine g_StarWalk_now E I h_k0.1 mw_2_69 dX7_see_56 ?_
            refine g_Night_seenSide E I h_k0.2.2.1.1 mw_1_128 dX7_see_59 ?_
            refine lv_aload_n hx hb dX7_see_62 rfl (lv_at hl 0 rfl) ?_
            refine g_StarWalk_now E I h_k0.1 mw_2_69 dX7_see_63 ?_
            refine g_Night_seen E I h_k0.2.2.1.1 mw_1_131 dX7_see_66 ?_
            refine lv_topi (fun x9 ex9 => ?_)
            obtain rfl : x5 = x9 := mv8_0.symm.trans ex9.symm
            refine lv_iload_n hx hb dX7_see_69 rfl (lv_at hl 2 rfl) ?_
            refine pa_14 E I h_k0.2.2.1.2.2.2.2.2.2.2.2 (by omega) dX7_see_70 (fun H lo I => ?_)
            generalize ev10 : up1 v8 (k0 + 12 + 8) x5.toNatClampNeg a1 = v10 at I
            replace hF := xl_i (ev10.symm) hF
            have mv10_0 : v10.1 (k0 + 12) 17 = x5 := by rw [← ev10, up1_n _ _ (Or.inl (by omega))] <;> exact mv8_0
            have rzv10 : ∀ k j : Nat, ¬ (k0 + 12 ≤ k ∧ k < k0 + 21) → v10.1 k j = v.1 k j := fun k j h => fz_u ev10 (by have czx5 := cnI (x := x5) (by omega); omega) (rzv8 k j h)
            refine lv_aload_n hx hb dX7_see_71 rfl (lv_at hl 0 rfl) ?_
            refine g_StarWalk_now E I h_k0.1 mw_2_69 dX7_see_72 ?_
            refine lv_dup hx hb dX7_see_75 rfl ?_
            refine g_Night_seen E I h_k0.2.2.1.1 mw_1_131 dX7_see_76 ?_
            refine lv_topi (fun x11 ex11 => ?_)
            obtain rfl : x5 = x11 := mv10_0.symm.trans ex11.symm
            refine lv_iconst (v := 1) hx hb dX7_see_79 (by decide) ?_
            refine lv_iadd hx hb dX7_see_80 ?_
            refine lv_topi (fun x12 ex12 => ?_)
            replace hF := xl_i (ex12) hF
            have hx12 : x12.toInt = x5.toInt + 1 := by rw [ex12]; exact adI (a := x5.toInt) (b := 1) rfl rfl (by omega) (by omega)
            refine p_Night_seen E I h_k0.2.2.1.1 mw_1_131 (by omega) dX7_see_81 (fun H lo I => ?_)
            generalize ev13 : up1 v10 (k0 + 12) 17 x12 = v13 at I
            replace hF := xl_i (ev13.symm) hF
            have rzv13 : ∀ k j : Nat, ¬ (k0 + 12 ≤ k ∧ k < k0 + 21) → v13.1 k j = v.1 k j := fun k j h => fz_u ev13 (by omega) (rzv10 k j h)
            refine lv_aload_n hx hb dX7_see_84 rfl (lv_at hl 0 rfl) ?_
            refine g_StarWalk_now E I h_k0.1 mw_2_69 dX7_see_85 ?_
            refine g_Night_seen E I h_k0.2.2.1.1 mw_1_131 dX7_see_88 ?_
            refine lv_topi (fun x14 ex14 => ?_)
            replace hF := xl_i (ex14) hF
            have hx14 := r_Night_seen I h_k0.2.2.1.1
            rw [← ex14] at hx14
            exact rI E I hr hlk rfl (by rw [← hpost]; exact ⟨⟨I.2.2, trivial⟩, hF.trans hres, rzv13⟩) dX7_see_91
          ·
            replace hF := if_l c6 hF
            refine lv_bipush (v := (-3)) hx hb dX7_see_36 (by decide) ?_
            exact rI E I hr hlk rfl (by rw [← hpost]; exact ⟨⟨I.2.2, trivial⟩, hF.trans hres, rz0⟩) dX7_see_38
        ·
          replace hF := if_t c4 hF
          refine lv_iconst (v := (-1)) hx hb dX7_see_22 (by decide) ?_
          exact rI E I hr hlk rfl (by rw [← hpost]; exact ⟨⟨I.2.2, trivial⟩, hF.trans hres, rz0⟩) dX7_see_23
def F_X7_forget (k0 : Nat) (a0 : Int32) (v : St) : Int32 × St :=
if a0.toInt < 0 then (
((-1 : Int32), v)) else (
xl (v.1 (k0 + 12) 17) fun x2 =>
if x2.toInt < a0.toInt then (
((-1 : Int32), v)) else (
xl (v.1 (k0 + 12) 17) fun x4 =>
xl (up1 v (k0 + 12) 17 a0) fun v5 =>
(x4, v5)))
set_option maxHeartbeats 4000000 in
set_option maxRecDepth 100000 in
theorem c_X7_forget (l : Launch) (w : Wp) (g : Nat → Nat → Int32) (v : St) (k0 : Nat) (a0 : Int32) (hq : Inj w) (hw : WF (wk w) g v) (h_k0 : oW w k0) : CTi w l yX7_forget (wsy yX7_forget prog_1_method_33_code 3 (some .int)) (rmL 1) [.ref (wq w k0), .int a0] v (fun (r : Int32) (u : St) => (WF (wk w) g u ∧ True) ∧ ((r, u) = F_X7_forget k0 a0 v) ∧ (∀ k j : Nat, ¬ (k0 + 12 ≤ k ∧ k < k0 + 21) → u.1 k j = v.1 k j)) := by
  generalize hpost : (fun (r : Int32) (u : St) => (WF (wk w) g u ∧ True) ∧ ((r, u) = F_X7_forget k0 a0 v) ∧ (∀ k j : Nat, ¬ (k0 + 12 ≤ k ∧ k < k0 + 21) → u.1 k j = v.1 k j)) = post
  refine CTi.of prog_1_method_33_code 3 (some .int) "StarWalk" (by decide +kernel) rfl hq hw (Nat.le_of_ble_eq_true rfl) ?_
  intro pg en s m ar bl me cd ls E I hr hlk hl
  have hx := E.1.1
  have hb := E.1.2.1
  have hl : lv_has ls 3 [(0, .ref (wq w k0)), (1, .int a0)] := hl
  obtain ⟨res, hres⟩ : ∃ z, z = F_X7_forget k0 a0 v := ⟨_, rfl⟩
  have hF := hres.symm
  unfold F_X7_forget at hF
  replace hres : res = F_X7_forget k0 a0 v := hres
  have rz0 : ∀ k j : Nat, ¬ (k0 + 12 ≤ k ∧ k < k0 + 21) → v.1 k j = v.1 k j := fun _ _ _ => rfl
  refine lv_iload_n hx hb dX7_forget_0 rfl (lv_at hl 1 rfl) ?_
  refine bz_lt E (a := a0.toInt) rfl (tgt := 15) dX7_forget_1 (by decide) (fun c1 => ?_) (fun c1 => ?_)
  ·
    replace hF := if_t c1 hF
    refine lv_iconst (v := (-1)) hx hb dX7_forget_15 (by decide) ?_
    exact rI E I hr hlk rfl (by rw [← hpost]; exact ⟨⟨I.2.2, trivial⟩, hF.trans hres, rz0⟩) dX7_forget_16
  ·
    replace hF := if_l c1 hF
    refine lv_iload_n hx hb dX7_forget_4 rfl (lv_at hl 1 rfl) ?_
    refine lv_aload_n hx hb dX7_forget_5 rfl (lv_at hl 0 rfl) ?_
    refine g_StarWalk_now E I h_k0.1 mw_2_69 dX7_forget_6 ?_
    refine g_Night_seen E I h_k0.2.2.1.1 mw_1_131 dX7_forget_9 ?_
    refine lv_topi (fun x2 ex2 => ?_)
    replace hF := xl_i (ex2) hF
    have hx2 := r_Night_seen I h_k0.2.2.1.1
    rw [← ex2] at hx2
    refine bi_le E (a := a0.toInt) (b := x2.toInt) rfl rfl (tgt := 17) dX7_forget_12 (by decide) (fun c3 => ?_) (fun c3 => ?_)
    ·
      have rga0 := i32_rng a0
      replace hF := if_l c3 hF
      refine lv_aload_n hx hb dX7_forget_17 rfl (lv_at hl 0 rfl) ?_
      refine g_StarWalk_now E I h_k0.1 mw_2_69 dX7_forget_18 ?_
      refine g_Night_seen E I h_k0.2.2.1.1 mw_1_131 dX7_forget_21 ?_
      refine lv_topi (fun x4 ex4 => ?_)
      replace hF := xl_i (ex4) hF
      have hx4 := r_Night_seen I h_k0.2.2.1.1
      rw [← ex4] at hx4
      refine lv_istore_n (lv' := [(2, .int x4), (0, .ref (wq w k0)), (1, .int a0)]) hx hb dX7_forget_24 rfl hl (by decide) rfl (fun ls hl => ?_)
      refine lv_aload_n hx hb dX7_forget_25 rfl (lv_at hl 1 rfl) ?_
      refine g_StarWalk_now E I h_k0.1 mw_2_69 dX7_forget_26 ?_
      refine lv_iload_n hx hb dX7_forget_29 rfl (lv_at hl 2 rfl) ?_
      refine p_Night_seen E I h_k0.2.2.1.1 mw_1_131 (by omega) dX7_forget_30 (fun H lo I => ?_)
      generalize ev5 : up1 v (k0 + 12) 17 a0 = v5 at I
      replace hF := xl_i (ev5.symm) hF
      have rzv5 : ∀ k j : Nat, ¬ (k0 + 12 ≤ k ∧ k < k0 + 21) → v5.1 k j = v.1 k j := fun k j h => fz_u ev5 (by omega) (rz0 k j h)
      refine lv_iload_n hx hb dX7_forget_33 rfl (lv_at hl 0 rfl) ?_
      exact rI E I hr hlk rfl (by rw [← hpost]; exact ⟨⟨I.2.2, trivial⟩, hF.trans hres, rzv5⟩) dX7_forget_34
    ·
      have rga0 := i32_rng a0
      replace hF := if_t c3 hF
      refine lv_iconst (v := (-1)) hx hb dX7_forget_15 (by decide) ?_
      exact rI E I hr hlk rfl (by rw [← hpost]; exact ⟨⟨I.2.2, trivial⟩, hF.trans hres, rz0⟩) dX7_forget_16
def F_X7_aims (k0 : Nat) (a0 : Int32) (v : St) : Int32 × St :=
xl (fun (self_17 : Int32 → Int32 → St → Int32 × St) (y17_2 : Int32) (y17_3 : Int32) (v_17 : St) =>
xl (fun (y71_2 : Int32) (v_71 : St) =>
xl (y17_3 + 1) fun x1 =>
(self_17 y71_2 x1 v_71)) fun J_71 =>
if y17_3.toInt < 7 then (
xl (F_X0_hasAim (k0 + 12) y17_3 v_17) fun r3 =>
if r3.toInt = 0 then (
(J_71 y17_2 v_17)) else (
xl (F_X6_begin (k0 + 21) (k0 + 12) v_17) fun u7 =>
xl (up1 u7 (k0 + 21 + 1 + 6) a0.toNatClampNeg y17_3) fun v9 =>
xm (F_X6_isAllAsSeen (k0 + 21) v9) fun r10 u11 =>
xl (F_X7_withBit y17_2 y17_3 r10 u11) fun r13 =>
(J_71 r13 u11))) else (
(y17_2, v_17))) fun P_17 =>
xl (F_X0_hasPlanned (k0 + 12) a0 v) fun r16 =>
if r16.toInt = 0 then (
((-1 : Int32), v)) else (
(lp P_17 (fun _ _ _ => ((0 : Int32), v)) ((2147483647 - (0 : Int32).toInt).toNat + 1) (0 : Int32) (0 : Int32) v))
set_option maxHeartbeats 4000000 in
set_option maxRecDepth 100000 in
theorem c_X7_aims (l : Launch) (w : Wp) (g : Nat → Nat → Int32) (v : St) (k0 : Nat) (a0 : Int32) (hq : Inj w) (hw : WF (wk w) g v) (h_k0 : oW w k0) : CTi w l yX7_aims (wsy yX7_aims prog_1_method_34_code 4 (some .int)) (rmL 7) [.ref (wq w k0), .int a0] v (fun (r : Int32) (u : St) => (WF (wk w) g u ∧ True) ∧ ((r, u) = F_X7_aims k0 a0 v) ∧ (∀ k j : Nat, ¬ (k0 + 21 ≤ k ∧ k < k0 + 32) → u.1 k j = v.1 k j)) := by
  generalize hpost : (fun (r : Int32) (u : St) => (WF (wk w) g u ∧ True) ∧ ((r, u) = F_X7_aims k0 a0 v) ∧ (∀ k j : Nat, ¬ (k0 + 21 ≤ k ∧ k < k0 + 32) → u.1 k j = v.1 k j)) = post
  refine CTi.of prog_1_method_34_code 4 (some .int) "StarWalk" (by decide +kernel) rfl hq hw (Nat.le_of_ble_eq_true rfl) ?_
  intro pg en s m ar bl me cd ls E I hr hlk hl
  have hx := E.1.1
  have hb := E.1.2.1
  have hl : lv_has ls 4 [(0, .ref (wq w k0)), (1, .int a0)] := hl
  obtain ⟨res, hres⟩ : ∃ z, z = F_X7_aims k0 a0 v := ⟨_, rfl⟩
  have hF := hres.symm
  unfold F_X7_aims at hF
  replace hres : res = F_X7_aims k0 a0 v := hres
  have rz0 : ∀ k j : Nat, ¬ (k0 + 21 ≤ k ∧ k < k0 + 32) → v.1 k j = v.1 k j := fun _ _ _ => rfl
  obtain ⟨P_17, eP_17, hF⟩ := xl_e hF
  have L_17 : ∀ (n : Nat), ∀ (H : Heap) (lo : List Loc) (v_17 : St), Wo w g s.heap v_17 H lo → ∀ (y17_2 : Int32) (y17_3 : Int32), (0 ≤ y17_3.toInt ∧ y17_3.toInt ≤ 7) → (0 ≤ a0.toInt ∧ a0.toInt ≤ 7) → (∀ k j : Nat, ¬ (k0 + 21 ≤ k ∧ k < k0 + 32) → v_17.1 k j = v.1 k j) → (lp P_17 (fun _ _ _ => ((0 : Int32), v)) n y17_2 y17_3 v_17 = res) → (2147483647 - y17_3.toInt).toNat < n → ∀ (ls : Array Slot), lv_has ls 4 [(0, .ref (wq w k0)), (1, .int a0), (2, .int y17_2), (3, .int y17_3)] → W pg l en (rmL 7) s m ar bl me cd H lo 0 0 (Zi w bl ar s post) (F0 m 17 ls []) := by
    intro n
    induction n with
    | zero => intro H lo v_17 I y17_2 y17_3 hy17_3 hE17_0 rB17_Z hF hm; exact absurd hm (Nat.not_lt_zero _)
    | succ n ih_17 =>
      intro H lo v_17 I y17_2 y17_3 hy17_3 hE17_0 rB17_Z hF hm ls hl
      replace hF := lpa3 eP_17 hF
      obtain ⟨J_71, eJ_71, hF⟩ := xl_e hF
      have B_71 : ∀ (H : Heap) (lo : List Loc) (v_71 : St), Wo w g s.heap v_71 H lo → ∀ (y71_2 : Int32), (0 ≤ a0.toInt ∧ a0.toInt ≤ 7) → (0 ≤ y17_3.toInt ∧ y17_3.toInt ≤ 6) → (∀ k j : Nat, ¬ (k0 + 21 ≤ k ∧ k < k0 + 32) → v_71.1 k j = v.1 k j) → (J_71 y71_2 v_71 = res) → ∀ (ls : Array Slot), lv_has ls 4 [(0, .ref (wq w k0)), (1, .int a0), (2, .int y71_2), (3, .int y17_3)] → W pg l en (rmL 7) s m ar bl me cd H lo 0 0 (Zi w bl ar s post) (F0 m 71 ls []) := by
        intro H lo v_71 I y71_2 hE71_0 hE71_1 rB71_Z hF ls hl
        replace hF := ap2 eJ_71 hF
        obtain ⟨x1, ex1⟩ : ∃ z : Int32, z = y17_3 + 1 := ⟨_, rfl⟩
        replace hF := xl_i (ex1) hF
        have hx1 : x1.toInt = y17_3.toInt + (1) := by rw [ex1]; exact adI (a := y17_3.toInt) (b := 1) rfl rfl (by omega) (by omega)
        refine lv_iinc (v := x1) (lv' := [(3, .int x1), (0, .ref (wq w k0)), (1, .int a0), (2, .int y71_2)]) hx hb dX7_aims_71 hl (k := 3) rfl (by rw [ex1]; rfl) (by decide) rfl (fun ls hl => ?_)
        refine lv_goto (tgt := 17) hx hb dX7_aims_74 (by decide) ?_
        exact ih_17 _ _ v_71 I y71_2 x1 (by omega) (by omega) rB71_Z hF (by omega) ls (lv_sub hl [1, 2, 3, 0] rfl)
      refine lv_iload_n hx hb dX7_aims_17 rfl (lv_at hl 3 rfl) ?_
      refine lv_bipush (v := 7) hx hb dX7_aims_18 (by decide) ?_
      refine bi_ge E (a := y17_3.toInt) (b := 7) rfl rfl (tgt := 77) dX7_aims_20 (by decide) (fun c2 => ?_) (fun c2 => ?_)
      ·
        replace hF := if_l c2 hF
        refine lv_iload_n hx hb dX7_aims_77 rfl (lv_at hl 2 rfl) ?_
        exact rI E I hr hlk rfl (by rw [← hpost]; exact ⟨⟨I.2.2, trivial⟩, hF.trans hres, rB17_Z⟩) dX7_aims_78
      ·
        replace hF := if_t c2 hF
        refine lv_aload_n hx hb dX7_aims_23 rfl (lv_at hl 0 rfl) ?_
        refine g_StarWalk_now E I h_k0.1 mw_2_69 dX7_aims_24 ?_
        refine lv_iload_n hx hb dX7_aims_27 rfl (lv_at hl 3 rfl) ?_
        refine cVi E I (c_X0_hasAim l w g v_17 (k0 + 12) y17_3 E.2.2.1 I.2.2 h_k0.2.2.1  ) (cwV 1 E.1.2.2.2.2 (gWs (C := "StarWalk$Night") mw_3_142 mw_3_49 mw_3_50 mw_1_3 mw_3_51) rfl rfl rfl (by decide +kernel) ⟨by decide, by decide⟩) h_k0.2.2.1.1.1 ((ce_o h_k0.2.2.1.1.2).trans rfl) rfl rfl hl.1 rfl (Nat.le_of_ble_eq_true rfl) dX7_aims_28 ⟨Nat.le_refl _, Nat.le_refl _⟩ (fun r3 u4 H lo hp hPS => ?_)
        obtain ⟨hp, hex, hfr⟩ := hp
        replace hF := xl_i hex hF
        obtain ⟨hu, p5⟩ := hp
        rw [hu] at hPS
        have I : Wo w g s.heap v_17 H lo := ⟨hPS.1, hPS.2, I.2.2⟩
        refine bz_eq E (a := r3.toInt) rfl (tgt := 71) dX7_aims_31 (by decide) (fun c6 => ?_) (fun c6 => ?_)
        ·
          replace hF := if_t c6 hF
          exact B_71 _ _ v_17 I y17_2 (by omega) (by omega) rB17_Z hF ls (lv_sub hl [0, 1, 2, 3] rfl)
        ·
          replace hF := if_f c6 hF
          refine lv_aload_n hx hb dX7_aims_34 rfl (lv_at hl 0 rfl) ?_
          refine g_StarWalk_trial E I h_k0.1 mw_2_70 dX7_aims_35 ?_
          refine lv_aload_n hx hb dX7_aims_38 rfl (lv_at hl 0 rfl) ?_
          refine g_StarWalk_now E I h_k0.1 mw_2_69 dX7_aims_39 ?_
          refine cVv E I (c_X6_begin l w g v_17 (k0 + 21) (k0 + 12) E.2.2.1 I.2.2 h_k0.2.2.2.1 h_k0.2.2.1  ) (cwV 1 E.1.2.2.2.2 (gWs (C := "StarWalk$Trial") mw_3_201 mw_3_202 mw_3_203 mw_1_5 mw_3_204) rfl rfl rfl (by decide +kernel) ⟨by decide, by decide⟩) h_k0.2.2.2.1.1.1 ((ce_o h_k0.2.2.2.1.1.2).trans rfl) rfl rfl hl.1 rfl (Nat.le_of_ble_eq_true rfl) dX7_aims_42 ⟨Nat.le_refl _, Nat.le_refl _⟩ (fun u7 H lo hp hPS => ?_)
          obtain ⟨hp, hex, hfr⟩ := hp
          replace hF := xl_i hex hF
          obtain ⟨hwf, p8⟩ := hp
          have I : Wo w g s.heap u7 H lo := ⟨hPS.1, hPS.2, hwf⟩
          have rzu7 : ∀ k j : Nat, ¬ (k0 + 21 ≤ k ∧ k < k0 + 32) → u7.1 k j = v.1 k j := fun k j h => (hfr k j (fun z => h (by omega))).trans (rB17_Z k j h)
          refine lv_aload_n hx hb dX7_aims_45 rfl (lv_at hl 0 rfl) ?_
          refine g_StarWalk_trial E I h_k0.1 mw_2_70 dX7_aims_46 ?_
          refine g_Trial_night E I h_k0.2.2.2.1.1 mw_1_215 dX7_aims_49 ?_
          refine g_Night_plannedAims E I h_k0.2.2.2.1.2.1.1 mw_1_119 dX7_aims_52 ?_
          refine lv_iload_n hx hb dX7_aims_55 rfl (lv_at hl 1 rfl) ?_
          refine lv_iload_n hx hb dX7_aims_56 rfl (lv_at hl 3 rfl) ?_
          refine pa_12 E I h_k0.2.2.2.1.2.1.2.2.2.2.2.2.1 (by omega) dX7_aims_57 (fun H lo I => ?_)
          generalize ev9 : up1 u7 (k0 + 21 + 1 + 6) a0.toNatClampNeg y17_3 = v9 at I
          replace hF := xl_i (ev9.symm) hF
          have rzv9 : ∀ k j : Nat, ¬ (k0 + 21 ≤ k ∧ k < k0 + 32) → v9.1 k j = v.1 k j := fun k j h => fz_u ev9 (by have cza0 := cnI (x := a0) (by omega); omega) (rzu7 k j h)
          refine lv_iload_n hx hb dX7_aims_58 rfl (lv_at hl 2 rfl) ?_
          refine lv_iload_n hx hb dX7_aims_59 rfl (lv_at hl 3 rfl) ?_
          refine lv_aload_n hx hb dX7_aims_60 rfl (lv_at hl 0 rfl) ?_
          refine g_StarWalk_trial E I h_k0.1 mw_2_70 dX7_aims_61 ?_
          refine cVi E I (c_X6_isAllAsSeen l w g v9 (k0 + 21) E.2.2.1 I.2.2 h_k0.2.2.2.1  ) (cwV 0 E.1.2.2.2.2 (gWs (C := "StarWalk$Trial") mw_4_85 mw_4_86 mw_4_87 mw_1_5 mw_4_88) rfl rfl rfl (by decide +kernel) ⟨by decide, by decide⟩) h_k0.2.2.2.1.1.1 ((ce_o h_k0.2.2.2.1.1.2).trans rfl) rfl rfl hl.1 rfl (Nat.le_of_ble_eq_true rfl) dX7_aims_64 ⟨Nat.le_refl _, Nat.le_refl _⟩ (fun r10 u11 H lo hp hPS => ?_)
          obtain ⟨hp, hex, hfr⟩ := hp
          replace hF := xm_i hex hF
          obtain ⟨hwf, p12⟩ := hp
          have I : Wo w g s.heap u11 H lo := ⟨hPS.1, hPS.2, hwf⟩
          have rzu11 : ∀ k j : Nat, ¬ (k0 + 21 ≤ k ∧ k < k0 + 32) → u11.1 k j = v.1 k j := fun k j h => (hfr k j (fun z => h (by omega))).trans (rzv9 k j h)
          refine cSi E I (c_X7_withBit l w g u11 y17_2 y17_3 r10 E.2.2.1 I.2.2   ) (va_cwS 3 E.1.2.2.2.2 (gSs mw_3_125 mw_2_229 mw_1_1 mw_2_230) rfl rfl rfl (by decide +kernel) ⟨by decide, by decide⟩) rfl hl.1 rfl (Nat.le_of_ble_eq_true rfl) dX7_aims_67 ⟨Nat.le_refl _, Nat.le_refl _⟩ (fun r13 u14 H lo hp hPS => ?_)
          obtain ⟨hp, hex, hfr⟩ := hp
          replace hF := xl_i hex hF
          obtain ⟨hu, p15⟩ := hp
          rw [hu] at hPS
          have I : Wo w g s.heap u11 H lo := ⟨hPS.1, hPS.2, I.2.2⟩
          refine lv_istore_n (lv' := [(2, .int r13), (0, .ref (wq w k0)), (1, .int a0), (3, .int y17_3)]) hx hb dX7_aims_70 rfl hl (by decide) rfl (fun ls hl => ?_)
          exact B_71 _ _ u11 I r13 (by omega) (by omega) rzu11 hF ls (lv_sub hl [1, 2, 0, 3] rfl)
  refine lv_aload_n hx hb dX7_aims_0 rfl (lv_at hl 0 rfl) ?_
  refine g_StarWalk_now E I h_k0.1 mw_2_69 dX7_aims_1 ?_
  refine lv_iload_n hx hb dX7_aims_4 rfl (lv_at hl 1 rfl) ?_
  refine cVi E I (c_X0_hasPlanned l w g v (k0 + 12) a0 E.2.2.1 I.2.2 h_k0.2.2.1  ) (cwV 1 E.1.2.2.2.2 (gWs (C := "StarWalk$Night") mw_3_107 mw_3_45 mw_3_46 mw_1_3 mw_3_47) rfl rfl rfl (by decide +kernel) ⟨by decide, by decide⟩) h_k0.2.2.1.1.1 ((ce_o h_k0.2.2.1.1.2).trans rfl) rfl rfl hl.1 rfl (Nat.le_of_ble_eq_true rfl) dX7_aims_5 ⟨Nat.le_refl _, Nat.le_refl _⟩ (fun r16 u17 H lo hp hPS => ?_)
  obtain ⟨hp, hex, hfr⟩ := hp
  replace hF := xl_i hex hF
  obtain ⟨hu, p18⟩ := hp
  rw [hu] at hPS
  have I : Wo w g s.heap v H lo := ⟨hPS.1, hPS.2, I.2.2⟩
  refine bz_ne E (a := r16.toInt) rfl (tgt := 13) dX7_aims_8 (by decide) (fun c19 => ?_) (fun c19 => ?_)
  ·
    replace hF := if_f c19 hF
    refine lv_iconst (v := 0) hx hb dX7_aims_13 (by decide) ?_
    refine lv_istore_n (lv' := [(2, .int 0), (0, .ref (wq w k0)), (1, .int a0)]) hx hb dX7_aims_14 rfl hl (by decide) rfl (fun ls hl => ?_)
    refine lv_iconst (v := 0) hx hb dX7_aims_15 (by decide) ?_
    refine lv_istore_n (lv' := [(3, .int 0), (2, .int 0), (0, .ref (wq w k0)), (1, .int a0)]) hx hb dX7_aims_16 rfl hl (by decide) rfl (fun ls hl => ?_)
    exact L_17 ((2147483647 - (0 : Int32).toInt).toNat + 1) _ _ v I (0 : Int32) (0 : Int32) (by decide) (by omega) rz0 hF (Nat.lt_succ_self _) ls (lv_sub hl [2, 3, 1, 0] rfl)
  ·
    replace hF := if_t c19 hF
    refine lv_iconst (v := (-1)) hx hb dX7_aims_11 (by decide) ?_
    exact rI E I hr hlk rfl (by rw [← hpost]; exact ⟨⟨I.2.2, trivial⟩, hF.trans hres, rz0⟩) dX7_aims_12
def F_X7_whose (k0 : Nat) (v : St) : Int32 × St :=
xl (fun (self_4 : Int32 → Int32 → St → Int32 × St) (y4_1 : Int32) (y4_2 : Int32) (v_4 : St) =>
xl (v_4.1 (k0 + 12) 6) fun x1 =>
if y4_2.toInt < x1.toInt then (
xl (F_X6_begin (k0 + 21) (k0 + 12) v_4) fun u3 =>
xl (up1 u3 (k0 + 21 + 1) 7 y4_2) fun v5 =>
xm (F_X6_isAllAsSeen (k0 + 21) v5) fun r6 u7 =>
xl (F_X7_withBit y4_1 y4_2 r6 u7) fun r9 =>
xl (y4_2 + 1) fun x12 =>
(self_4 r9 x12 u7)) else (
(y4_1, v_4))) fun P_4 =>
(lp P_4 (fun _ _ _ => ((0 : Int32), v)) ((2147483647 - (0 : Int32).toInt).toNat + 1) (0 : Int32) (0 : Int32) v)
set_option maxHeartbeats 4000000 in
set_option maxRecDepth 100000 in
theorem c_X7_whose (l : Launch) (w : Wp) (g : Nat → Nat → Int32) (v : St) (k0 : Nat) (hq : Inj w) (hw : WF (wk w) g v) (h_k0 : oW w k0) : CTi w l yX7_whose (wsy yX7_whose prog_1_method_35_code 3 (some .int)) (rmL 7) [.ref (wq w k0)] v (fun (r : Int32) (u : St) => (WF (wk w) g u ∧ True) ∧ ((r, u) = F_X7_whose k0 v) ∧ (∀ k j : Nat, ¬ (k0 + 21 ≤ k ∧ k < k0 + 32) → u.1 k j = v.1 k j)) := by
  generalize hpost : (fun (r : Int32) (u : St) => (WF (wk w) g u ∧ True) ∧ ((r, u) = F_X7_whose k0 v) ∧ (∀ k j : Nat, ¬ (k0 + 21 ≤ k ∧ k < k0 + 32) → u.1 k j = v.1 k j)) = post
  refine CTi.of prog_1_method_35_code 3 (some .int) "StarWalk" (by decide +kernel) rfl hq hw (Nat.le_of_ble_eq_true rfl) ?_
  intro pg en s m ar bl me cd ls E I hr hlk hl
  have hx := E.1.1
  have hb := E.1.2.1
  have hl : lv_has ls 3 [(0, .ref (wq w k0))] := hl
  obtain ⟨res, hres⟩ : ∃ z, z = F_X7_whose k0 v := ⟨_, rfl⟩
  have hF := hres.symm
  unfold F_X7_whose at hF
  replace hres : res = F_X7_whose k0 v := hres
  have rz0 : ∀ k j : Nat, ¬ (k0 + 21 ≤ k ∧ k < k0 + 32) → v.1 k j = v.1 k j := fun _ _ _ => rfl
  obtain ⟨P_4, eP_4, hF⟩ := xl_e hF
  have L_4 : ∀ (n : Nat), ∀ (H : Heap) (lo : List Loc) (v_4 : St), Wo w g s.heap v_4 H lo → ∀ (y4_1 : Int32) (y4_2 : Int32), (0 ≤ y4_2.toInt ∧ y4_2.toInt ≤ 3) → (∀ k j : Nat, ¬ (k0 + 21 ≤ k ∧ k < k0 + 32) → v_4.1 k j = v.1 k j) → (lp P_4 (fun _ _ _ => ((0 : Int32), v)) n y4_1 y4_2 v_4 = res) → (2147483647 - y4_2.toInt).toNat < n → ∀ (ls : Array Slot), lv_has ls 3 [(0, .ref (wq w k0)), (1, .int y4_1), (2, .int y4_2)] → W pg l en (rmL 7) s m ar bl me cd H lo 0 0 (Zi w bl ar s post) (F0 m 4 ls []) := by
    intro n
    induction n with
    | zero => intro H lo v_4 I y4_1 y4_2 hy4_2 rB4_Z hF hm; exact absurd hm (Nat.not_lt_zero _)
    | succ n ih_4 =>
      intro H lo v_4 I y4_1 y4_2 hy4_2 rB4_Z hF hm ls hl
      replace hF := lpa3 eP_4 hF
      refine lv_iload_n hx hb dX7_whose_4 rfl (lv_at hl 2 rfl) ?_
      refine lv_aload_n hx hb dX7_whose_5 rfl (lv_at hl 0 rfl) ?_
      refine g_StarWalk_now E I h_k0.1 mw_2_69 dX7_whose_6 ?_
      refine g_Night_walkers E I h_k0.2.2.1.1 mw_1_92 dX7_whose_9 ?_
      refine lv_topi (fun x1 ex1 => ?_)
      replace hF := xl_i (ex1) hF
      have hx1 := r_Night_walkers I h_k0.2.2.1.1
      rw [← ex1] at hx1
      refine bi_ge E (a := y4_2.toInt) (b := x1.toInt) rfl rfl (tgt := 56) dX7_whose_12 (by decide) (fun c2 => ?_) (fun c2 => ?_)
      ·
        replace hF := if_l c2 hF
        refine lv_iload_n hx hb dX7_whose_56 rfl (lv_at hl 1 rfl) ?_
        exact rI E I hr hlk rfl (by rw [← hpost]; exact ⟨⟨I.2.2, trivial⟩, hF.trans hres, rB4_Z⟩) dX7_whose_57
      ·
        replace hF := if_t c2 hF
        refine lv_aload_n hx hb dX7_whose_15 rfl (lv_at hl 0 rfl) ?_
        refine g_StarWalk_trial E I h_k0.1 mw_2_70 dX7_whose_16 ?_
        refine lv_aload_n hx hb dX7_whose_19 rfl (lv_at hl 0 rfl) ?_
        refine g_StarWalk_now E I h_k0.1 mw_2_69 dX7_whose_20 ?_
        refine cVv E I (c_X6_begin l w g v_4 (k0 + 21) (k0 + 12) E.2.2.1 I.2.2 h_k0.2.2.2.1 h_k0.2.2.1  ) (cwV 1 E.1.2.2.2.2 (gWs (C := "StarWalk$Trial") mw_3_201 mw_3_202 mw_3_203 mw_1_5 mw_3_204) rfl rfl rfl (by decide +kernel) ⟨by decide, by decide⟩) h_k0.2.2.2.1.1.1 ((ce_o h_k0.2.2.2.1.1.2).trans rfl) rfl rfl hl.1 rfl (Nat.le_of_ble_eq_true rfl) dX7_whose_23 ⟨Nat.le_refl _, Nat.le_refl _⟩ (fun u3 H lo hp hPS => ?_)
        obtain ⟨hp, hex, hfr⟩ := hp
        replace hF := xl_i hex hF
        obtain ⟨hwf, p4⟩ := hp
        have I : Wo w g s.heap u3 H lo := ⟨hPS.1, hPS.2, hwf⟩
        have rzu3 : ∀ k j : Nat, ¬ (k0 + 21 ≤ k ∧ k < k0 + 32) → u3.1 k j = v.1 k j := fun k j h => (hfr k j (fun z => h (by omega))).trans (rB4_Z k j h)
        refine lv_aload_n hx hb dX7_whose_26 rfl (lv_at hl 0 rfl) ?_
        refine g_StarWalk_trial E I h_k0.1 mw_2_70 dX7_whose_27 ?_
        refine g_Trial_night E I h_k0.2.2.2.1.1 mw_1_215 dX7_whose_30 ?_
        refine lv_iload_n hx hb dX7_whose_33 rfl (lv_at hl 2 rfl) ?_
        refine p_Night_inFront E I h_k0.2.2.2.1.2.1.1 mw_1_95 dX7_whose_34 (fun H lo I => ?_)
        generalize ev5 : up1 u3 (k0 + 21 + 1) 7 y4_2 = v5 at I
        replace hF := xl_i (ev5.symm) hF
        have rzv5 : ∀ k j : Nat, ¬ (k0 + 21 ≤ k ∧ k < k0 + 32) → v5.1 k j = v.1 k j := fun k j h => fz_u ev5 (by omega) (rzu3 k j h)
        refine lv_iload_n hx hb dX7_whose_37 rfl (lv_at hl 1 rfl) ?_
        refine lv_iload_n hx hb dX7_whose_38 rfl (lv_at hl 2 rfl) ?_
        refine lv_aload_n hx hb dX7_whose_39 rfl (lv_at hl 0 rfl) ?_
        refine g_StarWalk_trial E I h_k0.1 mw_2_70 dX7_whose_40 ?_
        refine cVi E I (c_X6_isAllAsSeen l w g v5 (k0 + 21) E.2.2.1 I.2.2 h_k0.2.2.2.1  ) (cwV 0 E.1.2.2.2.2 (gWs (C := "StarWalk$Trial") mw_4_85 mw_4_86 mw_4_87 mw_1_5 mw_4_88) rfl rfl rfl (by decide +kernel) ⟨by decide, by decide⟩) h_k0.2.2.2.1.1.1 ((ce_o h_k0.2.2.2.1.1.2).trans rfl) rfl rfl hl.1 rfl (Nat.le_of_ble_eq_true rfl) dX7_whose_43 ⟨Nat.le_refl _, Nat.le_refl _⟩ (fun r6 u7 H lo hp hPS => ?_)
        obtain ⟨hp, hex, hfr⟩ := hp
        replace hF := xm_i hex hF
        obtain ⟨hwf, p8⟩ := hp
        have I : Wo w g s.heap u7 H lo := ⟨hPS.1, hPS.2, hwf⟩
        have rzu7 : ∀ k j : Nat, ¬ (k0 + 21 ≤ k ∧ k < k0 + 32) → u7.1 k j = v.1 k j := fun k j h => (hfr k j (fun z => h (by omega))).trans (rzv5 k j h)
        refine cSi E I (c_X7_withBit l w g u7 y4_1 y4_2 r6 E.2.2.1 I.2.2   ) (va_cwS 3 E.1.2.2.2.2 (gSs mw_3_125 mw_2_229 mw_1_1 mw_2_230) rfl rfl rfl (by decide +kernel) ⟨by decide, by decide⟩) rfl hl.1 rfl (Nat.le_of_ble_eq_true rfl) dX7_whose_46 ⟨Nat.le_refl _, Nat.le_refl _⟩ (fun r9 u10 H lo hp hPS => ?_)
        obtain ⟨hp, hex, hfr⟩ := hp
        replace hF := xl_i hex hF
        obtain ⟨hu, p11⟩ := hp
        rw [hu] at hPS
        have I : Wo w g s.heap u7 H lo := ⟨hPS.1, hPS.2, I.2.2⟩
        refine lv_istore_n (lv' := [(1, .int r9), (0, .ref (wq w k0)), (2, .int y4_2)]) hx hb dX7_whose_49 rfl hl (by decide) rfl (fun ls hl => ?_)
        obtain ⟨x12, ex12⟩ : ∃ z : Int32, z = y4_2 + 1 := ⟨_, rfl⟩
        replace hF := xl_i (ex12) hF
        have hx12 : x12.toInt = y4_2.toInt + (1) := by rw [ex12]; exact adI (a := y4_2.toInt) (b := 1) rfl rfl (by omega) (by omega)
        refine lv_iinc (v := x12) (lv' := [(2, .int x12), (1, .int r9), (0, .ref (wq w k0))]) hx hb dX7_whose_50 hl (k := 2) rfl (by rw [ex12]; rfl) (by decide) rfl (fun ls hl => ?_)
        refine lv_goto (tgt := 4) hx hb dX7_whose_53 (by decide) ?_
        exact ih_4 _ _ u7 I r9 x12 (by omega) rzu7 hF (by omega) ls (lv_sub hl [2, 1, 0] rfl)
  refine lv_iconst (v := 0) hx hb dX7_whose_0 (by decide) ?_
  refine lv_istore_n (lv' := [(1, .int 0), (0, .ref (wq w k0))]) hx hb dX7_whose_1 rfl hl (by decide) rfl (fun ls hl => ?_)
  refine lv_iconst (v := 0) hx hb dX7_whose_2 (by decide) ?_
  refine lv_istore_n (lv' := [(2, .int 0), (1, .int 0), (0, .ref (wq w k0))]) hx hb dX7_whose_3 rfl hl (by decide) rfl (fun ls hl => ?_)
  exact L_4 ((2147483647 - (0 : Int32).toInt).toNat + 1) _ _ v I (0 : Int32) (0 : Int32) (by decide) rz0 hF (Nat.lt_succ_self _) ls (lv_sub hl [2, 1, 0] rfl)
def F_X7_fits (k0 : Nat) (a0 : Int32) (v : St) : Int32 × St :=
xl (fun (self_17 : Int32 → Int32 → Int32 → St → Int32 × St) (y17_2 : Int32) (y17_3 : Int32) (y17_4 : Int32) (v_17 : St) =>
xl (fun (y80_2 : Int32) (y80_3 : Int32) (v_80 : St) =>
xl (y17_4 + 1) fun x1 =>
(self_17 y80_2 y80_3 x1 v_80)) fun J_80 =>
xl (fun (y79_2 : Int32) (z79_0 : Int32) (v_79 : St) =>
(J_80 y79_2 z79_0 v_79)) fun J_79 =>
xl (v_17.1 (k0 + 12) 3) fun x2 =>
xl ((1 : Int32) <<< (x2 &&& 31)) fun x3 =>
if y17_4.toInt < x3.toInt then (
xl (F_X6_begin (k0 + 21) (k0 + 12) v_17) fun u6 =>
xl (up1 u6 (k0 + 21 + 1) 4 y17_4) fun v8 =>
xm (F_X6_isAllAsSeen (k0 + 21) v8) fun r9 u10 =>
if r9.toInt = 0 then (
(J_80 y17_2 y17_3 u10)) else (
xl (y17_2 + 1) fun x13 =>
if y17_3.toInt = (-4) then (
(J_79 x13 y17_4 u10)) else (
(J_79 x13 y17_3 u10)))) else (
if a0.toInt = 0 then (
(y17_2, v_17)) else (
(y17_3, v_17)))) fun P_17 =>
xl (F_X7_isZeroOrOne a0 v) fun r15 =>
if r15.toInt = 0 then (
((-1 : Int32), v)) else (
(lp P_17 (fun _ _ _ _ => ((0 : Int32), v)) ((2147483647 - (0 : Int32).toInt).toNat + 1) (0 : Int32) (-4 : Int32) (0 : Int32) v))
set_option maxHeartbeats 4000000 in
set_option maxRecDepth 100000 in
theorem c_X7_fits (l : Launch) (w : Wp) (g : Nat → Nat → Int32) (v : St) (k0 : Nat) (a0 : Int32) (hq : Inj w) (hw : WF (wk w) g v) (h_k0 : oW w k0) : CTi w l yX7_fits (wsy yX7_fits prog_1_method_36_code 5 (some .int)) (rmL 7) [.ref (wq w k0), .int a0] v (fun (r : Int32) (u : St) => (WF (wk w) g u ∧ True) ∧ ((r, u) = F_X7_fits k0 a0 v) ∧ (∀ k j : Nat, ¬ (k0 + 21 ≤ k ∧ k < k0 + 32) → u.1 k j = v.1 k j)) := by
  generalize hpost : (fun (r : Int32) (u : St) => (WF (wk w) g u ∧ True) ∧ ((r, u) = F_X7_fits k0 a0 v) ∧ (∀ k j : Nat, ¬ (k0 + 21 ≤ k ∧ k < k0 + 32) → u.1 k j = v.1 k j)) = post
  refine CTi.of prog_1_method_36_code 5 (some .int) "StarWalk" (by decide +kernel) rfl hq hw (Nat.le_of_ble_eq_true rfl) ?_
  intro pg en s m ar bl me cd ls E I hr hlk hl
  have hx := E.1.1
  have hb := E.1.2.1
  have hl : lv_has ls 5 [(0, .ref (wq w k0)), (1, .int a0)] := hl
  obtain ⟨res, hres⟩ : ∃ z, z = F_X7_fits k0 a0 v := ⟨_, rfl⟩
  have hF := hres.symm
  unfold F_X7_fits at hF
  replace hres : res = F_X7_fits k0 a0 v := hres
  have rz0 : ∀ k j : Nat, ¬ (k0 + 21 ≤ k ∧ k < k0 + 32) → v.1 k j = v.1 k j := fun _ _ _ => rfl
  obtain ⟨P_17, eP_17, hF⟩ := xl_e hF
  have L_17 : ∀ (n : Nat), ∀ (H : Heap) (lo : List Loc) (v_17 : St), Wo w g s.heap v_17 H lo → ∀ (y17_2 : Int32) (y17_3 : Int32) (y17_4 : Int32), (-4 ≤ y17_3.toInt ∧ y17_3.toInt ≤ 2147483646) → (0 ≤ y17_4.toInt) → (0 ≤ a0.toInt ∧ a0.toInt ≤ 1) → (∀ k j : Nat, ¬ (k0 + 21 ≤ k ∧ k < k0 + 32) → v_17.1 k j = v.1 k j) → (lp P_17 (fun _ _ _ _ => ((0 : Int32), v)) n y17_2 y17_3 y17_4 v_17 = res) → (2147483647 - y17_4.toInt).toNat < n → ∀ (ls : Array Slot), lv_has ls 5 [(0, .ref (wq w k0)), (1, .int a0), (2, .int y17_2), (3, .int y17_3), (4, .int y17_4)] → W pg l en (rmL 7) s m ar bl me cd H lo 0 0 (Zi w bl ar s post) (F0 m 17 ls []) := by
    intro n
    induction n with
    | zero => intro H lo v_17 I y17_2 y17_3 y17_4 hy17_3 hy17_4 hE17_0 rB17_Z hF hm; exact absurd hm (Nat.not_lt_zero _)
    | succ n ih_17 =>
      intro H lo v_17 I y17_2 y17_3 y17_4 hy17_3 hy17_4 hE17_0 rB17_Z hF hm ls hl
      replace hF := lpa4 eP_17 hF
      obtain ⟨J_80, eJ_80, hF⟩ := xl_e hF
      have B_80 : ∀ (H : Heap) (lo : List Loc) (v_80 : St), Wo w g s.heap v_80 H lo → ∀ (y80_2 : Int32) (y80_3 : Int32), (-4 ≤ y80_3.toInt ∧ y80_3.toInt ≤ 2147483646) → (0 ≤ a0.toInt ∧ a0.toInt ≤ 1) → (0 ≤ y17_4.toInt ∧ y17_4.toInt ≤ 2147483646) → (∀ k j : Nat, ¬ (k0 + 21 ≤ k ∧ k < k0 + 32) → v_80.1 k j = v.1 k j) → (J_80 y80_2 y80_3 v_80 = res) → ∀ (ls : Array Slot), lv_has ls 5 [(0, .ref (wq w k0)), (1, .int a0), (2, .int y80_2), (3, .int y80_3), (4, .int y17_4)] → W pg l en (rmL 7) s m ar bl me cd H lo 0 0 (Zi w bl ar s post) (F0 m 80 ls []) := by
        intro H lo v_80 I y80_2 y80_3 hy80_3 hE80_0 hE80_1 rB80_Z hF ls hl
        replace hF := ap3 eJ_80 hF
        obtain ⟨x1, ex1⟩ : ∃ z : Int32, z = y17_4 + 1 := ⟨_, rfl⟩
        replace hF := xl_i (ex1) hF
        have hx1 : x1.toInt = y17_4.toInt + (1) := by rw [ex1]; exact adI (a := y17_4.toInt) (b := 1) rfl rfl (by omega) (by omega)
        refine lv_iinc (v := x1) (lv' := [(4, .int x1), (0, .ref (wq w k0)), (1, .int a0), (2, .int y80_2), (3, .int y80_3)]) hx hb dX7_fits_80 hl (k := 4) rfl (by rw [ex1]; rfl) (by decide) rfl (fun ls hl => ?_)
        refine lv_goto (tgt := 17) hx hb dX7_fits_83 (by decide) ?_
        exact ih_17 _ _ v_80 I y80_2 y80_3 x1 (by omega) (by omega) (by omega) rB80_Z hF (by omega) ls (lv_sub hl [1, 2, 3, 4, 0] rfl)
      obtain ⟨J_79, eJ_79, hF⟩ := xl_e hF
      have B_79 : ∀ (H : Heap) (lo : List Loc) (v_79 : St), Wo w g s.heap v_79 H lo → ∀ (y79_2 : Int32) (z79_0 : Int32), (-4 ≤ z79_0.toInt ∧ z79_0.toInt ≤ 2147483646) → (0 ≤ a0.toInt ∧ a0.toInt ≤ 1) → (0 ≤ y17_4.toInt ∧ y17_4.toInt ≤ 2147483646) → (∀ k j : Nat, ¬ (k0 + 21 ≤ k ∧ k < k0 + 32) → v_79.1 k j = v.1 k j) → (J_79 y79_2 z79_0 v_79 = res) → ∀ (ls : Array Slot), lv_has ls 5 [(0, .ref (wq w k0)), (1, .int a0), (2, .int y79_2), (4, .int y17_4)] → W pg l en (rmL 7) s m ar bl me cd H lo 0 0 (Zi w bl ar s post) (F0 m 79 ls [.int z79_0]) := by
        intro H lo v_79 I y79_2 z79_0 hz79_0 hE79_0 hE79_1 rB79_Z hF ls hl
        replace hF := ap3 eJ_79 hF
        refine lv_istore_n (lv' := [(3, .int z79_0), (0, .ref (wq w k0)), (1, .int a0), (2, .int y79_2), (4, .int y17_4)]) hx hb dX7_fits_79 rfl hl (by decide) rfl (fun ls hl => ?_)
        exact B_80 _ _ v_79 I y79_2 z79_0 (by omega) (by omega) (by omega) rB79_Z hF ls (lv_sub hl [1, 2, 3, 0, 4] rfl)
      refine lv_iload hx hb dX7_fits_17 (lv_at hl 4 rfl) ?_
      refine lv_iconst (v := 1) hx hb dX7_fits_19 (by decide) ?_
      refine lv_aload_n hx hb dX7_fits_20 rfl (lv_at hl 0 rfl) ?_
      refine g_StarWalk_now E I h_k0.1 mw_2_69 dX7_fits_21 ?_
      refine g_Night_stars E I h_k0.2.2.1.1 mw_1_85 dX7_fits_24 ?_
      refine lv_topi (fun x2 ex2 => ?_)
      replace hF := xl_i (ex2) hF
      have hx2 := r_Night_stars I h_k0.2.2.1.1
      rw [← ex2] at hx2
      refine lv_ishl hx hb dX7_fits_27 ?_
      refine lv_topi (fun x3 ex3 => ?_)
      replace hF := xl_i (ex3) hF
      refine bi_ge E (a := y17_4.toInt) (b := x3.toInt) rfl rfl (tgt := 86) dX7_fits_28 (by decide) (fun c4 => ?_) (fun c4 => ?_)
      ·
        have rgy17_4 := i32_rng y17_4
        have rgx3 := i32_rng x3
        replace hF := if_l c4 hF
        refine lv_iload_n hx hb dX7_fits_86 rfl (lv_at hl 1 rfl) ?_
        refine bz_ne E (a := a0.toInt) rfl (tgt := 94) dX7_fits_87 (by decide) (fun c5 => ?_) (fun c5 => ?_)
        ·
          replace hF := if_f c5 hF
          refine lv_iload_n hx hb dX7_fits_94 rfl (lv_at hl 3 rfl) ?_
          exact rI E I hr hlk rfl (by rw [← hpost]; exact ⟨⟨I.2.2, trivial⟩, hF.trans hres, rB17_Z⟩) dX7_fits_95
        ·
          replace hF := if_t c5 hF
          refine lv_iload_n hx hb dX7_fits_90 rfl (lv_at hl 2 rfl) ?_
          refine lv_goto (tgt := 95) hx hb dX7_fits_91 (by decide) ?_
          exact rI E I hr hlk rfl (by rw [← hpost]; exact ⟨⟨I.2.2, trivial⟩, hF.trans hres, rB17_Z⟩) dX7_fits_95
      ·
        have rgy17_4 := i32_rng y17_4
        have rgx3 := i32_rng x3
        replace hF := if_t c4 hF
        refine lv_aload_n hx hb dX7_fits_31 rfl (lv_at hl 0 rfl) ?_
        refine g_StarWalk_trial E I h_k0.1 mw_2_70 dX7_fits_32 ?_
        refine lv_aload_n hx hb dX7_fits_35 rfl (lv_at hl 0 rfl) ?_
        refine g_StarWalk_now E I h_k0.1 mw_2_69 dX7_fits_36 ?_
        refine cVv E I (c_X6_begin l w g v_17 (k0 + 21) (k0 + 12) E.2.2.1 I.2.2 h_k0.2.2.2.1 h_k0.2.2.1  ) (cwV 1 E.1.2.2.2.2 (gWs (C := "StarWalk$Trial") mw_3_201 mw_3_202 mw_3_203 mw_1_5 mw_3_204) rfl rfl rfl (by decide +kernel) ⟨by decide, by decide⟩) h_k0.2.2.2.1.1.1 ((ce_o h_k0.2.2.2.1.1.2).trans rfl) rfl rfl hl.1 rfl (Nat.le_of_ble_eq_true rfl) dX7_fits_39 ⟨Nat.le_refl _, Nat.le_refl _⟩ (fun u6 H lo hp hPS => ?_)
        obtain ⟨hp, hex, hfr⟩ := hp
        replace hF := xl_i hex hF
        obtain ⟨hwf, p7⟩ := hp
        have I : Wo w g s.heap u6 H lo := ⟨hPS.1, hPS.2, hwf⟩
        have rzu6 : ∀ k j : Nat, ¬ (k0 + 21 ≤ k ∧ k < k0 + 32) → u6.1 k j = v.1 k j := fun k j h => (hfr k j (fun z => h (by omega))).trans (rB17_Z k j h)
        refine lv_aload_n hx hb dX7_fits_42 rfl (lv_at hl 0 rfl) ?_
        refine g_StarWalk_trial E I h_k0.1 mw_2_70 dX7_fits_43 ?_
        refine g_Trial_night E I h_k0.2.2.2.1.1 mw_1_215 dX7_fits_46 ?_
        refine lv_iload hx hb dX7_fits_49 (lv_at hl 4 rfl) ?_
        refine p_Night_known E I h_k0.2.2.2.1.2.1.1 mw_1_88 dX7_fits_51 (fun H lo I => ?_)
        generalize ev8 : up1 u6 (k0 + 21 + 1) 4 y17_4 = v8 at I
        replace hF := xl_i (ev8.symm) hF
        have rzv8 : ∀ k j : Nat, ¬ (k0 + 21 ≤ k ∧ k < k0 + 32) → v8.1 k j = v.1 k j := fun k j h => fz_u ev8 (by omega) (rzu6 k j h)
        refine lv_aload_n hx hb dX7_fits_54 rfl (lv_at hl 0 rfl) ?_
        refine g_StarWalk_trial E I h_k0.1 mw_2_70 dX7_fits_55 ?_
        refine cVi E I (c_X6_isAllAsSeen l w g v8 (k0 + 21) E.2.2.1 I.2.2 h_k0.2.2.2.1  ) (cwV 0 E.1.2.2.2.2 (gWs (C := "StarWalk$Trial") mw_4_85 mw_4_86 mw_4_87 mw_1_5 mw_4_88) rfl rfl rfl (by decide +kernel) ⟨by decide, by decide⟩) h_k0.2.2.2.1.1.1 ((ce_o h_k0.2.2.2.1.1.2).trans rfl) rfl rfl hl.1 rfl (Nat.le_of_ble_eq_true rfl) dX7_fits_58 ⟨Nat.le_refl _, Nat.le_refl _⟩ (fun r9 u10 H lo hp hPS => ?_)
        obtain ⟨hp, hex, hfr⟩ := hp
        replace hF := xm_i hex hF
        obtain ⟨hwf, p11⟩ := hp
        have I : Wo w g s.heap u10 H lo := ⟨hPS.1, hPS.2, hwf⟩
        have rzu10 : ∀ k j : Nat, ¬ (k0 + 21 ≤ k ∧ k < k0 + 32) → u10.1 k j = v.1 k j := fun k j h => (hfr k j (fun z => h (by omega))).trans (rzv8 k j h)
        refine bz_eq E (a := r9.toInt) rfl (tgt := 80) dX7_fits_61 (by decide) (fun c12 => ?_) (fun c12 => ?_)
        ·
          replace hF := if_t c12 hF
          exact B_80 _ _ u10 I y17_2 y17_3 (by omega) (by omega) (by omega) rzu10 hF ls (lv_sub hl [0, 1, 2, 3, 4] rfl)
        ·
          replace hF := if_f c12 hF
          obtain ⟨x13, ex13⟩ : ∃ z : Int32, z = y17_2 + 1 := ⟨_, rfl⟩
          replace hF := xl_i (ex13) hF
          refine lv_iinc (v := x13) (lv' := [(2, .int x13), (0, .ref (wq w k0)), (1, .int a0), (3, .int y17_3), (4, .int y17_4)]) hx hb dX7_fits_64 hl (k := 2) rfl (by rw [ex13]; rfl) (by decide) rfl (fun ls hl => ?_)
          refine lv_iload_n hx hb dX7_fits_67 rfl (lv_at hl 3 rfl) ?_
          refine lv_bipush (v := (-4)) hx hb dX7_fits_68 (by decide) ?_
          refine bi_ne E (a := y17_3.toInt) (b := (-4)) rfl rfl (tgt := 78) dX7_fits_70 (by decide) (fun c14 => ?_) (fun c14 => ?_)
          ·
            replace hF := if_f c14 hF
            refine lv_iload_n hx hb dX7_fits_78 rfl (lv_at hl 3 rfl) ?_
            exact B_79 _ _ u10 I x13 y17_3 (by omega) (by omega) (by omega) rzu10 hF ls (lv_sub hl [1, 2, 0, 4] rfl)
          ·
            replace hF := if_t c14 hF
            refine lv_iload hx hb dX7_fits_73 (lv_at hl 4 rfl) ?_
            refine lv_goto (tgt := 79) hx hb dX7_fits_75 (by decide) ?_
            exact B_79 _ _ u10 I x13 y17_4 (by omega) (by omega) (by omega) rzu10 hF ls (lv_sub hl [1, 2, 0, 4] rfl)
  refine lv_iload_n hx hb dX7_fits_0 rfl (lv_at hl 1 rfl) ?_
  refine cSi E I (c_X7_isZeroOrOne l w g v a0 E.2.2.1 I.2.2   ) (va_cwS 1 E.1.2.2.2.2 (gSs mw_4_9 mw_4_10 mw_1_1 mw_4_11) rfl rfl rfl (by decide +kernel) ⟨by decide, by decide⟩) rfl hl.1 rfl (Nat.le_of_ble_eq_true rfl) dX7_fits_1 ⟨Nat.le_refl _, Nat.le_refl _⟩ (fun r15 u16 H lo hp hPS => ?_)
  obtain ⟨hp, hex, hfr⟩ := hp
  replace hF := xl_i hex hF
  obtain ⟨hu, p17⟩ := hp
  rw [hu] at hPS
  have I : Wo w g s.heap v H lo := ⟨hPS.1, hPS.2, I.2.2⟩
  refine bz_ne E (a := r15.toInt) rfl (tgt := 9) dX7_fits_4 (by decide) (fun c18 => ?_) (fun c18 => ?_)
  ·
    replace hF := if_f c18 hF
    refine lv_iconst (v := 0) hx hb dX7_fits_9 (by decide) ?_
    refine lv_istore_n (lv' := [(2, .int 0), (0, .ref (wq w k0)), (1, .int a0)]) hx hb dX7_fits_10 rfl hl (by decide) rfl (fun ls hl => ?_)
    refine lv_bipush (v := (-4)) hx hb dX7_fits_11 (by decide) ?_
    refine lv_istore_n (lv' := [(3, .int (-4)), (2, .int 0), (0, .ref (wq w k0)), (1, .int a0)]) hx hb dX7_fits_13 rfl hl (by decide) rfl (fun ls hl => ?_)
    refine lv_iconst (v := 0) hx hb dX7_fits_14 (by decide) ?_
    refine lv_istore (lv' := [(4, .int 0), (3, .int (-4)), (2, .int 0), (0, .ref (wq w k0)), (1, .int a0)]) hx hb dX7_fits_15 hl (by decide) rfl (fun ls hl => ?_)
    exact L_17 ((2147483647 - (0 : Int32).toInt).toNat + 1) _ _ v I (0 : Int32) (-4 : Int32) (0 : Int32) (by decide) (by decide) (by omega) rz0 hF (Nat.lt_succ_self _) ls (lv_sub hl [3, 4, 2, 1, 0] rfl)
  ·
    replace hF := if_t c18 hF
    refine lv_iconst (v := (-1)) hx hb dX7_fits_7 (by decide) ?_
    exact rI E I hr hlk rfl (by rw [← hpost]; exact ⟨⟨I.2.2, trivial⟩, hF.trans hres, rz0⟩) dX7_fits_8
def F_X7_drift (k0 : Nat) (a0 : Int32) (a1 : Int32) (a2 : Int32) (v : St) : Int32 × St :=
xl (fun (self_42 : Int32 → Int32 → St → Int32 × St) (y42_4 : Int32) (y42_5 : Int32) (v_42 : St) =>
xl (fun (y121_4 : Int32) (z121_2 : Int32) (v_121 : St) =>
xm (F_X0_step (k0 + 12) (k0 + 61) z121_2 v_121) fun r1 u2 =>
xl (y42_5 + 1) fun x4 =>
(self_42 y121_4 x4 u2)) fun J_121 =>
if y42_5.toInt < a1.toInt then (
xl (y42_4 * (1103515245 : Int32)) fun x10 =>
xl (x10 + (12345 : Int32)) fun x11 =>
xl ((x11.toUInt32 >>> ((16 : Int32).toUInt32 &&& Int32.toUInt32 31)).toInt32) fun x12 =>
xl (x12 &&& (32767 : Int32)) fun x13 =>
xl (x13 - x13 / (7 : Int32) * (7 : Int32)) fun x14 =>
xl (y42_5 - y42_5 / (10 : Int32) * (10 : Int32)) fun x15 =>
xl (up1 v_42 (k0 + 61) 0 x15) fun v16 =>
xl (up1 v16 (k0 + 61) 3 (99 : Int32)) fun v17 =>
xl (F_X0_hasAim (k0 + 12) x14 v17) fun r18 =>
if r18.toInt = 0 then (
(J_121 x11 (5 : Int32) v17)) else (
(J_121 x11 x14 v17))) else (
if a2.toInt = 0 then (
xl (v_42.1 (k0 + 61) 1) fun x9 =>
(x9, v_42)) else (
xl (v_42.1 (k0 + 61) 2) fun x7 =>
xl ((1000 : Int32) + x7) fun x8 =>
(x8, v_42)))) fun P_42 =>
if a1.toInt < 1 then (
((-1 : Int32), v)) else (
if 30 < a1.toInt then (
((-1 : Int32), v)) else (
xl (F_X7_isZeroOrOne a2 v) fun r24 =>
if r24.toInt = 0 then (
((-1 : Int32), v)) else (
xl (up1 v (k0 + 61) 1 (0 : Int32)) fun v28 =>
xl (up1 v28 (k0 + 61) 2 (0 : Int32)) fun v29 =>
(lp P_42 (fun _ _ _ => ((0 : Int32), v)) ((2147483647 - (0 : Int32).toInt).toNat + 1) a0 (0 : Int32) v29))))
set_option maxHeartbeats 4000000 in
set_option maxRecDepth 100000 in
theorem c_X7_drift (l : Launch) (w : Wp) (g : Nat → Nat → Int32) (v : St) (k0 : Nat) (a0 : Int32) (a1 : Int32) (a2 : Int32) (hq : Inj w) (hw : WF (wk w) g v) (h_k0 : oW w k0) : CTi w l yX7_drift (wsy yX7_drift prog_1_method_37_code 7 (some .int)) (rmL 5) [.ref (wq w k0), .int a0, .int a1, .int a2] v (fun (r : Int32) (u : St) => (WF (wk w) g u ∧ True) ∧ ((r, u) = F_X7_drift k0 a0 a1 a2 v) ∧ (∀ k j : Nat, ¬ (k = k0 + 61) → u.1 k j = v.1 k j)) := by
  generalize hpost : (fun (r : Int32) (u : St) => (WF (wk w) g u ∧ True) ∧ ((r, u) = F_X7_drift k0 a0 a1 a2 v) ∧ (∀ k j : Nat, ¬ (k = k0 + 61) → u.1 k j = v.1 k j)) = post
  refine CTi.of prog_1_method_37_code 7 (some .int) "StarWalk" (by decide +kernel) rfl hq hw (Nat.le_of_ble_eq_true rfl) ?_
  intro pg en s m ar bl me cd ls E I hr hlk hl
  have hx := E.1.1
  have hb := E.1.2.1
  have hl : lv_has ls 7 [(0, .ref (wq w k0)), (1, .int a0), (2, .int a1), (3, .int a2)] := hl
  obtain ⟨res, hres⟩ : ∃ z, z = F_X7_drift k0 a0 a1 a2 v := ⟨_, rfl⟩
  have hF := hres.symm
  unfold F_X7_drift at hF
  replace hres : res = F_X7_drift k0 a0 a1 a2 v := hres
  have rz0 : ∀ k j : Nat, ¬ (k = k0 + 61) → v.1 k j = v.1 k j := fun _ _ _ => rfl
  obtain ⟨P_42, eP_42, hF⟩ := xl_e hF
  have L_42 : ∀ (n : Nat), ∀ (H : Heap) (lo : List Loc) (v_42 : St), Wo w g s.heap v_42 H lo → ∀ (y42_4 : Int32) (y42_5 : Int32), (0 ≤ y42_5.toInt ∧ y42_5.toInt ≤ 31) → (1 ≤ a1.toInt ∧ a1.toInt ≤ 30) → (0 ≤ a2.toInt ∧ a2.toInt ≤ 1) → (∀ k j : Nat, ¬ (k = k0 + 61) → v_42.1 k j = v.1 k j) → (lp P_42 (fun _ _ _ => ((0 : Int32), v)) n y42_4 y42_5 v_42 = res) → (2147483647 - y42_5.toInt).toNat < n → ∀ (ls : Array Slot), lv_has ls 7 [(0, .ref (wq w k0)), (2, .int a1), (3, .int a2), (4, .int y42_4), (5, .int y42_5)] → W pg l en (rmL 5) s m ar bl me cd H lo 0 0 (Zi w bl ar s post) (F0 m 42 ls []) := by
    intro n
    induction n with
    | zero => intro H lo v_42 I y42_4 y42_5 hy42_5 hE42_0 hE42_1 rB42_Z hF hm; exact absurd hm (Nat.not_lt_zero _)
    | succ n ih_42 =>
      intro H lo v_42 I y42_4 y42_5 hy42_5 hE42_0 hE42_1 rB42_Z hF hm ls hl
      replace hF := lpa3 eP_42 hF
      obtain ⟨J_121, eJ_121, hF⟩ := xl_e hF
      have B_121 : ∀ (H : Heap) (lo : List Loc) (v_121 : St), Wo w g s.heap v_121 H lo → ∀ (y121_4 : Int32) (z121_2 : Int32), (0 ≤ z121_2.toInt ∧ z121_2.toInt ≤ 6) → (1 ≤ a1.toInt ∧ a1.toInt ≤ 30) → (0 ≤ a2.toInt ∧ a2.toInt ≤ 1) → (0 ≤ y42_5.toInt ∧ y42_5.toInt ≤ 30) → (∀ k j : Nat, ¬ (k = k0 + 61) → v_121.1 k j = v.1 k j) → (J_121 y121_4 z121_2 v_121 = res) → ∀ (ls : Array Slot), lv_has ls 7 [(0, .ref (wq w k0)), (2, .int a1), (3, .int a2), (4, .int y121_4), (5, .int y42_5)] → W pg l en (rmL 5) s m ar bl me cd H lo 0 0 (Zi w bl ar s post) (F0 m 121 ls [.int z121_2, .ref (wq w (k0 + 61)), .ref (wq w (k0 + 12))]) := by
        intro H lo v_121 I y121_4 z121_2 hz121_2 hE121_0 hE121_1 hE121_2 rB121_Z hF ls hl
        replace hF := ap3 eJ_121 hF
        refine cVi E I (c_X0_step l w g v_121 (k0 + 12) (k0 + 61) z121_2 E.2.2.1 I.2.2 h_k0.2.2.1 h_k0.2.2.2.2.2.2.1  ) (cwV 2 E.1.2.2.2.2 (gWs (C := "StarWalk$Night") mw_3_176 mw_3_177 mw_3_178 mw_1_3 mw_3_179) rfl rfl rfl (by decide +kernel) ⟨by decide, by decide⟩) h_k0.2.2.1.1.1 ((ce_o h_k0.2.2.1.1.2).trans rfl) rfl rfl hl.1 rfl (Nat.le_of_ble_eq_true rfl) dX7_drift_121 ⟨Nat.le_refl _, Nat.le_refl _⟩ (fun r1 u2 H lo hp hPS => ?_)
        obtain ⟨hp, hex, hfr⟩ := hp
        replace hF := xm_i hex hF
        obtain ⟨hwf, p3⟩ := hp
        have I : Wo w g s.heap u2 H lo := ⟨hPS.1, hPS.2, hwf⟩
        have rzu2 : ∀ k j : Nat, ¬ (k = k0 + 61) → u2.1 k j = v.1 k j := fun k j h => (hfr k j (fun z => h (by omega))).trans (rB121_Z k j h)
        refine lv_pop hx hb dX7_drift_124 rfl ?_
        obtain ⟨x4, ex4⟩ : ∃ z : Int32, z = y42_5 + 1 := ⟨_, rfl⟩
        replace hF := xl_i (ex4) hF
        have hx4 : x4.toInt = y42_5.toInt + (1) := by rw [ex4]; exact adI (a := y42_5.toInt) (b := 1) rfl rfl (by omega) (by omega)
        refine lv_iinc (v := x4) (lv' := [(5, .int x4), (0, .ref (wq w k0)), (2, .int a1), (3, .int a2), (4, .int y121_4)]) hx hb dX7_drift_125 hl (k := 4) rfl (by rw [ex4]; rfl) (by decide) rfl (fun ls hl => ?_)
        refine lv_goto (tgt := 42) hx hb dX7_drift_128 (by decide) ?_
        exact ih_42 _ _ u2 I y121_4 x4 (by omega) (by omega) (by omega) rzu2 hF (by omega) ls (lv_sub hl [1, 2, 3, 4, 0] rfl)
      refine lv_iload hx hb dX7_drift_42 (lv_at hl 4 rfl) ?_
      refine lv_iload_n hx hb dX7_drift_44 rfl (lv_at hl 1 rfl) ?_
      refine bi_ge E (a := y42_5.toInt) (b := a1.toInt) rfl rfl (tgt := 131) dX7_drift_45 (by decide) (fun c5 => ?_) (fun c5 => ?_)
      ·
        replace hF := if_l c5 hF
        refine lv_iload_n hx hb dX7_drift_131 rfl (lv_at hl 2 rfl) ?_
        refine bz_ne E (a := a2.toInt) rfl (tgt := 145) dX7_drift_132 (by decide) (fun c6 => ?_) (fun c6 => ?_)
        ·
          replace hF := if_f c6 hF
          refine lv_sipush (v := 1000) hx hb dX7_drift_145 (by decide) ?_
          refine lv_aload_n hx hb dX7_drift_148 rfl (lv_at hl 0 rfl) ?_
          refine g_StarWalk_scratch E I h_k0.1 mw_2_73 dX7_drift_149 ?_
          refine g_Place_side E I h_k0.2.2.2.2.2.2.1 mw_1_57 dX7_drift_152 ?_
          refine lv_topi (fun x7 ex7 => ?_)
          replace hF := xl_i (ex7) hF
          refine lv_iadd hx hb dX7_drift_155 ?_
          refine lv_topi (fun x8 ex8 => ?_)
          replace hF := xl_i (ex8) hF
          exact rI E I hr hlk rfl (by rw [← hpost]; exact ⟨⟨I.2.2, trivial⟩, hF.trans hres, rB42_Z⟩) dX7_drift_156
        ·
          replace hF := if_t c6 hF
          refine lv_aload_n hx hb dX7_drift_135 rfl (lv_at hl 0 rfl) ?_
          refine g_StarWalk_scratch E I h_k0.1 mw_2_73 dX7_drift_136 ?_
          refine g_Place_miles E I h_k0.2.2.2.2.2.2.1 mw_1_52 dX7_drift_139 ?_
          refine lv_topi (fun x9 ex9 => ?_)
          replace hF := xl_i (ex9) hF
          refine lv_goto (tgt := 156) hx hb dX7_drift_142 (by decide) ?_
          exact rI E I hr hlk rfl (by rw [← hpost]; exact ⟨⟨I.2.2, trivial⟩, hF.trans hres, rB42_Z⟩) dX7_drift_156
      ·
        replace hF := if_t c5 hF
        refine lv_iload hx hb dX7_drift_48 (lv_at hl 3 rfl) ?_
        refine lv_ldcw (own := "StarWalk") hx hb E.1.2.2.2.1 (Ew E mw_4_105 rfl) dX7_drift_50 ?_
        refine lv_imul hx hb dX7_drift_53 ?_
        refine lv_topi (fun x10 ex10 => ?_)
        replace hF := xl_i (ex10) hF
        refine lv_sipush (v := 12345) hx hb dX7_drift_54 (by decide) ?_
        refine lv_iadd hx hb dX7_drift_57 ?_
        refine lv_topi (fun x11 ex11 => ?_)
        replace hF := xl_i (ex11) hF
        refine lv_istore (lv' := [(4, .int x11), (0, .ref (wq w k0)), (2, .int a1), (3, .int a2), (5, .int y42_5)]) hx hb dX7_drift_58 hl (by decide) rfl (fun ls hl => ?_)
        refine lv_iload hx hb dX7_drift_60 (lv_at hl 0 rfl) ?_
        refine lv_bipush (v := 16) hx hb dX7_drift_62 (by decide) ?_
        refine lv_iushr (v := _) hx hb dX7_drift_64 rfl ?_
        refine lv_topi (fun x12 ex12 => ?_)
        replace hF := xl_i (ex12) hF
        refine lv_sipush (v := 32767) hx hb dX7_drift_65 (by decide) ?_
        refine lv_iand hx hb dX7_drift_68 ?_
        refine lv_topi (fun x13 ex13 => ?_)
        replace hF := xl_i (ex13) hF
        have hx13 := anI (x := x12) (y := (32767 : Int32)) (b := 32767) rfl (by decide)
        rw [← ex13] at hx13
        refine lv_bipush (v := 7) hx hb dX7_drift_69 (by decide) ?_
        refine lv_irem hx hb dX7_drift_71 (by decide) ?_
        refine lv_topi (fun x14 ex14 => ?_)
        replace hF := xl_i (ex14) hF
        have hx14 := rmI (x := x13) (y := (7 : Int32)) (a := x13.toInt) (b := 7) rfl rfl (by omega) (by omega)
        rw [← ex14] at hx14
        refine lv_istore (lv' := [(6, .int x14), (4, .int x11), (0, .ref (wq w k0)), (2, .int a1), (3, .int a2), (5, .int y42_5)]) hx hb dX7_drift_72 hl (by decide) rfl (fun ls hl => ?_)
        refine lv_aload_n hx hb dX7_drift_74 rfl (lv_at hl 2 rfl) ?_
        refine g_StarWalk_scratch E I h_k0.1 mw_2_73 dX7_drift_75 ?_
        refine lv_iload hx hb dX7_drift_78 (lv_at hl 5 rfl) ?_
        refine lv_bipush (v := 10) hx hb dX7_drift_80 (by decide) ?_
        refine lv_irem hx hb dX7_drift_82 (by decide) ?_
        refine lv_topi (fun x15 ex15 => ?_)
        replace hF := xl_i (ex15) hF
        have hx15 := rmI (x := y42_5) (y := (10 : Int32)) (a := y42_5.toInt) (b := 10) rfl rfl (by omega) (by omega)
        rw [← ex15] at hx15
        refine p_Place_hour E I h_k0.2.2.2.2.2.2.1 mw_1_47 dX7_drift_83 (fun H lo I => ?_)
        generalize ev16 : up1 v_42 (k0 + 61) 0 x15 = v16 at I
        replace hF := xl_i (ev16.symm) hF
        have rzv16 : ∀ k j : Nat, ¬ (k = k0 + 61) → v16.1 k j = v.1 k j := fun k j h => fz_u ev16 (by omega) (rB42_Z k j h)
        refine lv_aload_n hx hb dX7_drift_86 rfl (lv_at hl 2 rfl) ?_
        refine g_StarWalk_scratch E I h_k0.1 mw_2_73 dX7_drift_87 ?_
        refine lv_bipush (v := 99) hx hb dX7_drift_90 (by decide) ?_
        refine p_Place_water E I h_k0.2.2.2.2.2.2.1 mw_1_60 dX7_drift_92 (fun H lo I => ?_)
        generalize ev17 : up1 v16 (k0 + 61) 3 (99 : Int32) = v17 at I
        replace hF := xl_i (ev17.symm) hF
        have rzv17 : ∀ k j : Nat, ¬ (k = k0 + 61) → v17.1 k j = v.1 k j := fun k j h => fz_u ev17 (by omega) (rzv16 k j h)
        refine lv_aload_n hx hb dX7_drift_95 rfl (lv_at hl 2 rfl) ?_
        refine g_StarWalk_now E I h_k0.1 mw_2_69 dX7_drift_96 ?_
        refine lv_aload_n hx hb dX7_drift_99 rfl (lv_at hl 2 rfl) ?_
        refine g_StarWalk_scratch E I h_k0.1 mw_2_73 dX7_drift_100 ?_
        refine lv_aload_n hx hb dX7_drift_103 rfl (lv_at hl 2 rfl) ?_
        refine g_StarWalk_now E I h_k0.1 mw_2_69 dX7_drift_104 ?_
        refine lv_iload hx hb dX7_drift_107 (lv_at hl 0 rfl) ?_
        refine cVi E I (c_X0_hasAim l w g v17 (k0 + 12) x14 E.2.2.1 I.2.2 h_k0.2.2.1  ) (cwV 1 E.1.2.2.2.2 (gWs (C := "StarWalk$Night") mw_3_142 mw_3_49 mw_3_50 mw_1_3 mw_3_51) rfl rfl rfl (by decide +kernel) ⟨by decide, by decide⟩) h_k0.2.2.1.1.1 ((ce_o h_k0.2.2.1.1.2).trans rfl) rfl rfl hl.1 rfl (Nat.le_of_ble_eq_true rfl) dX7_drift_109 ⟨Nat.le_refl _, Nat.le_refl _⟩ (fun r18 u19 H lo hp hPS => ?_)
        obtain ⟨hp, hex, hfr⟩ := hp
        replace hF := xl_i hex hF
        obtain ⟨hu, p20⟩ := hp
        rw [hu] at hPS
        have I : Wo w g s.heap v17 H lo := ⟨hPS.1, hPS.2, I.2.2⟩
        refine bz_eq E (a := r18.toInt) rfl (tgt := 120) dX7_drift_112 (by decide) (fun c21 => ?_) (fun c21 => ?_)
        ·
          replace hF := if_t c21 hF
          refine lv_iconst (v := 5) hx hb dX7_drift_120 (by decide) ?_
          exact B_121 _ _ v17 I x11 (5 : Int32) (by decide) (by omega) (by omega) (by omega) rzv17 hF ls (lv_sub hl [2, 3, 4, 1, 5] rfl)
        ·
          replace hF := if_f c21 hF
          refine lv_iload hx hb dX7_drift_115 (lv_at hl 0 rfl) ?_
          refine lv_goto (tgt := 121) hx hb dX7_drift_117 (by decide) ?_
          exact B_121 _ _ v17 I x11 x14 (by omega) (by omega) (by omega) (by omega) rzv17 hF ls (lv_sub hl [2, 3, 4, 1, 5] rfl)
  refine lv_iload_n hx hb dX7_drift_0 rfl (lv_at hl 2 rfl) ?_
  refine lv_iconst (v := 1) hx hb dX7_drift_1 (by decide) ?_
  refine bi_lt E (a := a1.toInt) (b := 1) rfl rfl (tgt := 18) dX7_drift_2 (by decide) (fun c22 => ?_) (fun c22 => ?_)
  ·
    replace hF := if_t c22 hF
    refine lv_iconst (v := (-1)) hx hb dX7_drift_18 (by decide) ?_
    exact rI E I hr hlk rfl (by rw [← hpost]; exact ⟨⟨I.2.2, trivial⟩, hF.trans hres, rz0⟩) dX7_drift_19
  ·
    replace hF := if_l c22 hF
    refine lv_iload_n hx hb dX7_drift_5 rfl (lv_at hl 2 rfl) ?_
    refine lv_bipush (v := 30) hx hb dX7_drift_6 (by decide) ?_
    refine bi_gt E (a := a1.toInt) (b := 30) rfl rfl (tgt := 18) dX7_drift_8 (by decide) (fun c23 => ?_) (fun c23 => ?_)
    ·
      replace hF := if_t c23 hF
      refine lv_iconst (v := (-1)) hx hb dX7_drift_18 (by decide) ?_
      exact rI E I hr hlk rfl (by rw [← hpost]; exact ⟨⟨I.2.2, trivial⟩, hF.trans hres, rz0⟩) dX7_drift_19
    ·
      replace hF := if_l c23 hF
      refine lv_iload_n hx hb dX7_drift_11 rfl (lv_at hl 3 rfl) ?_
      refine cSi E I (c_X7_isZeroOrOne l w g v a2 E.2.2.1 I.2.2   ) (va_cwS 1 E.1.2.2.2.2 (gSs mw_4_9 mw_4_10 mw_1_1 mw_4_11) rfl rfl rfl (by decide +kernel) ⟨by decide, by decide⟩) rfl hl.1 rfl (Nat.le_of_ble_eq_true rfl) dX7_drift_12 ⟨Nat.le_refl _, Nat.le_refl _⟩ (fun r24 u25 H lo hp hPS => ?_)
      obtain ⟨hp, hex, hfr⟩ := hp
      replace hF := xl_i hex hF
      obtain ⟨hu, p26⟩ := hp
      rw [hu] at hPS
      have I : Wo w g s.heap v H lo := ⟨hPS.1, hPS.2, I.2.2⟩
      refine bz_ne E (a := r24.toInt) rfl (tgt := 20) dX7_drift_15 (by decide) (fun c27 => ?_) (fun c27 => ?_)
      ·
        replace hF := if_f c27 hF
        refine lv_aload_n hx hb dX7_drift_20 rfl (lv_at hl 0 rfl) ?_
        refine g_StarWalk_scratch E I h_k0.1 mw_2_73 dX7_drift_21 ?_
        refine lv_iconst (v := 0) hx hb dX7_drift_24 (by decide) ?_
        refine p_Place_miles E I h_k0.2.2.2.2.2.2.1 mw_1_52 dX7_drift_25 (fun H lo I => ?_)
        generalize ev28 : up1 v (k0 + 61) 1 (0 : Int32) = v28 at I
        replace hF := xl_i (ev28.symm) hF
        have rzv28 : ∀ k j : Nat, ¬ (k = k0 + 61) → v28.1 k j = v.1 k j := fun k j h => fz_u ev28 (by omega) (rz0 k j h)
        refine lv_aload_n hx hb dX7_drift_28 rfl (lv_at hl 0 rfl) ?_
        refine g_StarWalk_scratch E I h_k0.1 mw_2_73 dX7_drift_29 ?_
        refine lv_iconst (v := 0) hx hb dX7_drift_32 (by decide) ?_
        refine p_Place_side E I h_k0.2.2.2.2.2.2.1 mw_1_57 dX7_drift_33 (fun H lo I => ?_)
        generalize ev29 : up1 v28 (k0 + 61) 2 (0 : Int32) = v29 at I
        replace hF := xl_i (ev29.symm) hF
        have rzv29 : ∀ k j : Nat, ¬ (k = k0 + 61) → v29.1 k j = v.1 k j := fun k j h => fz_u ev29 (by omega) (rzv28 k j h)
        refine lv_iload_n hx hb dX7_drift_36 rfl (lv_at hl 1 rfl) ?_
        refine lv_istore (lv' := [(4, .int a0), (0, .ref (wq w k0)), (1, .int a0), (2, .int a1), (3, .int a2)]) hx hb dX7_drift_37 hl (by decide) rfl (fun ls hl => ?_)
        refine lv_iconst (v := 0) hx hb dX7_drift_39 (by decide) ?_
        refine lv_istore (lv' := [(5, .int 0), (4, .int a0), (0, .ref (wq w k0)), (1, .int a0), (2, .int a1), (3, .int a2)]) hx hb dX7_drift_40 hl (by decide) rfl (fun ls hl => ?_)
        exact L_42 ((2147483647 - (0 : Int32).toInt).toNat + 1) _ _ v29 I a0 (0 : Int32) (by decide) (by omega) (by omega) rzv29 hF (Nat.lt_succ_self _) ls (lv_sub hl [2, 4, 5, 1, 0] rfl)
      ·
        replace hF := if_t c27 hF
        refine lv_iconst (v := (-1)) hx hb dX7_drift_18 (by decide) ?_
        exact rI E I hr hlk rfl (by rw [← hpost]; exact ⟨⟨I.2.2, trivial⟩, hF.trans hres, rz0⟩) dX7_drift_19
def F_X7_keep (k0 : Nat) (a0 : Int32) (v : St) : Int32 × St :=
if a0.toInt < 0 then (
((-1 : Int32), v)) else (
if a0.toInt < 2 then (
xl (v.1 (k0 + 63) a0.toNatClampNeg) fun x3 =>
xl (F_X7_oneIf x3 v) fun r4 =>
xl (F_X0_become (k0 + 62 + (3 + 9 * a0.toNatClampNeg)) (k0 + 12) v) fun u7 =>
xl (up1 u7 (k0 + 63) a0.toNatClampNeg (vp_nar .boolean (1 : Int32))) fun v9 =>
(r4, v9)) else (
((-1 : Int32), v)))
set_option maxHeartbeats 4000000 in
set_option maxRecDepth 100000 in
theorem c_X7_keep (l : Launch) (w : Wp) (g : Nat → Nat → Int32) (v : St) (k0 : Nat) (a0 : Int32) (hq : Inj w) (hw : WF (wk w) g v) (h_k0 : oW w k0) : CTi w l yX7_keep (wsy yX7_keep prog_1_method_38_code 3 (some .int)) (rmL 3) [.ref (wq w k0), .int a0] v (fun (r : Int32) (u : St) => (WF (wk w) g u ∧ True) ∧ ((r, u) = F_X7_keep k0 a0 v) ∧ (∀ k j : Nat, ¬ ((k0 + 65 ≤ k ∧ k < k0 + 83) ∨ k = k0 + 63) → u.1 k j = v.1 k j)) := by
  generalize hpost : (fun (r : Int32) (u : St) => (WF (wk w) g u ∧ True) ∧ ((r, u) = F_X7_keep k0 a0 v) ∧ (∀ k j : Nat, ¬ ((k0 + 65 ≤ k ∧ k < k0 + 83) ∨ k = k0 + 63) → u.1 k j = v.1 k j)) = post
  refine CTi.of prog_1_method_38_code 3 (some .int) "StarWalk" (by decide +kernel) rfl hq hw (Nat.le_of_ble_eq_true rfl) ?_
  intro pg en s m ar bl me cd ls E I hr hlk hl
  have hx := E.1.1
  have hb := E.1.2.1
  have hl : lv_has ls 3 [(0, .ref (wq w k0)), (1, .int a0)] := hl
  obtain ⟨res, hres⟩ : ∃ z, z = F_X7_keep k0 a0 v := ⟨_, rfl⟩
  have hF := hres.symm
  unfold F_X7_keep at hF
  replace hres : res = F_X7_keep k0 a0 v := hres
  have rz0 : ∀ k j : Nat, ¬ ((k0 + 65 ≤ k ∧ k < k0 + 83) ∨ k = k0 + 63) → v.1 k j = v.1 k j := fun _ _ _ => rfl
  refine lv_iload_n hx hb dX7_keep_0 rfl (lv_at hl 1 rfl) ?_
  refine bz_lt E (a := a0.toInt) rfl (tgt := 9) dX7_keep_1 (by decide) (fun c1 => ?_) (fun c1 => ?_)
  ·
    replace hF := if_t c1 hF
    refine lv_iconst (v := (-1)) hx hb dX7_keep_9 (by decide) ?_
    exact rI E I hr hlk rfl (by rw [← hpost]; exact ⟨⟨I.2.2, trivial⟩, hF.trans hres, rz0⟩) dX7_keep_10
  ·
    replace hF := if_l c1 hF
    refine lv_iload_n hx hb dX7_keep_4 rfl (lv_at hl 1 rfl) ?_
    refine lv_iconst (v := 2) hx hb dX7_keep_5 (by decide) ?_
    refine bi_lt E (a := a0.toInt) (b := 2) rfl rfl (tgt := 11) dX7_keep_6 (by decide) (fun c2 => ?_) (fun c2 => ?_)
    ·
      replace hF := if_t c2 hF
      refine lv_aload_n hx hb dX7_keep_11 rfl (lv_at hl 0 rfl) ?_
      refine g_StarWalk_kept E I h_k0.1 mw_2_75 dX7_keep_12 ?_
      refine lv_iload_n hx hb dX7_keep_15 rfl (lv_at hl 1 rfl) ?_
      refine ga_19 E I h_k0.2.2.2.2.2.2.2.2.1 (by omega) dX7_keep_16 ?_
      refine lv_topi (fun x3 ex3 => ?_)
      replace hF := xl_i (ex3) hF
      refine cSi E I (c_X7_oneIf l w g v x3 E.2.2.1 I.2.2   ) (va_cwS 1 E.1.2.2.2.2 (gSs mw_3_86 mw_3_87 mw_1_1 mw_3_88) rfl rfl rfl (by decide +kernel) ⟨by decide, by decide⟩) rfl hl.1 rfl (Nat.le_of_ble_eq_true rfl) dX7_keep_17 ⟨Nat.le_refl _, Nat.le_refl _⟩ (fun r4 u5 H lo hp hPS => ?_)
      obtain ⟨hp, hex, hfr⟩ := hp
      replace hF := xl_i hex hF
      obtain ⟨hu, p6⟩ := hp
      rw [hu] at hPS
      have I : Wo w g s.heap v H lo := ⟨hPS.1, hPS.2, I.2.2⟩
      refine lv_istore_n (lv' := [(2, .int r4), (0, .ref (wq w k0)), (1, .int a0)]) hx hb dX7_keep_20 rfl hl (by decide) rfl (fun ls hl => ?_)
      refine lv_aload_n hx hb dX7_keep_21 rfl (lv_at hl 1 rfl) ?_
      refine g_StarWalk_images E I h_k0.1 mw_2_74 dX7_keep_22 ?_
      refine lv_iload_n hx hb dX7_keep_25 rfl (lv_at hl 2 rfl) ?_
      refine ga_20 E I h_k0.2.2.2.2.2.2.2.1 (by omega) dX7_keep_26 ?_
      refine lv_aload_n hx hb dX7_keep_27 rfl (lv_at hl 1 rfl) ?_
      refine g_StarWalk_now E I h_k0.1 mw_2_69 dX7_keep_28 ?_
      refine cVv E I (c_X0_become l w g v (k0 + 62 + (3 + 9 * a0.toNatClampNeg)) (k0 + 12) E.2.2.1 I.2.2 (h_k0.2.2.2.2.2.2.2.2.2.2.1 a0.toNatClampNeg (by have := cnI (x := a0) (by omega); omega)) h_k0.2.2.1  ) (cwV 1 E.1.2.2.2.2 (gWs (C := "StarWalk$Night") mw_3_56 mw_3_57 mw_3_58 mw_1_3 mw_3_59) rfl rfl rfl (by decide +kernel) ⟨by decide, by decide⟩) ((h_k0.2.2.2.2.2.2.2.2.2.2.1 a0.toNatClampNeg (by have := cnI (x := a0) (by omega); omega)).1).1 ((ce_o ((h_k0.2.2.2.2.2.2.2.2.2.2.1 a0.toNatClampNeg (by have := cnI (x := a0) (by omega); omega)).1).2).trans rfl) rfl rfl hl.1 rfl (Nat.le_of_ble_eq_true rfl) dX7_keep_31 ⟨Nat.le_refl _, Nat.le_refl _⟩ (fun u7 H lo hp hPS => ?_)
      obtain ⟨hp, hex, hfr⟩ := hp
      replace hF := xl_i hex hF
      obtain ⟨hwf, p8⟩ := hp
      have I : Wo w g s.heap u7 H lo := ⟨hPS.1, hPS.2, hwf⟩
      have rzu7 : ∀ k j : Nat, ¬ ((k0 + 65 ≤ k ∧ k < k0 + 83) ∨ k = k0 + 63) → u7.1 k j = v.1 k j := fun k j h => (hfr k j (fun z => h (by have cza0 := cnI (x := a0) (by omega); omega))).trans (rz0 k j h)
      refine lv_aload_n hx hb dX7_keep_34 rfl (lv_at hl 1 rfl) ?_
      refine g_StarWalk_kept E I h_k0.1 mw_2_75 dX7_keep_35 ?_
      refine lv_iload_n hx hb dX7_keep_38 rfl (lv_at hl 2 rfl) ?_
      refine lv_iconst (v := 1) hx hb dX7_keep_39 (by decide) ?_
      refine pa_19 E I h_k0.2.2.2.2.2.2.2.2.1 (by omega) dX7_keep_40 (fun H lo I => ?_)
      generalize ev9 : up1 u7 (k0 + 63) a0.toNatClampNeg (vp_nar .boolean (1 : Int32)) = v9 at I
      replace hF := xl_i (ev9.symm) hF
      have rzv9 : ∀ k j : Nat, ¬ ((k0 + 65 ≤ k ∧ k < k0 + 83) ∨ k = k0 + 63) → v9.1 k j = v.1 k j := fun k j h => fz_u ev9 (by have cza0 := cnI (x := a0) (by omega); omega) (rzu7 k j h)
      refine lv_iload_n hx hb dX7_keep_41 rfl (lv_at hl 0 rfl) ?_
      exact rI E I hr hlk rfl (by rw [← hpost]; exact ⟨⟨I.2.2, trivial⟩, hF.trans hres, rzv9⟩) dX7_keep_42
    ·
      replace hF := if_l c2 hF
      refine lv_iconst (v := (-1)) hx hb dX7_keep_9 (by decide) ?_
      exact rI E I hr hlk rfl (by rw [← hpost]; exact ⟨⟨I.2.2, trivial⟩, hF.trans hres, rz0⟩) dX7_keep_10
def F_X7_back (k0 : Nat) (a0 : Int32) (v : St) : Int32 × St :=
if a0.toInt < 0 then (
((-1 : Int32), v)) else (
if a0.toInt < 2 then (
xl (v.1 (k0 + 63) a0.toNatClampNeg) fun x3 =>
if x3.toInt = 0 then (
((-2 : Int32), v)) else (
xl (F_X0_become (k0 + 12) (k0 + 62 + (3 + 9 * a0.toNatClampNeg)) v) fun u5 =>
xl (u5.1 (k0 + 12 + 5) 0) fun x7 =>
(x7, u5))) else (
((-1 : Int32), v)))
set_option maxHeartbeats 4000000 in
set_option maxRecDepth 100000 in
theorem c_X7_back (l : Launch) (w : Wp) (g : Nat → Nat → Int32) (v : St) (k0 : Nat) (a0 : Int32) (hq : Inj w) (hw : WF (wk w) g v) (h_k0 : oW w k0) : CTi w l yX7_back (wsy yX7_back prog_1_method_39_code 2 (some .int)) (rmL 3) [.ref (wq w k0), .int a0] v (fun (r : Int32) (u : St) => (WF (wk w) g u ∧ True) ∧ ((r, u) = F_X7_back k0 a0 v) ∧ (∀ k j : Nat, ¬ (k0 + 12 ≤ k ∧ k < k0 + 21) → u.1 k j = v.1 k j)) := by
  generalize hpost : (fun (r : Int32) (u : St) => (WF (wk w) g u ∧ True) ∧ ((r, u) = F_X7_back k0 a0 v) ∧ (∀ k j : Nat, ¬ (k0 + 12 ≤ k ∧ k < k0 + 21) → u.1 k j = v.1 k j)) = post
  refine CTi.of prog_1_method_39_code 2 (some .int) "StarWalk" (by decide +kernel) rfl hq hw (Nat.le_of_ble_eq_true rfl) ?_
  intro pg en s m ar bl me cd ls E I hr hlk hl
  have hx := E.1.1
  have hb := E.1.2.1
  have hl : lv_has ls 2 [(0, .ref (wq w k0)), (1, .int a0)] := hl
  obtain ⟨res, hres⟩ : ∃ z, z = F_X7_back k0 a0 v := ⟨_, rfl⟩
  have hF := hres.symm
  unfold F_X7_back at hF
  replace hres : res = F_X7_back k0 a0 v := hres
  have rz0 : ∀ k j : Nat, ¬ (k0 + 12 ≤ k ∧ k < k0 + 21) → v.1 k j = v.1 k j := fun _ _ _ => rfl
  refine lv_iload_n hx hb dX7_back_0 rfl (lv_at hl 1 rfl) ?_
  refine bz_lt E (a := a0.toInt) rfl (tgt := 9) dX7_back_1 (by decide) (fun c1 => ?_) (fun c1 => ?_)
  ·
    replace hF := if_t c1 hF
    refine lv_iconst (v := (-1)) hx hb dX7_back_9 (by decide) ?_
    exact rI E I hr hlk rfl (by rw [← hpost]; exact ⟨⟨I.2.2, trivial⟩, hF.trans hres, rz0⟩) dX7_back_10
  ·
    replace hF := if_l c1 hF
    refine lv_iload_n hx hb dX7_back_4 rfl (lv_at hl 1 rfl) ?_
    refine lv_iconst (v := 2) hx hb dX7_back_5 (by decide) ?_
    refine bi_lt E (a := a0.toInt) (b := 2) rfl rfl (tgt := 11) dX7_back_6 (by decide) (fun c2 => ?_) (fun c2 => ?_)
    ·
      replace hF := if_t c2 hF
      refine lv_aload_n hx hb dX7_back_11 rfl (lv_at hl 0 rfl) ?_
      refine g_StarWalk_kept E I h_k0.1 mw_2_75 dX7_back_12 ?_
      refine lv_iload_n hx hb dX7_back_15 rfl (lv_at hl 1 rfl) ?_
      refine ga_19 E I h_k0.2.2.2.2.2.2.2.2.1 (by omega) dX7_back_16 ?_
      refine lv_topi (fun x3 ex3 => ?_)
      replace hF := xl_i (ex3) hF
      refine bz_ne E (a := x3.toInt) rfl (tgt := 23) dX7_back_17 (by decide) (fun c4 => ?_) (fun c4 => ?_)
      ·
        replace hF := if_f c4 hF
        refine lv_aload_n hx hb dX7_back_23 rfl (lv_at hl 0 rfl) ?_
        refine g_StarWalk_now E I h_k0.1 mw_2_69 dX7_back_24 ?_
        refine lv_aload_n hx hb dX7_back_27 rfl (lv_at hl 0 rfl) ?_
        refine g_StarWalk_images E I h_k0.1 mw_2_74 dX7_back_28 ?_
        refine lv_iload_n hx hb dX7_back_31 rfl (lv_at hl 1 rfl) ?_
        refine ga_20 E I h_k0.2.2.2.2.2.2.2.1 (by omega) dX7_back_32 ?_
        refine cVv E I (c_X0_become l w g v (k0 + 12) (k0 + 62 + (3 + 9 * a0.toNatClampNeg)) E.2.2.1 I.2.2 h_k0.2.2.1 (h_k0.2.2.2.2.2.2.2.2.2.2.1 a0.toNatClampNeg (by have := cnI (x := a0) (by omega); omega))  ) (cwV 1 E.1.2.2.2.2 (gWs (C := "StarWalk$Night") mw_3_56 mw_3_57 mw_3_58 mw_1_3 mw_3_59) rfl rfl rfl (by decide +kernel) ⟨by decide, by decide⟩) h_k0.2.2.1.1.1 ((ce_o h_k0.2.2.1.1.2).trans rfl) rfl rfl hl.1 rfl (Nat.le_of_ble_eq_true rfl) dX7_back_33 ⟨Nat.le_refl _, Nat.le_refl _⟩ (fun u5 H lo hp hPS => ?_)
        obtain ⟨hp, hex, hfr⟩ := hp
        replace hF := xl_i hex hF
        obtain ⟨hwf, p6⟩ := hp
        have I : Wo w g s.heap u5 H lo := ⟨hPS.1, hPS.2, hwf⟩
        have rzu5 : ∀ k j : Nat, ¬ (k0 + 12 ≤ k ∧ k < k0 + 21) → u5.1 k j = v.1 k j := fun k j h => (hfr k j (fun z => h (by have cza0 := cnI (x := a0) (by omega); omega))).trans (rz0 k j h)
        refine lv_aload_n hx hb dX7_back_36 rfl (lv_at hl 0 rfl) ?_
        refine g_StarWalk_now E I h_k0.1 mw_2_69 dX7_back_37 ?_
        refine g_Night_place E I h_k0.2.2.1.1 mw_1_113 dX7_back_40 ?_
        refine g_Place_hour E I h_k0.2.2.1.2.2.2.2.2.1 mw_1_47 dX7_back_43 ?_
        refine lv_topi (fun x7 ex7 => ?_)
        replace hF := xl_i (ex7) hF
        exact rI E I hr hlk rfl (by rw [← hpost]; exact ⟨⟨I.2.2, trivial⟩, hF.trans hres, rzu5⟩) dX7_back_46
      ·
        replace hF := if_t c4 hF
        refine lv_bipush (v := (-2)) hx hb dX7_back_20 (by decide) ?_
        exact rI E I hr hlk rfl (by rw [← hpost]; exact ⟨⟨I.2.2, trivial⟩, hF.trans hres, rz0⟩) dX7_back_22
    ·
      replace hF := if_l c2 hF
      refine lv_iconst (v := (-1)) hx hb dX7_back_9 (by decide) ?_
      exact rI E I hr hlk rfl (by rw [← hpost]; exact ⟨⟨I.2.2, trivial⟩, hF.trans hres, rz0⟩) dX7_back_10
def F_X7_sheet (k0 : Nat) (a0 : Int32) (a1 : Int32) (a2 : Int32) (v : St) : Int32 × St :=
xl (F_X7_isSheet a0 v) fun r1 =>
if r1.toInt = 0 then (
((-1 : Int32), v)) else (
xl (F_X7_isLane a1 v) fun r5 =>
if r5.toInt = 0 then (
((-1 : Int32), v)) else (
if 40 < a2.toInt then (
((-1 : Int32), v)) else (
if a2.toInt < 0 then (
((-14 : Int32), v)) else (
xl (F_X4_renew (k0 + 64 + (19 + 2 * a0.toNatClampNeg)) a1 a2 v) fun u11 =>
((1 : Int32), u11)))))
set_option maxHeartbeats 4000000 in
set_option maxRecDepth 100000 in
theorem c_X7_sheet (l : Launch) (w : Wp) (g : Nat → Nat → Int32) (v : St) (k0 : Nat) (a0 : Int32) (a1 : Int32) (a2 : Int32) (hq : Inj w) (hw : WF (wk w) g v) (h_k0 : oW w k0) : CTi w l yX7_sheet (wsy yX7_sheet prog_1_method_40_code 4 (some .int)) (rmL 2) [.ref (wq w k0), .int a0, .int a1, .int a2] v (fun (r : Int32) (u : St) => (WF (wk w) g u ∧ True) ∧ ((r, u) = F_X7_sheet k0 a0 a1 a2 v) ∧ (∀ k j : Nat, ¬ (k0 + 83 ≤ k ∧ k < k0 + 91) → u.1 k j = v.1 k j)) := by
  generalize hpost : (fun (r : Int32) (u : St) => (WF (wk w) g u ∧ True) ∧ ((r, u) = F_X7_sheet k0 a0 a1 a2 v) ∧ (∀ k j : Nat, ¬ (k0 + 83 ≤ k ∧ k < k0 + 91) → u.1 k j = v.1 k j)) = post
  refine CTi.of prog_1_method_40_code 4 (some .int) "StarWalk" (by decide +kernel) rfl hq hw (Nat.le_of_ble_eq_true rfl) ?_
  intro pg en s m ar bl me cd ls E I hr hlk hl
  have hx := E.1.1
  have hb := E.1.2.1
  have hl : lv_has ls 4 [(0, .ref (wq w k0)), (1, .int a0), (2, .int a1), (3, .int a2)] := hl
  obtain ⟨res, hres⟩ : ∃ z, z = F_X7_sheet k0 a0 a1 a2 v := ⟨_, rfl⟩
  have hF := hres.symm
  unfold F_X7_sheet at hF
  replace hres : res = F_X7_sheet k0 a0 a1 a2 v := hres
  have rz0 : ∀ k j : Nat, ¬ (k0 + 83 ≤ k ∧ k < k0 + 91) → v.1 k j = v.1 k j := fun _ _ _ => rfl
  refine lv_iload_n hx hb dX7_sheet_0 rfl (lv_at hl 1 rfl) ?_
  refine cSi E I (c_X7_isSheet l w g v a0 E.2.2.1 I.2.2   ) (va_cwS 1 E.1.2.2.2.2 (gSs mw_4_118 mw_4_119 mw_1_1 mw_4_120) rfl rfl rfl (by decide +kernel) ⟨by decide, by decide⟩) rfl hl.1 rfl (Nat.le_of_ble_eq_true rfl) dX7_sheet_1 ⟨Nat.le_refl _, Nat.le_refl _⟩ (fun r1 u2 H lo hp hPS => ?_)
  obtain ⟨hp, hex, hfr⟩ := hp
  replace hF := xl_i hex hF
  obtain ⟨hu, p3⟩ := hp
  rw [hu] at hPS
  have I : Wo w g s.heap v H lo := ⟨hPS.1, hPS.2, I.2.2⟩
  refine bz_eq E (a := r1.toInt) rfl (tgt := 20) dX7_sheet_4 (by decide) (fun c4 => ?_) (fun c4 => ?_)
  ·
    replace hF := if_t c4 hF
    refine lv_iconst (v := (-1)) hx hb dX7_sheet_20 (by decide) ?_
    exact rI E I hr hlk rfl (by rw [← hpost]; exact ⟨⟨I.2.2, trivial⟩, hF.trans hres, rz0⟩) dX7_sheet_21
  ·
    replace hF := if_f c4 hF
    refine lv_iload_n hx hb dX7_sheet_7 rfl (lv_at hl 2 rfl) ?_
    refine cSi E I (c_X7_isLane l w g v a1 E.2.2.1 I.2.2   ) (va_cwS 1 E.1.2.2.2.2 (gSs mw_4_121 mw_4_122 mw_1_1 mw_4_123) rfl rfl rfl (by decide +kernel) ⟨by decide, by decide⟩) rfl hl.1 rfl (Nat.le_of_ble_eq_true rfl) dX7_sheet_8 ⟨Nat.le_refl _, Nat.le_refl _⟩ (fun r5 u6 H lo hp hPS => ?_)
    obtain ⟨hp, hex, hfr⟩ := hp
    replace hF := xl_i hex hF
    obtain ⟨hu, p7⟩ := hp
    rw [hu] at hPS
    have I : Wo w g s.heap v H lo := ⟨hPS.1, hPS.2, I.2.2⟩
    refine bz_eq E (a := r5.toInt) rfl (tgt := 20) dX7_sheet_11 (by decide) (fun c8 => ?_) (fun c8 => ?_)
    ·
      replace hF := if_t c8 hF
      refine lv_iconst (v := (-1)) hx hb dX7_sheet_20 (by decide) ?_
      exact rI E I hr hlk rfl (by rw [← hpost]; exact ⟨⟨I.2.2, trivial⟩, hF.trans hres, rz0⟩) dX7_sheet_21
    ·
      replace hF := if_f c8 hF
      refine lv_iload_n hx hb dX7_sheet_14 rfl (lv_at hl 3 rfl) ?_
      refine lv_bipush (v := 40) hx hb dX7_sheet_15 (by decide) ?_
      refine bi_le E (a := a2.toInt) (b := 40) rfl rfl (tgt := 22) dX7_sheet_17 (by decide) (fun c9 => ?_) (fun c9 => ?_)
      ·
        replace hF := if_l c9 hF
        refine lv_iload_n hx hb dX7_sheet_22 rfl (lv_at hl 3 rfl) ?_
        refine bz_ge E (a := a2.toInt) rfl (tgt := 29) dX7_sheet_23 (by decide) (fun c10 => ?_) (fun c10 => ?_)
        ·
          replace hF := if_l c10 hF
          refine lv_aload_n hx hb dX7_sheet_29 rfl (lv_at hl 0 rfl) ?_
          refine g_StarWalk_sheets E I h_k0.1 mw_2_76 dX7_sheet_30 ?_
          refine lv_iload_n hx hb dX7_sheet_33 rfl (lv_at hl 1 rfl) ?_
          refine ga_23 E I h_k0.2.2.2.2.2.2.2.2.2.1 (by omega) dX7_sheet_34 ?_
          refine lv_iload_n hx hb dX7_sheet_35 rfl (lv_at hl 2 rfl) ?_
          refine lv_iload_n hx hb dX7_sheet_36 rfl (lv_at hl 3 rfl) ?_
          refine cVv E I (c_X4_renew l w g v (k0 + 64 + (19 + 2 * a0.toNatClampNeg)) a1 a2 E.2.2.1 I.2.2 (h_k0.2.2.2.2.2.2.2.2.2.2.2 a0.toNatClampNeg (by have := cnI (x := a0) (by omega); omega)) (by omega) ) (cwV 2 E.1.2.2.2.2 (gWs (C := "StarWalk$Sheet") mw_4_124 mw_4_125 mw_4_126 mw_1_8 mw_4_127) rfl rfl rfl (by decide +kernel) ⟨by decide, by decide⟩) ((h_k0.2.2.2.2.2.2.2.2.2.2.2 a0.toNatClampNeg (by have := cnI (x := a0) (by omega); omega)).1).1 ((ce_o ((h_k0.2.2.2.2.2.2.2.2.2.2.2 a0.toNatClampNeg (by have := cnI (x := a0) (by omega); omega)).1).2).trans rfl) rfl rfl hl.1 rfl (Nat.le_of_ble_eq_true rfl) dX7_sheet_37 ⟨Nat.le_refl _, Nat.le_refl _⟩ (fun u11 H lo hp hPS => ?_)
          obtain ⟨hp, hex, hfr⟩ := hp
          replace hF := xl_i hex hF
          obtain ⟨hwf, p12⟩ := hp
          have I : Wo w g s.heap u11 H lo := ⟨hPS.1, hPS.2, hwf⟩
          have rzu11 : ∀ k j : Nat, ¬ (k0 + 83 ≤ k ∧ k < k0 + 91) → u11.1 k j = v.1 k j := fun k j h => (hfr k j (fun z => h (by have cza0 := cnI (x := a0) (by omega); omega))).trans (rz0 k j h)
          refine lv_iconst (v := 1) hx hb dX7_sheet_40 (by decide) ?_
          exact rI E I hr hlk rfl (by rw [← hpost]; exact ⟨⟨I.2.2, trivial⟩, hF.trans hres, rzu11⟩) dX7_sheet_41
        ·
          replace hF := if_t c10 hF
          refine lv_bipush (v := (-14)) hx hb dX7_sheet_26 (by decide) ?_
          exact rI E I hr hlk rfl (by rw [← hpost]; exact ⟨⟨I.2.2, trivial⟩, hF.trans hres, rz0⟩) dX7_sheet_28
      ·
        replace hF := if_t c9 hF
        refine lv_iconst (v := (-1)) hx hb dX7_sheet_20 (by decide) ?_
        exact rI E I hr hlk rfl (by rw [← hpost]; exact ⟨⟨I.2.2, trivial⟩, hF.trans hres, rz0⟩) dX7_sheet_21
def F_X7_lay (k0 : Nat) (a0 : Int32) (a1 : Int32) (a2 : Int32) (v : St) : Int32 × St :=
xl (F_X7_isSheet a0 v) fun r1 =>
if r1.toInt = 0 then (
((-1 : Int32), v)) else (
xl (v.1 (k0 + 64 + (19 + 2 * a0.toNatClampNeg)) 0) fun x5 =>
xl (F_X4_tearAt (k0 + 64 + (19 + 2 * a0.toNatClampNeg)) x5 a1 v) fun r6 =>
if r6.toInt = 0 then (
xl (F_X4_lowest (k0 + 64 + (19 + 2 * a0.toNatClampNeg)) a2 v) fun r10 =>
xl (up1 v (k0 + 64 + (19 + 2 * a0.toNatClampNeg) + 1) a1.toNatClampNeg r10) fun v13 =>
((1 : Int32), v13)) else (
xl ((-10 : Int32) - r6) fun x14 =>
(x14, v)))
set_option maxHeartbeats 4000000 in
set_option maxRecDepth 100000 in
theorem c_X7_lay (l : Launch) (w : Wp) (g : Nat → Nat → Int32) (v : St) (k0 : Nat) (a0 : Int32) (a1 : Int32) (a2 : Int32) (hq : Inj w) (hw : WF (wk w) g v) (h_k0 : oW w k0) : CTi w l yX7_lay (wsy yX7_lay prog_1_method_41_code 6 (some .int)) (rmL 2) [.ref (wq w k0), .int a0, .int a1, .int a2] v (fun (r : Int32) (u : St) => (WF (wk w) g u ∧ True) ∧ ((r, u) = F_X7_lay k0 a0 a1 a2 v) ∧ (∀ k j : Nat, ¬ (k0 + 83 ≤ k ∧ k < k0 + 91) → u.1 k j = v.1 k j)) := by
  generalize hpost : (fun (r : Int32) (u : St) => (WF (wk w) g u ∧ True) ∧ ((r, u) = F_X7_lay k0 a0 a1 a2 v) ∧ (∀ k j : Nat, ¬ (k0 + 83 ≤ k ∧ k < k0 + 91) → u.1 k j = v.1 k j)) = post
  refine CTi.of prog_1_method_41_code 6 (some .int) "StarWalk" (by decide +kernel) rfl hq hw (Nat.le_of_ble_eq_true rfl) ?_
  intro pg en s m ar bl me cd ls E I hr hlk hl
  have hx := E.1.1
  have hb := E.1.2.1
  have hl : lv_has ls 6 [(0, .ref (wq w k0)), (1, .int a0), (2, .int a1), (3, .int a2)] := hl
  obtain ⟨res, hres⟩ : ∃ z, z = F_X7_lay k0 a0 a1 a2 v := ⟨_, rfl⟩
  have hF := hres.symm
  unfold F_X7_lay at hF
  replace hres : res = F_X7_lay k0 a0 a1 a2 v := hres
  have rz0 : ∀ k j : Nat, ¬ (k0 + 83 ≤ k ∧ k < k0 + 91) → v.1 k j = v.1 k j := fun _ _ _ => rfl
  refine lv_iload_n hx hb dX7_lay_0 rfl (lv_at hl 1 rfl) ?_
  refine cSi E I (c_X7_isSheet l w g v a0 E.2.2.1 I.2.2   ) (va_cwS 1 E.1.2.2.2.2 (gSs mw_4_118 mw_4_119 mw_1_1 mw_4_120) rfl rfl rfl (by decide +kernel) ⟨by decide, by decide⟩) rfl hl.1 rfl (Nat.le_of_ble_eq_true rfl) dX7_lay_1 ⟨Nat.le_refl _, Nat.le_refl _⟩ (fun r1 u2 H lo hp hPS => ?_)
  obtain ⟨hp, hex, hfr⟩ := hp
  replace hF := xl_i hex hF
  obtain ⟨hu, p3⟩ := hp
  rw [hu] at hPS
  have I : Wo w g s.heap v H lo := ⟨hPS.1, hPS.2, I.2.2⟩
  refine bz_ne E (a := r1.toInt) rfl (tgt := 9) dX7_lay_4 (by decide) (fun c4 => ?_) (fun c4 => ?_)
  ·
    replace hF := if_f c4 hF
    refine lv_aload_n hx hb dX7_lay_9 rfl (lv_at hl 0 rfl) ?_
    refine g_StarWalk_sheets E I h_k0.1 mw_2_76 dX7_lay_10 ?_
    refine lv_iload_n hx hb dX7_lay_13 rfl (lv_at hl 1 rfl) ?_
    refine ga_23 E I h_k0.2.2.2.2.2.2.2.2.2.1 (by omega) dX7_lay_14 ?_
    refine lv_astore (lv' := [(4, .ref (wq w (k0 + 64 + (19 + 2 * a0.toNatClampNeg)))), (0, .ref (wq w k0)), (1, .int a0), (2, .int a1), (3, .int a2)]) hx hb dX7_lay_15 hl (by decide) rfl (fun ls hl => ?_)
    refine lv_aload hx hb dX7_lay_17 (lv_at hl 0 rfl) ?_
    refine lv_aload hx hb dX7_lay_19 (lv_at hl 0 rfl) ?_
    refine g_Sheet_lane E I ((h_k0.2.2.2.2.2.2.2.2.2.2.2 a0.toNatClampNeg (by have := cnI (x := a0) (by omega); omega)).1) mw_2_55 dX7_lay_21 ?_
    refine lv_topi (fun x5 ex5 => ?_)
    replace hF := xl_i (ex5) hF
    refine lv_iload_n hx hb dX7_lay_24 rfl (lv_at hl 3 rfl) ?_
    refine cVi E I (c_X4_tearAt l w g v (k0 + 64 + (19 + 2 * a0.toNatClampNeg)) x5 a1 E.2.2.1 I.2.2 (h_k0.2.2.2.2.2.2.2.2.2.2.2 a0.toNatClampNeg (by have := cnI (x := a0) (by omega); omega))  ) (cwV 2 E.1.2.2.2.2 (gWs (C := "StarWalk$Sheet") mw_4_132 mw_4_133 mw_4_134 mw_1_8 mw_4_135) rfl rfl rfl (by decide +kernel) ⟨by decide, by decide⟩) ((h_k0.2.2.2.2.2.2.2.2.2.2.2 a0.toNatClampNeg (by have := cnI (x := a0) (by omega); omega)).1).1 ((ce_o ((h_k0.2.2.2.2.2.2.2.2.2.2.2 a0.toNatClampNeg (by have := cnI (x := a0) (by omega); omega)).1).2).trans rfl) rfl rfl hl.1 rfl (Nat.le_of_ble_eq_true rfl) dX7_lay_25 ⟨Nat.le_refl _, Nat.le_refl _⟩ (fun r6 u7 H lo hp hPS => ?_)
    obtain ⟨hp, hex, hfr⟩ := hp
    replace hF := xl_i hex hF
    obtain ⟨hu, p8⟩ := hp
    rw [hu] at hPS
    have I : Wo w g s.heap v H lo := ⟨hPS.1, hPS.2, I.2.2⟩
    refine lv_istore (lv' := [(5, .int r6), (4, .ref (wq w (k0 + 64 + (19 + 2 * a0.toNatClampNeg)))), (0, .ref (wq w k0)), (1, .int a0), (2, .int a1), (3, .int a2)]) hx hb dX7_lay_28 hl (by decide) rfl (fun ls hl => ?_)
    refine lv_iload hx hb dX7_lay_30 (lv_at hl 0 rfl) ?_
    refine bz_eq E (a := r6.toInt) rfl (tgt := 41) dX7_lay_32 (by decide) (fun c9 => ?_) (fun c9 => ?_)
    ·
      replace hF := if_t c9 hF
      refine lv_aload hx hb dX7_lay_41 (lv_at hl 1 rfl) ?_
      refine g_Sheet_cells E I ((h_k0.2.2.2.2.2.2.2.2.2.2.2 a0.toNatClampNeg (by have := cnI (x := a0) (by omega); omega)).1) mw_2_59 dX7_lay_43 ?_
      refine lv_iload_n hx hb dX7_lay_46 rfl (lv_at hl 4 rfl) ?_
      refine lv_aload hx hb dX7_lay_47 (lv_at hl 1 rfl) ?_
      refine lv_iload_n hx hb dX7_lay_49 rfl (lv_at hl 5 rfl) ?_
      refine cVi E I (c_X4_lowest l w g v (k0 + 64 + (19 + 2 * a0.toNatClampNeg)) a2 E.2.2.1 I.2.2 (h_k0.2.2.2.2.2.2.2.2.2.2.2 a0.toNatClampNeg (by have := cnI (x := a0) (by omega); omega))  ) (cwV 1 E.1.2.2.2.2 (gWs (C := "StarWalk$Sheet") mw_4_136 mw_4_137 mw_4_138 mw_1_8 mw_4_139) rfl rfl rfl (by decide +kernel) ⟨by decide, by decide⟩) ((h_k0.2.2.2.2.2.2.2.2.2.2.2 a0.toNatClampNeg (by have := cnI (x := a0) (by omega); omega)).1).1 ((ce_o ((h_k0.2.2.2.2.2.2.2.2.2.2.2 a0.toNatClampNeg (by have := cnI (x := a0) (by omega); omega)).1).2).trans rfl) rfl rfl hl.1 rfl (Nat.le_of_ble_eq_true rfl) dX7_lay_50 ⟨Nat.le_refl _, Nat.le_refl _⟩ (fun r10 u11 H lo hp hPS => ?_)
      obtain ⟨hp, hex, hfr⟩ := hp
      replace hF := xl_i hex hF
      obtain ⟨hu, p12⟩ := hp
      rw [hu] at hPS
      have I : Wo w g s.heap v H lo := ⟨hPS.1, hPS.2, I.2.2⟩
      refine pa_18 E I ((h_k0.2.2.2.2.2.2.2.2.2.2.2 a0.toNatClampNeg (by have := cnI (x := a0) (by omega); omega)).2) (by omega) dX7_lay_53 (fun H lo I => ?_)
      generalize ev13 : up1 v (k0 + 64 + (19 + 2 * a0.toNatClampNeg) + 1) a1.toNatClampNeg r10 = v13 at I
      replace hF := xl_i (ev13.symm) hF
      have rzv13 : ∀ k j : Nat, ¬ (k0 + 83 ≤ k ∧ k < k0 + 91) → v13.1 k j = v.1 k j := fun k j h => fz_u ev13 (by have cza0 := cnI (x := a0) (by omega); have cza1 := cnI (x := a1) (by omega); omega) (rz0 k j h)
      refine lv_iconst (v := 1) hx hb dX7_lay_54 (by decide) ?_
      exact rI E I hr hlk rfl (by rw [← hpost]; exact ⟨⟨I.2.2, trivial⟩, hF.trans hres, rzv13⟩) dX7_lay_55
    ·
      replace hF := if_f c9 hF
      refine lv_bipush (v := (-10)) hx hb dX7_lay_35 (by decide) ?_
      refine lv_iload hx hb dX7_lay_37 (lv_at hl 0 rfl) ?_
      refine lv_isub hx hb dX7_lay_39 ?_
      refine lv_topi (fun x14 ex14 => ?_)
      replace hF := xl_i (ex14) hF
      have hx14 : x14.toInt = (-10) - r6.toInt := by rw [ex14]; exact sbI (a := (-10)) (b := r6.toInt) rfl rfl (by omega) (by omega)
      exact rI E I hr hlk rfl (by rw [← hpost]; exact ⟨⟨I.2.2, trivial⟩, hF.trans hres, rz0⟩) dX7_lay_40
  ·
    replace hF := if_t c4 hF
    refine lv_iconst (v := (-1)) hx hb dX7_lay_7 (by decide) ?_
    exact rI E I hr hlk rfl (by rw [← hpost]; exact ⟨⟨I.2.2, trivial⟩, hF.trans hres, rz0⟩) dX7_lay_8
def F_X7_endRead (k0 : Nat) (a0 : Int32) (a1 : Int32) (v : St) : Int32 × St :=
xl (F_X2_become (k0 + 12 + 5) (k0 + 61) v) fun u1 =>
xl (up1 u1 k0 10 a1) fun v3 =>
(a0, v3)
set_option maxHeartbeats 4000000 in
set_option maxRecDepth 100000 in
theorem c_X7_endRead (l : Launch) (w : Wp) (g : Nat → Nat → Int32) (v : St) (k0 : Nat) (a0 : Int32) (a1 : Int32) (hq : Inj w) (hw : WF (wk w) g v) (h_k0 : oW w k0) : CTi w l yX7_endRead (wsy yX7_endRead prog_1_method_43_code 3 (some .int)) (rmL 2) [.ref (wq w k0), .int a0, .int a1] v (fun (r : Int32) (u : St) => (WF (wk w) g u ∧ True) ∧ ((r, u) = F_X7_endRead k0 a0 a1 v) ∧ (∀ k j : Nat, ¬ (k = k0 + 17 ∨ (k = k0 ∧ j = 10)) → u.1 k j = v.1 k j)) := by
  generalize hpost : (fun (r : Int32) (u : St) => (WF (wk w) g u ∧ True) ∧ ((r, u) = F_X7_endRead k0 a0 a1 v) ∧ (∀ k j : Nat, ¬ (k = k0 + 17 ∨ (k = k0 ∧ j = 10)) → u.1 k j = v.1 k j)) = post
  refine CTi.of prog_1_method_43_code 3 (some .int) "StarWalk" (by decide +kernel) rfl hq hw (Nat.le_of_ble_eq_true rfl) ?_
  intro pg en s m ar bl me cd ls E I hr hlk hl
  have hx := E.1.1
  have hb := E.1.2.1
  have hl : lv_has ls 3 [(0, .ref (wq w k0)), (1, .int a0), (2, .int a1)] := hl
  obtain ⟨res, hres⟩ : ∃ z, z = F_X7_endRead k0 a0 a1 v := ⟨_, rfl⟩
  have hF := hres.symm
  unfold F_X7_endRead at hF
  replace hres : res = F_X7_endRead k0 a0 a1 v := hres
  have rz0 : ∀ k j : Nat, ¬ (k = k0 + 17 ∨ (k = k0 ∧ j = 10)) → v.1 k j = v.1 k j := fun _ _ _ => rfl
  refine lv_aload_n hx hb dX7_endRead_0 rfl (lv_at hl 0 rfl) ?_
  refine g_StarWalk_now E I h_k0.1 mw_2_69 dX7_endRead_1 ?_
  refine g_Night_place E I h_k0.2.2.1.1 mw_1_113 dX7_endRead_4 ?_
  refine lv_aload_n hx hb dX7_endRead_7 rfl (lv_at hl 0 rfl) ?_
  refine g_StarWalk_scratch E I h_k0.1 mw_2_73 dX7_endRead_8 ?_
  refine cVv E I (c_X2_become l w g v (k0 + 12 + 5) (k0 + 61) E.2.2.1 I.2.2 h_k0.2.2.1.2.2.2.2.2.1 h_k0.2.2.2.2.2.2.1  ) (cwV 1 E.1.2.2.2.2 (gWs (C := "StarWalk$Place") mw_3_218 mw_3_61 mw_3_62 mw_1_4 mw_3_63) rfl rfl rfl (by decide +kernel) ⟨by decide, by decide⟩) h_k0.2.2.1.2.2.2.2.2.1.1 ((ce_o h_k0.2.2.1.2.2.2.2.2.1.2).trans rfl) rfl rfl hl.1 rfl (Nat.le_of_ble_eq_true rfl) dX7_endRead_11 ⟨Nat.le_refl _, Nat.le_refl _⟩ (fun u1 H lo hp hPS => ?_)
  obtain ⟨hp, hex, hfr⟩ := hp
  replace hF := xl_i hex hF
  obtain ⟨hwf, p2⟩ := hp
  have I : Wo w g s.heap u1 H lo := ⟨hPS.1, hPS.2, hwf⟩
  have rzu1 : ∀ k j : Nat, ¬ (k = k0 + 17 ∨ (k = k0 ∧ j = 10)) → u1.1 k j = v.1 k j := fun k j h => (hfr k j (fun z => h (by omega))).trans (rz0 k j h)
  refine lv_aload_n hx hb dX7_endRead_14 rfl (lv_at hl 0 rfl) ?_
  refine lv_iload_n hx hb dX7_endRead_15 rfl (lv_at hl 2 rfl) ?_
  refine p_StarWalk_latestTear E I h_k0.1 mw_2_78 dX7_endRead_16 (fun H lo I => ?_)
  generalize ev3 : up1 u1 k0 10 a1 = v3 at I
  replace hF := xl_i (ev3.symm) hF
  have rzv3 : ∀ k j : Nat, ¬ (k = k0 + 17 ∨ (k = k0 ∧ j = 10)) → v3.1 k j = v.1 k j := fun k j h => fz_u ev3 (by omega) (rzu1 k j h)
  refine lv_iload_n hx hb dX7_endRead_19 rfl (lv_at hl 1 rfl) ?_
  exact rI E I hr hlk rfl (by rw [← hpost]; exact ⟨⟨I.2.2, trivial⟩, hF.trans hres, rzv3⟩) dX7_endRead_20
def F_X7_read (k0 : Nat) (a0 : Int32) (a1 : Int32) (a2 : Int32) (a3 : Int32) (v : St) : Int32 × St :=
xl (fun (self_53 : Int32 → St → Int32 × St) (y53_6 : Int32) (v_53 : St) =>
if y53_6.toInt < a3.toInt then (
xl (a2 + y53_6) fun x5 =>
xl (F_X4_tearAt (k0 + 64 + (19 + 2 * a0.toNatClampNeg)) a1 x5 v_53) fun r6 =>
if r6.toInt = 0 then (
xl (v_53.1 (k0 + 64 + (19 + 2 * a0.toNatClampNeg) + 1) x5.toNatClampNeg) fun x11 =>
xm (F_X0_step (k0 + 12) (k0 + 61) x11 v_53) fun r12 u13 =>
if r12.toInt = 0 then (
xl ((-20 : Int32) - y53_6) fun x17 =>
(x17, u13)) else (
xl (y53_6 + 1) fun x16 =>
(self_53 x16 u13))) else (
xm (F_X7_endRead k0 y53_6 r6 v_53) fun r18 u19 =>
(r18, u19))) else (
xm (F_X7_endRead k0 a3 (0 : Int32) v_53) fun r2 u3 =>
(r2, u3))) fun P_53 =>
xl (F_X7_isSheet a0 v) fun r21 =>
if r21.toInt = 0 then (
((-1 : Int32), v)) else (
xl (F_X7_isLane a1 v) fun r25 =>
if r25.toInt = 0 then (
((-1 : Int32), v)) else (
if a3.toInt < 0 then (
((-1 : Int32), v)) else (
if 10 < a3.toInt then (
((-1 : Int32), v)) else (
xl (F_X2_become (k0 + 61) (k0 + 12 + 5) v) fun u31 =>
(lp P_53 (fun _ _ => ((0 : Int32), v)) ((2147483647 - (0 : Int32).toInt).toNat + 1) (0 : Int32) u31)))))
set_option maxHeartbeats 4000000 in
set_option maxRecDepth 100000 in
theorem c_X7_read (l : Launch) (w : Wp) (g : Nat → Nat → Int32) (v : St) (k0 : Nat) (a0 : Int32) (a1 : Int32) (a2 : Int32) (a3 : Int32) (hq : Inj w) (hw : WF (wk w) g v) (h_k0 : oW w k0) : CTi w l yX7_read (wsy yX7_read prog_1_method_42_code 8 (some .int)) (rmL 5) [.ref (wq w k0), .int a0, .int a1, .int a2, .int a3] v (fun (r : Int32) (u : St) => (WF (wk w) g u ∧ True) ∧ ((r, u) = F_X7_read k0 a0 a1 a2 a3 v) ∧ (∀ k j : Nat, ¬ (k = k0 + 17 ∨ k = k0 + 61 ∨ (k = k0 ∧ j = 10)) → u.1 k j = v.1 k j)) := by
  generalize hpost : (fun (r : Int32) (u : St) => (WF (wk w) g u ∧ True) ∧ ((r, u) = F_X7_read k0 a0 a1 a2 a3 v) ∧ (∀ k j : Nat, ¬ (k = k0 + 17 ∨ k = k0 + 61 ∨ (k = k0 ∧ j = 10)) → u.1 k j = v.1 k j)) = post
  refine CTi.of prog_1_method_42_code 8 (some .int) "StarWalk" (by decide +kernel) rfl hq hw (Nat.le_of_ble_eq_true rfl) ?_
  intro pg en s m ar bl me cd ls E I hr hlk hl
  have hx := E.1.1
  have hb := E.1.2.1
  have hl : lv_has ls 8 [(0, .ref (wq w k0)), (1, .int a0), (2, .int a1), (3, .int a2), (4, .int a3)] := hl
  obtain ⟨res, hres⟩ : ∃ z, z = F_X7_read k0 a0 a1 a2 a3 v := ⟨_, rfl⟩
  have hF := hres.symm
  unfold F_X7_read at hF
  replace hres : res = F_X7_read k0 a0 a1 a2 a3 v := hres
  have rz0 : ∀ k j : Nat, ¬ (k = k0 + 17 ∨ k = k0 + 61 ∨ (k = k0 ∧ j = 10)) → v.1 k j = v.1 k j := fun _ _ _ => rfl
  obtain ⟨P_53, eP_53, hF⟩ := xl_e hF
  have L_53 : ∀ (n : Nat), ∀ (H : Heap) (lo : List Loc) (v_53 : St), Wo w g s.heap v_53 H lo → ∀ (y53_6 : Int32), (0 ≤ y53_6.toInt ∧ y53_6.toInt ≤ 10) → (0 ≤ a0.toInt ∧ a0.toInt ≤ 3) → (0 ≤ a1.toInt ∧ a1.toInt ≤ 2) → (0 ≤ a3.toInt ∧ a3.toInt ≤ 10) → (∀ k j : Nat, ¬ (k = k0 + 17 ∨ k = k0 + 61 ∨ (k = k0 ∧ j = 10)) → v_53.1 k j = v.1 k j) → (lp P_53 (fun _ _ => ((0 : Int32), v)) n y53_6 v_53 = res) → (2147483647 - y53_6.toInt).toNat < n → ∀ (ls : Array Slot), lv_has ls 8 [(0, .ref (wq w k0)), (2, .int a1), (3, .int a2), (4, .int a3), (5, .ref (wq w (k0 + 64 + (19 + 2 * a0.toNatClampNeg)))), (6, .int y53_6)] → W pg l en (rmL 5) s m ar bl me cd H lo 0 0 (Zi w bl ar s post) (F0 m 53 ls []) := by
    intro n
    induction n with
    | zero => intro H lo v_53 I y53_6 hy53_6 hE53_0 hE53_1 hE53_2 rB53_Z hF hm; exact absurd hm (Nat.not_lt_zero _)
    | succ n ih_53 =>
      intro H lo v_53 I y53_6 hy53_6 hE53_0 hE53_1 hE53_2 rB53_Z hF hm ls hl
      replace hF := lpa2 eP_53 hF
      refine lv_iload hx hb dX7_read_53 (lv_at hl 5 rfl) ?_
      refine lv_iload hx hb dX7_read_55 (lv_at hl 3 rfl) ?_
      refine bi_ge E (a := y53_6.toInt) (b := a3.toInt) rfl rfl (tgt := 122) dX7_read_57 (by decide) (fun c1 => ?_) (fun c1 => ?_)
      ·
        replace hF := if_l c1 hF
        refine lv_aload_n hx hb dX7_read_122 rfl (lv_at hl 0 rfl) ?_
        refine lv_iload hx hb dX7_read_123 (lv_at hl 3 rfl) ?_
        refine lv_iconst (v := 0) hx hb dX7_read_125 (by decide) ?_
        refine cVi E I (c_X7_endRead l w g v_53 k0 a3 (0 : Int32) E.2.2.1 I.2.2 h_k0  ) (cwV 2 E.1.2.2.2.2 (gWs (C := "StarWalk") mw_4_144 mw_4_146 mw_s_25 mw_1_1 mw_4_147) rfl rfl rfl (by decide +kernel) ⟨by decide, by decide⟩) h_k0.1.1 ((ce_o h_k0.1.2).trans rfl) rfl rfl hl.1 rfl (Nat.le_of_ble_eq_true rfl) dX7_read_126 ⟨Nat.le_refl _, Nat.le_refl _⟩ (fun r2 u3 H lo hp hPS => ?_)
        obtain ⟨hp, hex, hfr⟩ := hp
        replace hF := xm_i hex hF
        obtain ⟨hwf, p4⟩ := hp
        have I : Wo w g s.heap u3 H lo := ⟨hPS.1, hPS.2, hwf⟩
        have rzu3 : ∀ k j : Nat, ¬ (k = k0 + 17 ∨ k = k0 + 61 ∨ (k = k0 ∧ j = 10)) → u3.1 k j = v.1 k j := fun k j h => (hfr k j (fun z => h (by rcases z with z | z <;> omega))).trans (rB53_Z k j h)
        exact rI E I hr hlk rfl (by rw [← hpost]; exact ⟨⟨I.2.2, trivial⟩, hF.trans hres, rzu3⟩) dX7_read_129
      ·
        replace hF := if_t c1 hF
        refine lv_aload hx hb dX7_read_60 (lv_at hl 4 rfl) ?_
        refine lv_iload_n hx hb dX7_read_62 rfl (lv_at hl 1 rfl) ?_
        refine lv_iload_n hx hb dX7_read_63 rfl (lv_at hl 2 rfl) ?_
        refine lv_iload hx hb dX7_read_64 (lv_at hl 5 rfl) ?_
        refine lv_iadd hx hb dX7_read_66 ?_
        refine lv_topi (fun x5 ex5 => ?_)
        replace hF := xl_i (ex5) hF
        refine cVi E I (c_X4_tearAt l w g v_53 (k0 + 64 + (19 + 2 * a0.toNatClampNeg)) a1 x5 E.2.2.1 I.2.2 (h_k0.2.2.2.2.2.2.2.2.2.2.2 a0.toNatClampNeg (by have := cnI (x := a0) (by omega); omega))  ) (cwV 2 E.1.2.2.2.2 (gWs (C := "StarWalk$Sheet") mw_4_132 mw_4_133 mw_4_134 mw_1_8 mw_4_135) rfl rfl rfl (by decide +kernel) ⟨by decide, by decide⟩) ((h_k0.2.2.2.2.2.2.2.2.2.2.2 a0.toNatClampNeg (by have := cnI (x := a0) (by omega); omega)).1).1 ((ce_o ((h_k0.2.2.2.2.2.2.2.2.2.2.2 a0.toNatClampNeg (by have := cnI (x := a0) (by omega); omega)).1).2).trans rfl) rfl rfl hl.1 rfl (Nat.le_of_ble_eq_true rfl) dX7_read_67 ⟨Nat.le_refl _, Nat.le_refl _⟩ (fun r6 u7 H lo hp hPS => ?_)
        obtain ⟨hp, hex, hfr⟩ := hp
        replace hF := xl_i hex hF
        obtain ⟨hu, p8⟩ := hp
        rw [hu] at hPS
        have I : Wo w g s.heap v_53 H lo := ⟨hPS.1, hPS.2, I.2.2⟩
        refine lv_istore (lv' := [(7, .int r6), (0, .ref (wq w k0)), (2, .int a1), (3, .int a2), (4, .int a3), (5, .ref (wq w (k0 + 64 + (19 + 2 * a0.toNatClampNeg)))), (6, .int y53_6)]) hx hb dX7_read_70 hl (by decide) rfl (fun ls hl => ?_)
        refine lv_iload hx hb dX7_read_72 (lv_at hl 0 rfl) ?_
        refine bz_eq E (a := r6.toInt) rfl (tgt := 86) dX7_read_74 (by decide) (fun c9 => ?_) (fun c9 => ?_)
        ·
          replace hF := if_t c9 hF
          refine lv_aload_n hx hb dX7_read_86 rfl (lv_at hl 1 rfl) ?_
          refine g_StarWalk_now E I h_k0.1 mw_2_69 dX7_read_87 ?_
          refine lv_aload_n hx hb dX7_read_90 rfl (lv_at hl 1 rfl) ?_
          refine g_StarWalk_scratch E I h_k0.1 mw_2_73 dX7_read_91 ?_
          refine lv_aload hx hb dX7_read_94 (lv_at hl 5 rfl) ?_
          refine g_Sheet_cells E I ((h_k0.2.2.2.2.2.2.2.2.2.2.2 a0.toNatClampNeg (by have := cnI (x := a0) (by omega); omega)).1) mw_2_59 dX7_read_96 ?_
          refine lv_iload_n hx hb dX7_read_99 rfl (lv_at hl 3 rfl) ?_
          refine lv_iload hx hb dX7_read_100 (lv_at hl 6 rfl) ?_
          refine lv_iadd hx hb dX7_read_102 ?_
          refine lv_topi (fun x10 ex10 => ?_)
          obtain rfl : x5 = x10 := ex5.trans ex10.symm
          refine ga_18 E I ((h_k0.2.2.2.2.2.2.2.2.2.2.2 a0.toNatClampNeg (by have := cnI (x := a0) (by omega); omega)).2) (by omega) dX7_read_103 ?_
          refine lv_topi (fun x11 ex11 => ?_)
          replace hF := xl_i (ex11) hF
          refine cVi E I (c_X0_step l w g v_53 (k0 + 12) (k0 + 61) x11 E.2.2.1 I.2.2 h_k0.2.2.1 h_k0.2.2.2.2.2.2.1  ) (cwV 2 E.1.2.2.2.2 (gWs (C := "StarWalk$Night") mw_3_176 mw_3_177 mw_3_178 mw_1_3 mw_3_179) rfl rfl rfl (by decide +kernel) ⟨by decide, by decide⟩) h_k0.2.2.1.1.1 ((ce_o h_k0.2.2.1.1.2).trans rfl) rfl rfl hl.1 rfl (Nat.le_of_ble_eq_true rfl) dX7_read_104 ⟨Nat.le_refl _, Nat.le_refl _⟩ (fun r12 u13 H lo hp hPS => ?_)
          obtain ⟨hp, hex, hfr⟩ := hp
          replace hF := xm_i hex hF
          obtain ⟨hwf, p14⟩ := hp
          have I : Wo w g s.heap u13 H lo := ⟨hPS.1, hPS.2, hwf⟩
          have rzu13 : ∀ k j : Nat, ¬ (k = k0 + 17 ∨ k = k0 + 61 ∨ (k = k0 ∧ j = 10)) → u13.1 k j = v.1 k j := fun k j h => (hfr k j (fun z => h (by omega))).trans (rB53_Z k j h)
          refine bz_ne E (a := r12.toInt) rfl (tgt := 116) dX7_read_107 (by decide) (fun c15 => ?_) (fun c15 => ?_)
          ·
            replace hF := if_f c15 hF
            obtain ⟨x16, ex16⟩ : ∃ z : Int32, z = y53_6 + 1 := ⟨_, rfl⟩
            replace hF := xl_i (ex16) hF
            have hx16 : x16.toInt = y53_6.toInt + (1) := by rw [ex16]; exact adI (a := y53_6.toInt) (b := 1) rfl rfl (by omega) (by omega)
            refine lv_iinc (v := x16) (lv' := [(6, .int x16), (7, .int r6), (0, .ref (wq w k0)), (2, .int a1), (3, .int a2), (4, .int a3), (5, .ref (wq w (k0 + 64 + (19 + 2 * a0.toNatClampNeg))))]) hx hb dX7_read_116 hl (k := 6) rfl (by rw [ex16]; rfl) (by decide) rfl (fun ls hl => ?_)
            refine lv_goto (tgt := 53) hx hb dX7_read_119 (by decide) ?_
            exact ih_53 _ _ u13 I x16 (by omega) (by omega) (by omega) (by omega) rzu13 hF (by omega) ls (lv_sub hl [2, 3, 4, 5, 6, 0] rfl)
          ·
            replace hF := if_t c15 hF
            refine lv_bipush (v := (-20)) hx hb dX7_read_110 (by decide) ?_
            refine lv_iload hx hb dX7_read_112 (lv_at hl 6 rfl) ?_
            refine lv_isub hx hb dX7_read_114 ?_
            refine lv_topi (fun x17 ex17 => ?_)
            replace hF := xl_i (ex17) hF
            have hx17 : x17.toInt = (-20) - y53_6.toInt := by rw [ex17]; exact sbI (a := (-20)) (b := y53_6.toInt) rfl rfl (by omega) (by omega)
            exact rI E I hr hlk rfl (by rw [← hpost]; exact ⟨⟨I.2.2, trivial⟩, hF.trans hres, rzu13⟩) dX7_read_115
        ·
          replace hF := if_f c9 hF
          refine lv_aload_n hx hb dX7_read_77 rfl (lv_at hl 1 rfl) ?_
          refine lv_iload hx hb dX7_read_78 (lv_at hl 6 rfl) ?_
          refine lv_iload hx hb dX7_read_80 (lv_at hl 0 rfl) ?_
          refine cVi E I (c_X7_endRead l w g v_53 k0 y53_6 r6 E.2.2.1 I.2.2 h_k0  ) (cwV 2 E.1.2.2.2.2 (gWs (C := "StarWalk") mw_4_144 mw_4_146 mw_s_25 mw_1_1 mw_4_147) rfl rfl rfl (by decide +kernel) ⟨by decide, by decide⟩) h_k0.1.1 ((ce_o h_k0.1.2).trans rfl) rfl rfl hl.1 rfl (Nat.le_of_ble_eq_true rfl) dX7_read_82 ⟨Nat.le_refl _, Nat.le_refl _⟩ (fun r18 u19 H lo hp hPS => ?_)
          obtain ⟨hp, hex, hfr⟩ := hp
          replace hF := xm_i hex hF
          obtain ⟨hwf, p20⟩ := hp
          have I : Wo w g s.heap u19 H lo := ⟨hPS.1, hPS.2, hwf⟩
          have rzu19 : ∀ k j : Nat, ¬ (k = k0 + 17 ∨ k = k0 + 61 ∨ (k = k0 ∧ j = 10)) → u19.1 k j = v.1 k j := fun k j h => (hfr k j (fun z => h (by rcases z with z | z <;> omega))).trans (rB53_Z k j h)
          exact rI E I hr hlk rfl (by rw [← hpost]; exact ⟨⟨I.2.2, trivial⟩, hF.trans hres, rzu19⟩) dX7_read_85
  refine lv_iload_n hx hb dX7_read_0 rfl (lv_at hl 1 rfl) ?_
  refine cSi E I (c_X7_isSheet l w g v a0 E.2.2.1 I.2.2   ) (va_cwS 1 E.1.2.2.2.2 (gSs mw_4_118 mw_4_119 mw_1_1 mw_4_120) rfl rfl rfl (by decide +kernel) ⟨by decide, by decide⟩) rfl hl.1 rfl (Nat.le_of_ble_eq_true rfl) dX7_read_1 ⟨Nat.le_refl _, Nat.le_refl _⟩ (fun r21 u22 H lo hp hPS => ?_)
  obtain ⟨hp, hex, hfr⟩ := hp
  replace hF := xl_i hex hF
  obtain ⟨hu, p23⟩ := hp
  rw [hu] at hPS
  have I : Wo w g s.heap v H lo := ⟨hPS.1, hPS.2, I.2.2⟩
  refine bz_eq E (a := r21.toInt) rfl (tgt := 26) dX7_read_4 (by decide) (fun c24 => ?_) (fun c24 => ?_)
  ·
    replace hF := if_t c24 hF
    refine lv_iconst (v := (-1)) hx hb dX7_read_26 (by decide) ?_
    exact rI E I hr hlk rfl (by rw [← hpost]; exact ⟨⟨I.2.2, trivial⟩, hF.trans hres, rz0⟩) dX7_read_27
  ·
    replace hF := if_f c24 hF
    refine lv_iload_n hx hb dX7_read_7 rfl (lv_at hl 2 rfl) ?_
    refine cSi E I (c_X7_isLane l w g v a1 E.2.2.1 I.2.2   ) (va_cwS 1 E.1.2.2.2.2 (gSs mw_4_121 mw_4_122 mw_1_1 mw_4_123) rfl rfl rfl (by decide +kernel) ⟨by decide, by decide⟩) rfl hl.1 rfl (Nat.le_of_ble_eq_true rfl) dX7_read_8 ⟨Nat.le_refl _, Nat.le_refl _⟩ (fun r25 u26 H lo hp hPS => ?_)
    obtain ⟨hp, hex, hfr⟩ := hp
    replace hF := xl_i hex hF
    obtain ⟨hu, p27⟩ := hp
    rw [hu] at hPS
    have I : Wo w g s.heap v H lo := ⟨hPS.1, hPS.2, I.2.2⟩
    refine bz_eq E (a := r25.toInt) rfl (tgt := 26) dX7_read_11 (by decide) (fun c28 => ?_) (fun c28 => ?_)
    ·
      replace hF := if_t c28 hF
      refine lv_iconst (v := (-1)) hx hb dX7_read_26 (by decide) ?_
      exact rI E I hr hlk rfl (by rw [← hpost]; exact ⟨⟨I.2.2, trivial⟩, hF.trans hres, rz0⟩) dX7_read_27
    ·
      replace hF := if_f c28 hF
      refine lv_iload hx hb dX7_read_14 (lv_at hl 4 rfl) ?_
      refine bz_lt E (a := a3.toInt) rfl (tgt := 26) dX7_read_16 (by decide) (fun c29 => ?_) (fun c29 => ?_)
      ·
        replace hF := if_t c29 hF
        refine lv_iconst (v := (-1)) hx hb dX7_read_26 (by decide) ?_
        exact rI E I hr hlk rfl (by rw [← hpost]; exact ⟨⟨I.2.2, trivial⟩, hF.trans hres, rz0⟩) dX7_read_27
      ·
        replace hF := if_l c29 hF
        refine lv_iload hx hb dX7_read_19 (lv_at hl 4 rfl) ?_
        refine lv_bipush (v := 10) hx hb dX7_read_21 (by decide) ?_
        refine bi_le E (a := a3.toInt) (b := 10) rfl rfl (tgt := 28) dX7_read_23 (by decide) (fun c30 => ?_) (fun c30 => ?_)
        ·
          replace hF := if_l c30 hF
          refine lv_aload_n hx hb dX7_read_28 rfl (lv_at hl 0 rfl) ?_
          refine g_StarWalk_sheets E I h_k0.1 mw_2_76 dX7_read_29 ?_
          refine lv_iload_n hx hb dX7_read_32 rfl (lv_at hl 1 rfl) ?_
          refine ga_23 E I h_k0.2.2.2.2.2.2.2.2.2.1 (by omega) dX7_read_33 ?_
          refine lv_astore (lv' := [(5, .ref (wq w (k0 + 64 + (19 + 2 * a0.toNatClampNeg)))), (0, .ref (wq w k0)), (1, .int a0), (2, .int a1), (3, .int a2), (4, .int a3)]) hx hb dX7_read_34 hl (by decide) rfl (fun ls hl => ?_)
          refine lv_aload_n hx hb dX7_read_36 rfl (lv_at hl 1 rfl) ?_
          refine g_StarWalk_scratch E I h_k0.1 mw_2_73 dX7_read_37 ?_
          refine lv_aload_n hx hb dX7_read_40 rfl (lv_at hl 1 rfl) ?_
          refine g_StarWalk_now E I h_k0.1 mw_2_69 dX7_read_41 ?_
          refine g_Night_place E I h_k0.2.2.1.1 mw_1_113 dX7_read_44 ?_
          refine cVv E I (c_X2_become l w g v (k0 + 61) (k0 + 12 + 5) E.2.2.1 I.2.2 h_k0.2.2.2.2.2.2.1 h_k0.2.2.1.2.2.2.2.2.1  ) (cwV 1 E.1.2.2.2.2 (gWs (C := "StarWalk$Place") mw_3_218 mw_3_61 mw_3_62 mw_1_4 mw_3_63) rfl rfl rfl (by decide +kernel) ⟨by decide, by decide⟩) h_k0.2.2.2.2.2.2.1.1 ((ce_o h_k0.2.2.2.2.2.2.1.2).trans rfl) rfl rfl hl.1 rfl (Nat.le_of_ble_eq_true rfl) dX7_read_47 ⟨Nat.le_refl _, Nat.le_refl _⟩ (fun u31 H lo hp hPS => ?_)
          obtain ⟨hp, hex, hfr⟩ := hp
          replace hF := xl_i hex hF
          obtain ⟨hwf, p32⟩ := hp
          have I : Wo w g s.heap u31 H lo := ⟨hPS.1, hPS.2, hwf⟩
          have rzu31 : ∀ k j : Nat, ¬ (k = k0 + 17 ∨ k = k0 + 61 ∨ (k = k0 ∧ j = 10)) → u31.1 k j = v.1 k j := fun k j h => (hfr k j (fun z => h (by omega))).trans (rz0 k j h)
          refine lv_iconst (v := 0) hx hb dX7_read_50 (by decide) ?_
          refine lv_istore (lv' := [(6, .int 0), (5, .ref (wq w (k0 + 64 + (19 + 2 * a0.toNatClampNeg)))), (0, .ref (wq w k0)), (1, .int a0), (2, .int a1), (3, .int a2), (4, .int a3)]) hx hb dX7_read_51 hl (by decide) rfl (fun ls hl => ?_)
          exact L_53 ((2147483647 - (0 : Int32).toInt).toNat + 1) _ _ u31 I (0 : Int32) (by decide) (by omega) (by omega) (by omega) rzu31 hF (Nat.lt_succ_self _) ls (lv_sub hl [2, 4, 5, 6, 1, 0] rfl)
        ·
          replace hF := if_t c30 hF
          refine lv_iconst (v := (-1)) hx hb dX7_read_26 (by decide) ?_
          exact rI E I hr hlk rfl (by rw [← hpost]; exact ⟨⟨I.2.2, trivial⟩, hF.trans hres, rz0⟩) dX7_read_27
def F_X7_torn (k0 : Nat) (v : St) : Int32 :=
xl (v.1 k0 10) fun x1 =>
x1
set_option maxHeartbeats 4000000 in
set_option maxRecDepth 100000 in
theorem c_X7_torn (l : Launch) (w : Wp) (g : Nat → Nat → Int32) (v : St) (k0 : Nat) (hq : Inj w) (hw : WF (wk w) g v) (h_k0 : oW w k0) : CTi w l yX7_torn (wsy yX7_torn prog_1_method_44_code 1 (some .int)) (rmL 1) [.ref (wq w k0)] v (fun (r : Int32) (u : St) => (u = v ∧ True) ∧ (r = F_X7_torn k0 v) ∧ True) := by
  generalize hpost : (fun (r : Int32) (u : St) => (u = v ∧ True) ∧ (r = F_X7_torn k0 v) ∧ True) = post
  refine CTi.of prog_1_method_44_code 1 (some .int) "StarWalk" (by decide +kernel) rfl hq hw (Nat.le_of_ble_eq_true rfl) ?_
  intro pg en s m ar bl me cd ls E I hr hlk hl
  have hx := E.1.1
  have hb := E.1.2.1
  have hl : lv_has ls 1 [(0, .ref (wq w k0))] := hl
  obtain ⟨res, hres⟩ : ∃ z, z = F_X7_torn k0 v := ⟨_, rfl⟩
  have hF := hres.symm
  unfold F_X7_torn at hF
  replace hres : res = F_X7_torn k0 v := hres
  refine lv_aload_n hx hb dX7_torn_0 rfl (lv_at hl 0 rfl) ?_
  refine g_StarWalk_latestTear E I h_k0.1 mw_2_78 dX7_torn_1 ?_
  refine lv_topi (fun x1 ex1 => ?_)
  replace hF := xl_i (ex1) hF
  exact rI E I hr hlk rfl (by rw [← hpost]; exact ⟨⟨rfl, trivial⟩, hF.trans hres, trivial⟩) dX7_torn_4
def F_X7_count (k0 : Nat) (a0 : Int32) (v : St) : Int32 :=
if a0.toInt = 0 then (
xl (v.1 (k0 + 12) 4) fun x2 =>
xl (F_J6_bitCount_0f7a4 x2 v) fun r3 =>
r3) else (
if a0.toInt = 1 then (
xl (v.1 (k0 + 12) 17) fun x7 =>
x7) else (
if a0.toInt = 2 then (
xl (v.1 (k0 + 63) (0 : Int32).toNatClampNeg) fun x9 =>
xl (F_X7_oneIf x9 v) fun r10 =>
xl (v.1 (k0 + 63) (1 : Int32).toNatClampNeg) fun x13 =>
xl (F_X7_oneIf x13 v) fun r14 =>
xl (r10 + r14) fun x17 =>
x17) else (
if a0.toInt = 3 then (
xl (v.1 (k0 + 1) 1) fun x19 =>
x19) else (
if a0.toInt = 4 then (
xl (v.1 (k0 + 64 + (19 + 2 * (0 : Int32).toNatClampNeg)) 0) fun x21 =>
if x21.toInt = (-1) then (
(-4 : Int32)) else (
xl (v.1 (k0 + 64 + (19 + 2 * (0 : Int32).toNatClampNeg)) 1) fun x23 =>
x23)) else (
(-1 : Int32))))))
set_option maxHeartbeats 4000000 in
set_option maxRecDepth 100000 in
theorem c_X7_count (l : Launch) (w : Wp) (g : Nat → Nat → Int32) (v : St) (k0 : Nat) (a0 : Int32) (hq : Inj w) (hw : WF (wk w) g v) (h_k0 : oW w k0) : CTi w l yX7_count (wsy yX7_count prog_1_method_45_code 2 (some .int)) (rmL 2) [.ref (wq w k0), .int a0] v (fun (r : Int32) (u : St) => (u = v ∧ True) ∧ (r = F_X7_count k0 a0 v) ∧ True) := by
  generalize hpost : (fun (r : Int32) (u : St) => (u = v ∧ True) ∧ (r = F_X7_count k0 a0 v) ∧ True) = post
  refine CTi.of prog_1_method_45_code 2 (some .int) "StarWalk" (by decide +kernel) rfl hq hw (Nat.le_of_ble_eq_true rfl) ?_
  intro pg en s m ar bl me cd ls E I hr hlk hl
  have hx := E.1.1
  have hb := E.1.2.1
  have hl : lv_has ls 2 [(0, .ref (wq w k0)), (1, .int a0)] := hl
  obtain ⟨res, hres⟩ : ∃ z, z = F_X7_count k0 a0 v := ⟨_, rfl⟩
  have hF := hres.symm
  unfold F_X7_count at hF
  replace hres : res = F_X7_count k0 a0 v := hres
  refine lv_iload_n hx hb dX7_count_0 rfl (lv_at hl 1 rfl) ?_
  by_cases c1 : a0.toInt = 0
  ·
    replace hF := if_t c1 hF
    refine lv_tableIn hx hb dX7_count_1 (by omega) (by omega) (by rw [c1]; rfl) (tgt := 36) (by decide) ?_
    refine lv_aload_n hx hb dX7_count_36 rfl (lv_at hl 0 rfl) ?_
    refine g_StarWalk_now E I h_k0.1 mw_2_69 dX7_count_37 ?_
    refine g_Night_known E I h_k0.2.2.1.1 mw_1_88 dX7_count_40 ?_
    refine lv_topi (fun x2 ex2 => ?_)
    replace hF := xl_i (ex2) hF
    refine cSi E I (c_J6_bitCount_0f7a4 l w g v x2 E.2.2.1 I.2.2   ) (va_cwS 1 E.1.2.2.2.2 (gSs mw_4_17 mw_4_18 mw_1_16 mw_4_19) rfl rfl rfl (by decide +kernel) ⟨by decide, by decide⟩) rfl hl.1 rfl (Nat.le_of_ble_eq_true rfl) dX7_count_43 ⟨Nat.le_refl _, Nat.le_refl _⟩ (fun r3 u4 H lo hp hPS => ?_)
    obtain ⟨hp, hex, hfr⟩ := hp
    replace hF := xl_i hex hF
    obtain ⟨hu, p5⟩ := hp
    rw [hu] at hPS
    have I : Wo w g s.heap v H lo := ⟨hPS.1, hPS.2, I.2.2⟩
    exact rI E I hr hlk rfl (by rw [← hpost]; exact ⟨⟨rfl, trivial⟩, hF.trans hres, trivial⟩) dX7_count_46
  replace hF := if_f c1 hF
  by_cases c6 : a0.toInt = 1
  ·
    replace hF := if_t c6 hF
    refine lv_tableIn hx hb dX7_count_1 (by omega) (by omega) (by rw [c6]; rfl) (tgt := 47) (by decide) ?_
    refine lv_aload_n hx hb dX7_count_47 rfl (lv_at hl 0 rfl) ?_
    refine g_StarWalk_now E I h_k0.1 mw_2_69 dX7_count_48 ?_
    refine g_Night_seen E I h_k0.2.2.1.1 mw_1_131 dX7_count_51 ?_
    refine lv_topi (fun x7 ex7 => ?_)
    replace hF := xl_i (ex7) hF
    have hx7 := r_Night_seen I h_k0.2.2.1.1
    rw [← ex7] at hx7
    exact rI E I hr hlk rfl (by rw [← hpost]; exact ⟨⟨rfl, trivial⟩, hF.trans hres, trivial⟩) dX7_count_54
  replace hF := if_f c6 hF
  by_cases c8 : a0.toInt = 2
  ·
    replace hF := if_t c8 hF
    refine lv_tableIn hx hb dX7_count_1 (by omega) (by omega) (by rw [c8]; rfl) (tgt := 55) (by decide) ?_
    refine lv_aload_n hx hb dX7_count_55 rfl (lv_at hl 0 rfl) ?_
    refine g_StarWalk_kept E I h_k0.1 mw_2_75 dX7_count_56 ?_
    refine lv_iconst (v := 0) hx hb dX7_count_59 (by decide) ?_
    refine ga_19 E I h_k0.2.2.2.2.2.2.2.2.1 (by decide) dX7_count_60 ?_
    refine lv_topi (fun x9 ex9 => ?_)
    replace hF := xl_i (ex9) hF
    refine cSi E I (c_X7_oneIf l w g v x9 E.2.2.1 I.2.2   ) (va_cwS 1 E.1.2.2.2.2 (gSs mw_3_86 mw_3_87 mw_1_1 mw_3_88) rfl rfl rfl (by decide +kernel) ⟨by decide, by decide⟩) rfl hl.1 rfl (Nat.le_of_ble_eq_true rfl) dX7_count_61 ⟨Nat.le_refl _, Nat.le_refl _⟩ (fun r10 u11 H lo hp hPS => ?_)
    obtain ⟨hp, hex, hfr⟩ := hp
    replace hF := xl_i hex hF
    obtain ⟨hu, p12⟩ := hp
    rw [hu] at hPS
    have I : Wo w g s.heap v H lo := ⟨hPS.1, hPS.2, I.2.2⟩
    refine lv_aload_n hx hb dX7_count_64 rfl (lv_at hl 0 rfl) ?_
    refine g_StarWalk_kept E I h_k0.1 mw_2_75 dX7_count_65 ?_
    refine lv_iconst (v := 1) hx hb dX7_count_68 (by decide) ?_
    refine ga_19 E I h_k0.2.2.2.2.2.2.2.2.1 (by decide) dX7_count_69 ?_
    refine lv_topi (fun x13 ex13 => ?_)
    replace hF := xl_i (ex13) hF
    refine cSi E I (c_X7_oneIf l w g v x13 E.2.2.1 I.2.2   ) (va_cwS 1 E.1.2.2.2.2 (gSs mw_3_86 mw_3_87 mw_1_1 mw_3_88) rfl rfl rfl (by decide +kernel) ⟨by decide, by decide⟩) rfl hl.1 rfl (Nat.le_of_ble_eq_true rfl) dX7_count_70 ⟨Nat.le_refl _, Nat.le_refl _⟩ (fun r14 u15 H lo hp hPS => ?_)
    obtain ⟨hp, hex, hfr⟩ := hp
    replace hF := xl_i hex hF
    obtain ⟨hu, p16⟩ := hp
    rw [hu] at hPS
    have I : Wo w g s.heap v H lo := ⟨hPS.1, hPS.2, I.2.2⟩
    refine lv_iadd hx hb dX7_count_73 ?_
    refine lv_topi (fun x17 ex17 => ?_)
    replace hF := xl_i (ex17) hF
    have hx17 : x17.toInt = r10.toInt + r14.toInt := by rw [ex17]; exact adI (a := r10.toInt) (b := r14.toInt) rfl rfl (by omega) (by omega)
    exact rI E I hr hlk rfl (by rw [← hpost]; exact ⟨⟨rfl, trivial⟩, hF.trans hres, trivial⟩) dX7_count_74
  replace hF := if_f c8 hF
  by_cases c18 : a0.toInt = 3
  ·
    replace hF := if_t c18 hF
    refine lv_tableIn hx hb dX7_count_1 (by omega) (by omega) (by rw [c18]; rfl) (tgt := 75) (by decide) ?_
    refine lv_aload_n hx hb dX7_count_75 rfl (lv_at hl 0 rfl) ?_
    refine g_StarWalk_tape E I h_k0.1 mw_2_68 dX7_count_76 ?_
    refine g_Tape_length E I h_k0.2.1.1 mw_1_171 dX7_count_79 ?_
    refine lv_topi (fun x19 ex19 => ?_)
    replace hF := xl_i (ex19) hF
    have hx19 := r_Tape_length I h_k0.2.1.1
    rw [← ex19] at hx19
    exact rI E I hr hlk rfl (by rw [← hpost]; exact ⟨⟨rfl, trivial⟩, hF.trans hres, trivial⟩) dX7_count_82
  replace hF := if_f c18 hF
  by_cases c20 : a0.toInt = 4
  ·
    replace hF := if_t c20 hF
    refine lv_tableIn hx hb dX7_count_1 (by omega) (by omega) (by rw [c20]; rfl) (tgt := 83) (by decide) ?_
    refine lv_aload_n hx hb dX7_count_83 rfl (lv_at hl 0 rfl) ?_
    refine g_StarWalk_sheets E I h_k0.1 mw_2_76 dX7_count_84 ?_
    refine lv_iconst (v := 0) hx hb dX7_count_87 (by decide) ?_
    refine ga_23 E I h_k0.2.2.2.2.2.2.2.2.2.1 (by decide) dX7_count_88 ?_
    refine g_Sheet_lane E I ((h_k0.2.2.2.2.2.2.2.2.2.2.2 (0 : Int32).toNatClampNeg (by decide)).1) mw_2_55 dX7_count_89 ?_
    refine lv_topi (fun x21 ex21 => ?_)
    replace hF := xl_i (ex21) hF
    refine lv_iconst (v := (-1)) hx hb dX7_count_92 (by decide) ?_
    refine bi_ne E (a := x21.toInt) (b := (-1)) rfl rfl (tgt := 101) dX7_count_93 (by decide) (fun c22 => ?_) (fun c22 => ?_)
    ·
      replace hF := if_f c22 hF
      refine lv_aload_n hx hb dX7_count_101 rfl (lv_at hl 0 rfl) ?_
      refine g_StarWalk_sheets E I h_k0.1 mw_2_76 dX7_count_102 ?_
      refine lv_iconst (v := 0) hx hb dX7_count_105 (by decide) ?_
      refine ga_23 E I h_k0.2.2.2.2.2.2.2.2.2.1 (by decide) dX7_count_106 ?_
      refine g_Sheet_size E I ((h_k0.2.2.2.2.2.2.2.2.2.2.2 (0 : Int32).toNatClampNeg (by decide)).1) mw_2_57 dX7_count_107 ?_
      refine lv_topi (fun x23 ex23 => ?_)
      replace hF := xl_i (ex23) hF
      have hx23 := r_Sheet_size I ((h_k0.2.2.2.2.2.2.2.2.2.2.2 (0 : Int32).toNatClampNeg (by decide)).1)
      rw [← ex23] at hx23
      exact rI E I hr hlk rfl (by rw [← hpost]; exact ⟨⟨rfl, trivial⟩, hF.trans hres, trivial⟩) dX7_count_110
    ·
      replace hF := if_t c22 hF
      refine lv_bipush (v := (-4)) hx hb dX7_count_96 (by decide) ?_
      refine lv_goto (tgt := 110) hx hb dX7_count_98 (by decide) ?_
      exact rI E I hr hlk rfl (by rw [← hpost]; exact ⟨⟨rfl, trivial⟩, hF.trans hres, trivial⟩) dX7_count_110
  replace hF := if_f c20 hF
  refine lv_tableOut hx hb dX7_count_1 (by omega) (tgt := 111) (by decide) ?_
  refine lv_iconst (v := (-1)) hx hb dX7_count_111 (by decide) ?_
  exact rI E I hr hlk rfl (by rw [← hpost]; exact ⟨⟨rfl, trivial⟩, hF.trans hres, trivial⟩) dX7_count_112
