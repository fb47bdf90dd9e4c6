def F_X8_front (k0 : Nat) (a0 : Int32) (v : St) : Int32 × St :=
xl (fun (self_18 : Int32 → Int32 → Int32 → St → Int32 × St) (y18_2 : Int32) (y18_3 : Int32) (y18_4 : Int32) (v_18 : St) =>
xl (fun (y96_2 : Int32) (z96_0 : Int32) (v_96 : St) =>
xl (y18_4 + 1) fun x1 =>
(self_18 y96_2 z96_0 x1 v_96)) fun J_96 =>
xl (fun (y79_5 : Int32) (z79_0 : Int32) (v_79 : St) =>
if y79_5.toInt = 0 then (
(J_96 z79_0 y18_3 v_79)) else (
xl (v_79.1 (k0 + 2) (31 : Int32).toNatClampNeg) fun x3 =>
(J_96 z79_0 x3 v_79))) fun J_79 =>
xl (fun (z66_0 : Int32) (v_66 : St) =>
if z66_0.toInt = 0 then (
(J_79 z66_0 y18_2 v_66)) else (
(J_79 z66_0 y18_4 v_66))) fun J_66 =>
xl (v_18.1 k0 4) fun x5 =>
if y18_4.toInt < x5.toInt then (
xl (F_X8_starts k0 v_18) fun u10 =>
xl (up1 u10 (k0 + 2) (23 : Int32).toNatClampNeg y18_4) fun v12 =>
xl (F_X8_plansGo k0 v12) fun u13 =>
xl (u13.1 (k0 + 2) (31 : Int32).toNatClampNeg) fun x15 =>
xl (F_X8_sizeOf x15 u13) fun r16 =>
xl (F_X8_sizeOf y18_3 u13) fun r19 =>
if r16.toInt < r19.toInt then (
(J_66 (1 : Int32) u13)) else (
(J_66 (0 : Int32) u13))) else (
if y18_2.toInt = (-4) then (
((-4 : Int32), v_18)) else (
if a0.toInt = 0 then (
(y18_2, v_18)) else (
xl ((1000 : Int32) + y18_3) fun x9 =>
(x9, v_18))))) fun P_18 =>
xl (F_X8_isPart a0 v) fun r23 =>
if r23.toInt = 0 then (
((-1 : Int32), v)) else (
(lp P_18 (fun _ _ _ _ => ((0 : Int32), v)) ((2147483647 - (0 : Int32).toInt).toNat + 1) (-4 : Int32) (1000000 : Int32) (0 : Int32) v))
set_option maxHeartbeats 4000000 in
set_option maxRecDepth 100000 in
theorem c_X8_front (l : Launch) (w : Wp) (g : Nat → Nat → Int32) (v : St) (k0 : Nat) (a0 : Int32) (hq : Inj w) (hw : WF (wk w) g v) (h_k0 : oM w k0) : CTi w l yX8_front (wsy yX8_front prog_10_method_64_code 6 (some .int)) (rmL 6) [.ref (wq w k0), .int a0] v (fun (r : Int32) (u : St) => (WF (wk w) g u ∧ True) ∧ ((r, u) = F_X8_front k0 a0 v) ∧ (∀ k j : Nat, ¬ (k = k0 + 2 ∨ (k = k0 ∧ 19 ≤ j ∧ j ≤ 22)) → u.1 k j = v.1 k j)) := by
  generalize hpost : (fun (r : Int32) (u : St) => (WF (wk w) g u ∧ True) ∧ ((r, u) = F_X8_front k0 a0 v) ∧ (∀ k j : Nat, ¬ (k = k0 + 2 ∨ (k = k0 ∧ 19 ≤ j ∧ j ≤ 22)) → u.1 k j = v.1 k j)) = post
  refine CTi.of prog_10_method_64_code 6 (some .int) "StarWalkModel" (by decide +kernel) rfl hq hw (Nat.le_of_ble_eq_true rfl) ?_
  intro pg en s m ar bl me cd ls E I hr hlk hl
  have hx := E.1.1
  have hb := E.1.2.1
  have hl : lv_has ls 6 [(0, .ref (wq w k0)), (1, .int a0)] := hl
  obtain ⟨res, hres⟩ : ∃ z, z = F_X8_front k0 a0 v := ⟨_, rfl⟩
  have hF := hres.symm
  unfold F_X8_front at hF
  replace hres : res = F_X8_front k0 a0 v := hres
  have rz0 : ∀ k j : Nat, ¬ (k = k0 + 2 ∨ (k = k0 ∧ 19 ≤ j ∧ j ≤ 22)) → v.1 k j = v.1 k j := fun _ _ _ => rfl
  obtain ⟨P_18, eP_18, hF⟩ := xl_e hF
  have L_18 : ∀ (n : Nat), ∀ (H : Heap) (lo : List Loc) (v_18 : St), Wo w g s.heap v_18 H lo → ∀ (y18_2 : Int32) (y18_3 : Int32) (y18_4 : Int32), (-4 ≤ y18_2.toInt ∧ y18_2.toInt ≤ 2) → (0 ≤ y18_4.toInt ∧ y18_4.toInt ≤ 3) → (0 ≤ a0.toInt ∧ a0.toInt ≤ 1) → (∀ k j : Nat, ¬ (k = k0 + 2 ∨ (k = k0 ∧ 19 ≤ j ∧ j ≤ 22)) → v_18.1 k j = v.1 k j) → (lp P_18 (fun _ _ _ _ => ((0 : Int32), v)) n y18_2 y18_3 y18_4 v_18 = res) → (2147483647 - y18_4.toInt).toNat < n → ∀ (ls : Array Slot), lv_has ls 6 [(0, .ref (wq w k0)), (1, .int a0), (2, .int y18_2), (3, .int y18_3), (4, .int y18_4)] → W pg l en (rmL 6) s m ar bl me cd H lo 0 0 (Zi w bl ar s post) (F0 m 18 ls []) := by
    intro n
    induction n with
    | zero => intro H lo v_18 I y18_2 y18_3 y18_4 hy18_2 hy18_4 hE18_0 rB18_Z hF hm; exact absurd hm (Nat.not_lt_zero _)
    | succ n ih_18 =>
      intro H lo v_18 I y18_2 y18_3 y18_4 hy18_2 hy18_4 hE18_0 rB18_Z hF hm ls hl
      replace hF := lpa4 eP_18 hF
      obtain ⟨J_96, eJ_96, hF⟩ := xl_e hF
      have B_96 : ∀ (H : Heap) (lo : List Loc) (v_96 : St), Wo w g s.heap v_96 H lo → ∀ (y96_2 : Int32) (z96_0 : Int32), (-4 ≤ y96_2.toInt ∧ y96_2.toInt ≤ 2) → (0 ≤ a0.toInt ∧ a0.toInt ≤ 1) → (0 ≤ y18_4.toInt ∧ y18_4.toInt ≤ 2) → (∀ k j : Nat, ¬ (k = k0 + 2 ∨ (k = k0 ∧ 19 ≤ j ∧ j ≤ 22)) → v_96.1 k j = v.1 k j) → (J_96 y96_2 z96_0 v_96 = res) → ∀ (ls : Array Slot), lv_has ls 6 [(0, .ref (wq w k0)), (1, .int a0), (2, .int y96_2), (4, .int y18_4)] → W pg l en (rmL 6) s m ar bl me cd H lo 0 0 (Zi w bl ar s post) (F0 m 96 ls [.int z96_0]) := by
        intro H lo v_96 I y96_2 z96_0 hy96_2 hE96_0 hE96_1 rB96_Z hF ls hl
        replace hF := ap3 eJ_96 hF
        refine lv_istore_n (lv' := [(3, .int z96_0), (0, .ref (wq w k0)), (1, .int a0), (2, .int y96_2), (4, .int y18_4)]) hx hb dX8_front_96 rfl hl (by decide) rfl (fun ls hl => ?_)
        obtain ⟨x1, ex1⟩ : ∃ z : Int32, z = y18_4 + 1 := ⟨_, rfl⟩
        replace hF := xl_i (ex1) hF
        have hx1 : x1.toInt = y18_4.toInt + (1) := by rw [ex1]; exact adI (a := y18_4.toInt) (b := 1) rfl rfl (by omega) (by omega)
        refine lv_iinc (v := x1) (lv' := [(4, .int x1), (3, .int z96_0), (0, .ref (wq w k0)), (1, .int a0), (2, .int y96_2)]) hx hb dX8_front_97 hl (k := 4) rfl (by rw [ex1]; rfl) (by decide) rfl (fun ls hl => ?_)
        refine lv_goto (tgt := 18) hx hb dX8_front_100 (by decide) ?_
        exact ih_18 _ _ v_96 I y96_2 z96_0 x1 (by omega) (by omega) (by omega) rB96_Z hF (by omega) ls (lv_sub hl [2, 3, 4, 1, 0] rfl)
      obtain ⟨J_79, eJ_79, hF⟩ := xl_e hF
      have B_79 : ∀ (H : Heap) (lo : List Loc) (v_79 : St), Wo w g s.heap v_79 H lo → ∀ (y79_5 : Int32) (z79_0 : Int32), (0 ≤ y79_5.toInt ∧ y79_5.toInt ≤ 1) → (-4 ≤ z79_0.toInt ∧ z79_0.toInt ≤ 2) → (0 ≤ a0.toInt ∧ a0.toInt ≤ 1) → (0 ≤ y18_4.toInt ∧ y18_4.toInt ≤ 2) → (∀ k j : Nat, ¬ (k = k0 + 2 ∨ (k = k0 ∧ 19 ≤ j ∧ j ≤ 22)) → v_79.1 k j = v.1 k j) → (J_79 y79_5 z79_0 v_79 = res) → ∀ (ls : Array Slot), lv_has ls 6 [(0, .ref (wq w k0)), (1, .int a0), (3, .int y18_3), (4, .int y18_4), (5, .int y79_5)] → W pg l en (rmL 6) s m ar bl me cd H lo 0 0 (Zi w bl ar s post) (F0 m 79 ls [.int z79_0]) := by
        intro H lo v_79 I y79_5 z79_0 hy79_5 hz79_0 hE79_0 hE79_1 rB79_Z hF ls hl
        replace hF := ap3 eJ_79 hF
        refine lv_istore_n (lv' := [(2, .int z79_0), (0, .ref (wq w k0)), (1, .int a0), (3, .int y18_3), (4, .int y18_4), (5, .int y79_5)]) hx hb dX8_front_79 rfl hl (by decide) rfl (fun ls hl => ?_)
        refine lv_iload hx hb dX8_front_80 (lv_at hl 5 rfl) ?_
        refine bz_eq E (a := y79_5.toInt) rfl (tgt := 95) dX8_front_82 (by decide) (fun c2 => ?_) (fun c2 => ?_)
        ·
          replace hF := if_t c2 hF
          refine lv_iload_n hx hb dX8_front_95 rfl (lv_at hl 3 rfl) ?_
          exact B_96 _ _ v_79 I z79_0 y18_3 (by omega) (by omega) (by omega) rB79_Z hF ls (lv_sub hl [1, 2, 0, 4] rfl)
        ·
          replace hF := if_f c2 hF
          refine lv_aload_n hx hb dX8_front_85 rfl (lv_at hl 1 rfl) ?_
          refine g_StarWalkModel_at E I h_k0.1 mw_4_171 dX8_front_86 ?_
          refine lv_bipush (v := 31) hx hb dX8_front_89 (by decide) ?_
          refine ga_31 E I h_k0.2.2.1 (by decide) dX8_front_91 ?_
          refine lv_topi (fun x3 ex3 => ?_)
          replace hF := xl_i (ex3) hF
          refine lv_goto (tgt := 96) hx hb dX8_front_92 (by decide) ?_
          exact B_96 _ _ v_79 I z79_0 x3 (by omega) (by omega) (by omega) rB79_Z hF ls (lv_sub hl [1, 2, 0, 4] rfl)
      obtain ⟨J_66, eJ_66, hF⟩ := xl_e hF
      have B_66 : ∀ (H : Heap) (lo : List Loc) (v_66 : St), Wo w g s.heap v_66 H lo → ∀ (z66_0 : Int32), (0 ≤ z66_0.toInt ∧ z66_0.toInt ≤ 1) → (0 ≤ a0.toInt ∧ a0.toInt ≤ 1) → (-4 ≤ y18_2.toInt ∧ y18_2.toInt ≤ 2) → (0 ≤ y18_4.toInt ∧ y18_4.toInt ≤ 2) → (∀ k j : Nat, ¬ (k = k0 + 2 ∨ (k = k0 ∧ 19 ≤ j ∧ j ≤ 22)) → v_66.1 k j = v.1 k j) → (J_66 z66_0 v_66 = res) → ∀ (ls : Array Slot), lv_has ls 6 [(0, .ref (wq w k0)), (1, .int a0), (2, .int y18_2), (3, .int y18_3), (4, .int y18_4)] → W pg l en (rmL 6) s m ar bl me cd H lo 0 0 (Zi w bl ar s post) (F0 m 66 ls [.int z66_0]) := by
        intro H lo v_66 I z66_0 hz66_0 hE66_0 hE66_1 hE66_2 rB66_Z hF ls hl
        replace hF := ap2 eJ_66 hF
        refine lv_istore (lv' := [(5, .int z66_0), (0, .ref (wq w k0)), (1, .int a0), (2, .int y18_2), (3, .int y18_3), (4, .int y18_4)]) hx hb dX8_front_66 hl (by decide) rfl (fun ls hl => ?_)
        refine lv_iload hx hb dX8_front_68 (lv_at hl 0 rfl) ?_
        refine bz_eq E (a := z66_0.toInt) rfl (tgt := 78) dX8_front_70 (by decide) (fun c4 => ?_) (fun c4 => ?_)
        ·
          replace hF := if_t c4 hF
          refine lv_iload_n hx hb dX8_front_78 rfl (lv_at hl 3 rfl) ?_
          exact B_79 _ _ v_66 I z66_0 y18_2 (by omega) (by omega) (by omega) (by omega) rB66_Z hF ls (lv_sub hl [1, 2, 4, 5, 0] rfl)
        ·
          replace hF := if_f c4 hF
          refine lv_iload hx hb dX8_front_73 (lv_at hl 5 rfl) ?_
          refine lv_goto (tgt := 79) hx hb dX8_front_75 (by decide) ?_
          exact B_79 _ _ v_66 I z66_0 y18_4 (by omega) (by omega) (by omega) (by omega) rB66_Z hF ls (lv_sub hl [1, 2, 4, 5, 0] rfl)
      refine lv_iload hx hb dX8_front_18 (lv_at hl 4 rfl) ?_
      refine lv_aload_n hx hb dX8_front_20 rfl (lv_at hl 0 rfl) ?_
      refine g_StarWalkModel_walkers E I h_k0.1 mw_4_174 dX8_front_21 ?_
      refine lv_topi (fun x5 ex5 => ?_)
      replace hF := xl_i (ex5) hF
      have hx5 := r_StarWalkModel_walkers I h_k0.1
      rw [← ex5] at hx5
      refine bi_ge E (a := y18_4.toInt) (b := x5.toInt) rfl rfl (tgt := 103) dX8_front_24 (by decide) (fun c6 => ?_) (fun c6 => ?_)
      ·
        replace hF := if_l c6 hF
        refine lv_iload_n hx hb dX8_front_103 rfl (lv_at hl 2 rfl) ?_
        refine lv_bipush (v := (-4)) hx hb dX8_front_104 (by decide) ?_
        refine bi_ne E (a := y18_2.toInt) (b := (-4)) rfl rfl (tgt := 114) dX8_front_106 (by decide) (fun c7 => ?_) (fun c7 => ?_)
        ·
          replace hF := if_f c7 hF
          refine lv_iload_n hx hb dX8_front_114 rfl (lv_at hl 1 rfl) ?_
          refine bz_ne E (a := a0.toInt) rfl (tgt := 122) dX8_front_115 (by decide) (fun c8 => ?_) (fun c8 => ?_)
          ·
            replace hF := if_f c8 hF
            refine lv_sipush (v := 1000) hx hb dX8_front_122 (by decide) ?_
            refine lv_iload_n hx hb dX8_front_125 rfl (lv_at hl 3 rfl) ?_
            refine lv_iadd hx hb dX8_front_126 ?_
            refine lv_topi (fun x9 ex9 => ?_)
            replace hF := xl_i (ex9) hF
            exact rI E I hr hlk rfl (by rw [← hpost]; exact ⟨⟨I.2.2, trivial⟩, hF.trans hres, rB18_Z⟩) dX8_front_127
          ·
            replace hF := if_t c8 hF
            refine lv_iload_n hx hb dX8_front_118 rfl (lv_at hl 2 rfl) ?_
            refine lv_goto (tgt := 127) hx hb dX8_front_119 (by decide) ?_
            exact rI E I hr hlk rfl (by rw [← hpost]; exact ⟨⟨I.2.2, trivial⟩, hF.trans hres, rB18_Z⟩) dX8_front_127
        ·
          replace hF := if_t c7 hF
          refine lv_bipush (v := (-4)) hx hb dX8_front_109 (by decide) ?_
          refine lv_goto (tgt := 127) hx hb dX8_front_111 (by decide) ?_
          exact rI E I hr hlk rfl (by rw [← hpost]; exact ⟨⟨I.2.2, trivial⟩, hF.trans hres, rB18_Z⟩) dX8_front_127
      ·
        replace hF := if_t c6 hF
        refine lv_aload_n hx hb dX8_front_27 rfl (lv_at hl 0 rfl) ?_
        refine cVv E I (c_X8_starts l w g v_18 k0 E.2.2.1 I.2.2 h_k0  ) (cwV 0 E.1.2.2.2.2 (gWs (C := "StarWalkModel") mw_5_108 mw_5_110 mw_s_42 mw_1_9 mw_5_111) rfl rfl rfl (by decide +kernel) ⟨by decide, by decide⟩) h_k0.1.1 ((ce_o h_k0.1.2).trans rfl) rfl rfl hl.1 rfl (Nat.le_of_ble_eq_true rfl) dX8_front_28 ⟨Nat.le_refl _, Nat.le_refl _⟩ (fun u10 H lo hp hPS => ?_)
        obtain ⟨hp, hex, hfr⟩ := hp
        replace hF := xl_i hex hF
        obtain ⟨hwf, p11⟩ := hp
        have I : Wo w g s.heap u10 H lo := ⟨hPS.1, hPS.2, hwf⟩
        have rzu10 : ∀ k j : Nat, ¬ (k = k0 + 2 ∨ (k = k0 ∧ 19 ≤ j ∧ j ≤ 22)) → u10.1 k j = v.1 k j := fun k j h => (hfr k j (fun z => h (by omega))).trans (rB18_Z k j h)
        refine lv_aload_n hx hb dX8_front_31 rfl (lv_at hl 0 rfl) ?_
        refine g_StarWalkModel_at E I h_k0.1 mw_4_171 dX8_front_32 ?_
        refine lv_bipush (v := 23) hx hb dX8_front_35 (by decide) ?_
        refine lv_iload hx hb dX8_front_37 (lv_at hl 4 rfl) ?_
        refine pa_31 E I h_k0.2.2.1 (by decide) (by have ci : (23 : Int32).toNatClampNeg = 23 := rfl; rw [ci]; simp only [okk]; omega) dX8_front_39 (fun H lo I => ?_)
        generalize ev12 : up1 u10 (k0 + 2) (23 : Int32).toNatClampNeg y18_4 = v12 at I
        replace hF := xl_i (ev12.symm) hF
        have rzv12 : ∀ k j : Nat, ¬ (k = k0 + 2 ∨ (k = k0 ∧ 19 ≤ j ∧ j ≤ 22)) → v12.1 k j = v.1 k j := fun k j h => fz_u ev12 (by have cl23 : (23 : Int32).toNatClampNeg = 23 := rfl; omega) (rzu10 k j h)
        refine lv_aload_n hx hb dX8_front_40 rfl (lv_at hl 0 rfl) ?_
        refine cVv E I (c_X8_plansGo l w g v12 k0 E.2.2.1 I.2.2 h_k0  ) (cwV 0 E.1.2.2.2.2 (gWs (C := "StarWalkModel") mw_5_235 mw_5_237 mw_s_55 mw_1_9 mw_5_238) rfl rfl rfl (by decide +kernel) ⟨by decide, by decide⟩) h_k0.1.1 ((ce_o h_k0.1.2).trans rfl) rfl rfl hl.1 rfl (Nat.le_of_ble_eq_true rfl) dX8_front_41 ⟨Nat.le_refl _, Nat.le_refl _⟩ (fun u13 H lo hp hPS => ?_)
        obtain ⟨hp, hex, hfr⟩ := hp
        replace hF := xl_i hex hF
        obtain ⟨hwf, p14⟩ := hp
        have I : Wo w g s.heap u13 H lo := ⟨hPS.1, hPS.2, hwf⟩
        have rzu13 : ∀ k j : Nat, ¬ (k = k0 + 2 ∨ (k = k0 ∧ 19 ≤ j ∧ j ≤ 22)) → u13.1 k j = v.1 k j := fun k j h => (hfr k j (fun z => h (by rcases z with z | z <;> omega))).trans (rzv12 k j h)
        refine lv_aload_n hx hb dX8_front_44 rfl (lv_at hl 0 rfl) ?_
        refine g_StarWalkModel_at E I h_k0.1 mw_4_171 dX8_front_45 ?_
        refine lv_bipush (v := 31) hx hb dX8_front_48 (by decide) ?_
        refine ga_31 E I h_k0.2.2.1 (by decide) dX8_front_50 ?_
        refine lv_topi (fun x15 ex15 => ?_)
        replace hF := xl_i (ex15) hF
        refine cSi E I (c_X8_sizeOf l w g u13 x15 E.2.2.1 I.2.2   ) (va_cwS 1 E.1.2.2.2.2 (gSs mw_5_116 mw_5_117 mw_1_9 mw_5_118) rfl rfl rfl (by decide +kernel) ⟨by decide, by decide⟩) rfl hl.1 rfl (Nat.le_of_ble_eq_true rfl) dX8_front_51 ⟨Nat.le_refl _, Nat.le_refl _⟩ (fun r16 u17 H lo hp hPS => ?_)
        obtain ⟨hp, hex, hfr⟩ := hp
        replace hF := xl_i hex hF
        obtain ⟨hu, p18⟩ := hp
        rw [hu] at hPS
        have I : Wo w g s.heap u13 H lo := ⟨hPS.1, hPS.2, I.2.2⟩
        refine lv_iload_n hx hb dX8_front_54 rfl (lv_at hl 3 rfl) ?_
        refine cSi E I (c_X8_sizeOf l w g u13 y18_3 E.2.2.1 I.2.2   ) (va_cwS 1 E.1.2.2.2.2 (gSs mw_5_116 mw_5_117 mw_1_9 mw_5_118) rfl rfl rfl (by decide +kernel) ⟨by decide, by decide⟩) rfl hl.1 rfl (Nat.le_of_ble_eq_true rfl) dX8_front_55 ⟨Nat.le_refl _, Nat.le_refl _⟩ (fun r19 u20 H lo hp hPS => ?_)
        obtain ⟨hp, hex, hfr⟩ := hp
        replace hF := xl_i hex hF
        obtain ⟨hu, p21⟩ := hp
        rw [hu] at hPS
        have I : Wo w g s.heap u13 H lo := ⟨hPS.1, hPS.2, I.2.2⟩
        refine bi_ge E (a := r16.toInt) (b := r19.toInt) rfl rfl (tgt := 65) dX8_front_58 (by decide) (fun c22 => ?_) (fun c22 => ?_)
        ·
          have rgr16 := i32_rng r16
          have rgr19 := i32_rng r19
          replace hF := if_l c22 hF
          refine lv_iconst (v := 0) hx hb dX8_front_65 (by decide) ?_
          exact B_66 _ _ u13 I (0 : Int32) (by decide) (by omega) (by omega) (by omega) rzu13 hF ls (lv_sub hl [0, 1, 2, 3, 4] rfl)
        ·
          have rgr16 := i32_rng r16
          have rgr19 := i32_rng r19
          replace hF := if_t c22 hF
          refine lv_iconst (v := 1) hx hb dX8_front_61 (by decide) ?_
          refine lv_goto (tgt := 66) hx hb dX8_front_62 (by decide) ?_
          exact B_66 _ _ u13 I (1 : Int32) (by decide) (by omega) (by omega) (by omega) rzu13 hF ls (lv_sub hl [0, 1, 2, 3, 4] rfl)
  refine lv_iload_n hx hb dX8_front_0 rfl (lv_at hl 1 rfl) ?_
  refine cSi E I (c_X8_isPart l w g v a0 E.2.2.1 I.2.2   ) (va_cwS 1 E.1.2.2.2.2 (gSs mw_6_13 mw_6_14 mw_1_9 mw_6_15) rfl rfl rfl (by decide +kernel) ⟨by decide, by decide⟩) rfl hl.1 rfl (Nat.le_of_ble_eq_true rfl) dX8_front_1 ⟨Nat.le_refl _, Nat.le_refl _⟩ (fun r23 u24 H lo hp hPS => ?_)
  obtain ⟨hp, hex, hfr⟩ := hp
  replace hF := xl_i hex hF
  obtain ⟨hu, p25⟩ := hp
  rw [hu] at hPS
  have I : Wo w g s.heap v H lo := ⟨hPS.1, hPS.2, I.2.2⟩
  refine bz_ne E (a := r23.toInt) rfl (tgt := 9) dX8_front_4 (by decide) (fun c26 => ?_) (fun c26 => ?_)
  ·
    replace hF := if_f c26 hF
    refine lv_bipush (v := (-4)) hx hb dX8_front_9 (by decide) ?_
    refine lv_istore_n (lv' := [(2, .int (-4)), (0, .ref (wq w k0)), (1, .int a0)]) hx hb dX8_front_11 rfl hl (by decide) rfl (fun ls hl => ?_)
    refine lv_ldc (own := "StarWalkModel") hx hb E.1.2.2.2.1 (Ew E mw_6_3 rfl) dX8_front_12 ?_
    refine lv_istore_n (lv' := [(3, .int 1000000), (2, .int (-4)), (0, .ref (wq w k0)), (1, .int a0)]) hx hb dX8_front_14 rfl hl (by decide) rfl (fun ls hl => ?_)
    refine lv_iconst (v := 0) hx hb dX8_front_15 (by decide) ?_
    refine lv_istore (lv' := [(4, .int 0), (3, .int 1000000), (2, .int (-4)), (0, .ref (wq w k0)), (1, .int a0)]) hx hb dX8_front_16 hl (by decide) rfl (fun ls hl => ?_)
    exact L_18 ((2147483647 - (0 : Int32).toInt).toNat + 1) _ _ v I (-4 : Int32) (1000000 : Int32) (0 : Int32) (by decide) (by decide) (by omega) rz0 hF (Nat.lt_succ_self _) ls (lv_sub hl [3, 4, 2, 1, 0] rfl)
  ·
    replace hF := if_t c26 hF
    refine lv_iconst (v := (-1)) hx hb dX8_front_7 (by decide) ?_
    exact rI E I hr hlk rfl (by rw [← hpost]; exact ⟨⟨I.2.2, trivial⟩, hF.trans hres, rz0⟩) dX8_front_8
def F_X8_bitsOf (a0 : Int32) (v : St) : Int32 :=
xl (fun (self_4 : Int32 → Int32 → Int32) (y4_1 : Int32) (y4_2 : Int32) =>
if y4_2.toInt < 5 then (
xl (a0 >>> (y4_2 &&& 31)) fun x2 =>
xl (x2 &&& (1 : Int32)) fun x3 =>
xl (y4_1 + x3) fun x4 =>
xl (y4_2 + 1) fun x5 =>
(self_4 x4 x5)) else (
y4_1)) fun P_4 =>
(lp P_4 (fun _ _ => (0 : Int32)) ((2147483647 - (0 : Int32).toInt).toNat + 1) (0 : Int32) (0 : Int32))
set_option maxHeartbeats 4000000 in
set_option maxRecDepth 100000 in
theorem c_X8_bitsOf (l : Launch) (w : Wp) (g : Nat → Nat → Int32) (v : St) (a0 : Int32) (hq : Inj w) (hw : WF (wk w) g v) : CTi w l yX8_bitsOf (wsy yX8_bitsOf prog_10_method_65_code 3 (some .int)) (rmL 1) [.int a0] v (fun (r : Int32) (u : St) => (u = v ∧ True) ∧ (r = F_X8_bitsOf a0 v) ∧ True) := by
  generalize hpost : (fun (r : Int32) (u : St) => (u = v ∧ True) ∧ (r = F_X8_bitsOf a0 v) ∧ True) = post
  refine CTi.of prog_10_method_65_code 3 (some .int) "StarWalkModel" (by decide +kernel) rfl hq hw (Nat.le_of_ble_eq_true rfl) ?_
  intro pg en s m ar bl me cd ls E I hr hlk hl
  have hx := E.1.1
  have hb := E.1.2.1
  have hl : lv_has ls 3 [(0, .int a0)] := hl
  obtain ⟨res, hres⟩ : ∃ z, z = F_X8_bitsOf a0 v := ⟨_, rfl⟩
  have hF := hres.symm
  unfold F_X8_bitsOf at hF
  replace hres : res = F_X8_bitsOf a0 v := hres
  obtain ⟨P_4, eP_4, hF⟩ := xl_e hF
  have L_4 : ∀ (n : Nat), ∀ (H : Heap) (lo : List Loc), Wo w g s.heap v H lo → ∀ (y4_1 : Int32) (y4_2 : Int32), (0 ≤ y4_2.toInt ∧ y4_2.toInt ≤ 5) → (lp P_4 (fun _ _ => (0 : Int32)) n y4_1 y4_2 = res) → (2147483647 - y4_2.toInt).toNat < n → ∀ (ls : Array Slot), lv_has ls 3 [(0, .int a0), (1, .int y4_1), (2, .int y4_2)] → W pg l en (rmL 1) s m ar bl me cd H lo 0 0 (Zi w bl ar s post) (F0 m 4 ls []) := by
    intro n
    induction n with
    | zero => intro H lo  I y4_1 y4_2 hy4_2 hF hm; exact absurd hm (Nat.not_lt_zero _)
    | succ n ih_4 =>
      intro H lo  I y4_1 y4_2 hy4_2 hF hm ls hl
      replace hF := lpa2 eP_4 hF
      refine lv_iload_n hx hb dX8_bitsOf_4 rfl (lv_at hl 2 rfl) ?_
      refine lv_iconst (v := 5) hx hb dX8_bitsOf_5 (by decide) ?_
      refine bi_ge E (a := y4_2.toInt) (b := 5) rfl rfl (tgt := 23) dX8_bitsOf_6 (by decide) (fun c1 => ?_) (fun c1 => ?_)
      ·
        replace hF := if_l c1 hF
        refine lv_iload_n hx hb dX8_bitsOf_23 rfl (lv_at hl 1 rfl) ?_
        exact rI E I hr hlk rfl (by rw [← hpost]; exact ⟨⟨rfl, trivial⟩, hF.trans hres, trivial⟩) dX8_bitsOf_24
      ·
        replace hF := if_t c1 hF
        refine lv_iload_n hx hb dX8_bitsOf_9 rfl (lv_at hl 1 rfl) ?_
        refine lv_iload_n hx hb dX8_bitsOf_10 rfl (lv_at hl 0 rfl) ?_
        refine lv_iload_n hx hb dX8_bitsOf_11 rfl (lv_at hl 2 rfl) ?_
        refine lv_ishr hx hb dX8_bitsOf_12 ?_
        refine lv_topi (fun x2 ex2 => ?_)
        replace hF := xl_i (ex2) hF
        refine lv_iconst (v := 1) hx hb dX8_bitsOf_13 (by decide) ?_
        refine lv_iand hx hb dX8_bitsOf_14 ?_
        refine lv_topi (fun x3 ex3 => ?_)
        replace hF := xl_i (ex3) hF
        have hx3 := anI (x := x2) (y := (1 : Int32)) (b := 1) rfl (by decide)
        rw [← ex3] at hx3
        refine lv_iadd hx hb dX8_bitsOf_15 ?_
        refine lv_topi (fun x4 ex4 => ?_)
        replace hF := xl_i (ex4) hF
        refine lv_istore_n (lv' := [(1, .int x4), (0, .int a0), (2, .int y4_2)]) hx hb dX8_bitsOf_16 rfl hl (by decide) rfl (fun ls hl => ?_)
        obtain ⟨x5, ex5⟩ : ∃ z : Int32, z = y4_2 + 1 := ⟨_, rfl⟩
        replace hF := xl_i (ex5) hF
        have hx5 : x5.toInt = y4_2.toInt + (1) := by rw [ex5]; exact adI (a := y4_2.toInt) (b := 1) rfl rfl (by omega) (by omega)
        refine lv_iinc (v := x5) (lv' := [(2, .int x5), (1, .int x4), (0, .int a0)]) hx hb dX8_bitsOf_17 hl (k := 2) rfl (by rw [ex5]; rfl) (by decide) rfl (fun ls hl => ?_)
        refine lv_goto (tgt := 4) hx hb dX8_bitsOf_20 (by decide) ?_
        exact ih_4 _ _ I x4 x5 (by omega) hF (by omega) ls (lv_sub hl [2, 1, 0] rfl)
  refine lv_iconst (v := 0) hx hb dX8_bitsOf_0 (by decide) ?_
  refine lv_istore_n (lv' := [(1, .int 0), (0, .int a0)]) hx hb dX8_bitsOf_1 rfl hl (by decide) rfl (fun ls hl => ?_)
  refine lv_iconst (v := 0) hx hb dX8_bitsOf_2 (by decide) ?_
  refine lv_istore_n (lv' := [(2, .int 0), (1, .int 0), (0, .int a0)]) hx hb dX8_bitsOf_3 rfl hl (by decide) rfl (fun ls hl => ?_)
  exact L_4 ((2147483647 - (0 : Int32).toInt).toNat + 1) _ _ I (0 : Int32) (0 : Int32) (by decide) hF (Nat.lt_succ_self _) ls (lv_sub hl [2, 1, 0] rfl)
def F_X8_known (k0 : Nat) (v : St) : Int32 :=
xl (fun (self_4 : Int32 → Int32 → Int32) (y4_1 : Int32) (y4_2 : Int32) =>
xl (v.1 k0 3) fun x1 =>
if y4_2.toInt < x1.toInt then (
xl ((4 : Int32) * y4_2) fun x3 =>
xl (x3 + (3 : Int32)) fun x4 =>
xl (v.1 (k0 + 1) x4.toNatClampNeg) fun x5 =>
xl (x5 <<< (y4_2 &&& 31)) fun x6 =>
xl (y4_1 ||| x6) fun x7 =>
xl (y4_2 + 1) fun x8 =>
(self_4 x7 x8)) else (
y4_1)) fun P_4 =>
(lp P_4 (fun _ _ => (0 : Int32)) ((2147483647 - (0 : Int32).toInt).toNat + 1) (0 : Int32) (0 : Int32))
set_option maxHeartbeats 4000000 in
set_option maxRecDepth 100000 in
theorem c_X8_known (l : Launch) (w : Wp) (g : Nat → Nat → Int32) (v : St) (k0 : Nat) (hq : Inj w) (hw : WF (wk w) g v) (h_k0 : oM w k0) : CTi w l yX8_known (wsy yX8_known prog_10_method_66_code 3 (some .int)) (rmL 1) [.ref (wq w k0)] v (fun (r : Int32) (u : St) => (u = v ∧ True) ∧ (r = F_X8_known k0 v) ∧ True) := by
  generalize hpost : (fun (r : Int32) (u : St) => (u = v ∧ True) ∧ (r = F_X8_known k0 v) ∧ True) = post
  refine CTi.of prog_10_method_66_code 3 (some .int) "StarWalkModel" (by decide +kernel) rfl hq hw (Nat.le_of_ble_eq_true rfl) ?_
  intro pg en s m ar bl me cd ls E I hr hlk hl
  have hx := E.1.1
  have hb := E.1.2.1
  have hl : lv_has ls 3 [(0, .ref (wq w k0))] := hl
  obtain ⟨res, hres⟩ : ∃ z, z = F_X8_known k0 v := ⟨_, rfl⟩
  have hF := hres.symm
  unfold F_X8_known at hF
  replace hres : res = F_X8_known k0 v := hres
  obtain ⟨P_4, eP_4, hF⟩ := xl_e hF
  have L_4 : ∀ (n : Nat), ∀ (H : Heap) (lo : List Loc), Wo w g s.heap v H lo → ∀ (y4_1 : Int32) (y4_2 : Int32), (0 ≤ y4_2.toInt ∧ y4_2.toInt ≤ 5) → (lp P_4 (fun _ _ => (0 : Int32)) n y4_1 y4_2 = res) → (2147483647 - y4_2.toInt).toNat < n → ∀ (ls : Array Slot), lv_has ls 3 [(0, .ref (wq w k0)), (1, .int y4_1), (2, .int y4_2)] → W pg l en (rmL 1) s m ar bl me cd H lo 0 0 (Zi w bl ar s post) (F0 m 4 ls []) := by
    intro n
    induction n with
    | zero => intro H lo  I y4_1 y4_2 hy4_2 hF hm; exact absurd hm (Nat.not_lt_zero _)
    | succ n ih_4 =>
      intro H lo  I y4_1 y4_2 hy4_2 hF hm ls hl
      replace hF := lpa2 eP_4 hF
      refine lv_iload_n hx hb dX8_known_4 rfl (lv_at hl 2 rfl) ?_
      refine lv_aload_n hx hb dX8_known_5 rfl (lv_at hl 0 rfl) ?_
      refine g_StarWalkModel_stars E I h_k0.1 mw_4_173 dX8_known_6 ?_
      refine lv_topi (fun x1 ex1 => ?_)
      replace hF := xl_i (ex1) hF
      have hx1 := r_StarWalkModel_stars I h_k0.1
      rw [← ex1] at hx1
      refine bi_ge E (a := y4_2.toInt) (b := x1.toInt) rfl rfl (tgt := 33) dX8_known_9 (by decide) (fun c2 => ?_) (fun c2 => ?_)
      ·
        replace hF := if_l c2 hF
        refine lv_iload_n hx hb dX8_known_33 rfl (lv_at hl 1 rfl) ?_
        exact rI E I hr hlk rfl (by rw [← hpost]; exact ⟨⟨rfl, trivial⟩, hF.trans hres, trivial⟩) dX8_known_34
      ·
        replace hF := if_t c2 hF
        refine lv_iload_n hx hb dX8_known_12 rfl (lv_at hl 1 rfl) ?_
        refine lv_aload_n hx hb dX8_known_13 rfl (lv_at hl 0 rfl) ?_
        refine g_StarWalkModel_st E I h_k0.1 mw_4_170 dX8_known_14 ?_
        refine lv_iconst (v := 4) hx hb dX8_known_17 (by decide) ?_
        refine lv_iload_n hx hb dX8_known_18 rfl (lv_at hl 2 rfl) ?_
        refine lv_imul hx hb dX8_known_19 ?_
        refine lv_topi (fun x3 ex3 => ?_)
        replace hF := xl_i (ex3) hF
        have hx3 : x3.toInt = 4 * y4_2.toInt := by rw [ex3]; exact mlI (a := 4) (b := y4_2.toInt) rfl rfl (by omega) (by omega)
        refine lv_iconst (v := 3) hx hb dX8_known_20 (by decide) ?_
        refine lv_iadd hx hb dX8_known_21 ?_
        refine lv_topi (fun x4 ex4 => ?_)
        replace hF := xl_i (ex4) hF
        have hx4 : x4.toInt = x3.toInt + 3 := by rw [ex4]; exact adI (a := x3.toInt) (b := 3) rfl rfl (by omega) (by omega)
        refine ga_30 E I h_k0.2.1 (by omega) dX8_known_22 ?_
        refine lv_topi (fun x5 ex5 => ?_)
        replace hF := xl_i (ex5) hF
        refine lv_iload_n hx hb dX8_known_23 rfl (lv_at hl 2 rfl) ?_
        refine lv_ishl hx hb dX8_known_24 ?_
        refine lv_topi (fun x6 ex6 => ?_)
        replace hF := xl_i (ex6) hF
        refine lv_ior hx hb dX8_known_25 ?_
        refine lv_topi (fun x7 ex7 => ?_)
        replace hF := xl_i (ex7) hF
        refine lv_istore_n (lv' := [(1, .int x7), (0, .ref (wq w k0)), (2, .int y4_2)]) hx hb dX8_known_26 rfl hl (by decide) rfl (fun ls hl => ?_)
        obtain ⟨x8, ex8⟩ : ∃ z : Int32, z = y4_2 + 1 := ⟨_, rfl⟩
        replace hF := xl_i (ex8) hF
        have hx8 : x8.toInt = y4_2.toInt + (1) := by rw [ex8]; exact adI (a := y4_2.toInt) (b := 1) rfl rfl (by omega) (by omega)
        refine lv_iinc (v := x8) (lv' := [(2, .int x8), (1, .int x7), (0, .ref (wq w k0))]) hx hb dX8_known_27 hl (k := 2) rfl (by rw [ex8]; rfl) (by decide) rfl (fun ls hl => ?_)
        refine lv_goto (tgt := 4) hx hb dX8_known_30 (by decide) ?_
        exact ih_4 _ _ I x7 x8 (by omega) hF (by omega) ls (lv_sub hl [2, 1, 0] rfl)
  refine lv_iconst (v := 0) hx hb dX8_known_0 (by decide) ?_
  refine lv_istore_n (lv' := [(1, .int 0), (0, .ref (wq w k0))]) hx hb dX8_known_1 rfl hl (by decide) rfl (fun ls hl => ?_)
  refine lv_iconst (v := 0) hx hb dX8_known_2 (by decide) ?_
  refine lv_istore_n (lv' := [(2, .int 0), (1, .int 0), (0, .ref (wq w k0))]) hx hb dX8_known_3 rfl hl (by decide) rfl (fun ls hl => ?_)
  exact L_4 ((2147483647 - (0 : Int32).toInt).toNat + 1) _ _ I (0 : Int32) (0 : Int32) (by decide) hF (Nat.lt_succ_self _) ls (lv_sub hl [2, 1, 0] rfl)
def F_X8_knowsJust (k0 : Nat) (a0 : Int32) (v : St) : St :=
xl (fun (self_6 : Int32 → St → St) (y6_2 : Int32) (v_6 : St) =>
xl (v_6.1 k0 3) fun x1 =>
if y6_2.toInt < x1.toInt then (
xl ((4 : Int32) * y6_2) fun x3 =>
xl (x3 + (3 : Int32)) fun x4 =>
xl (a0 >>> (y6_2 &&& 31)) fun x5 =>
xl (x5 &&& (1 : Int32)) fun x6 =>
xl (up1 v_6 (k0 + 2) x4.toNatClampNeg x6) fun v7 =>
xl (y6_2 + 1) fun x8 =>
(self_6 x8 v7)) else (
v_6)) fun P_6 =>
xl (F_X8_starts k0 v) fun u9 =>
(lp P_6 (fun _ _ => v) ((2147483647 - (0 : Int32).toInt).toNat + 1) (0 : Int32) u9)
set_option maxHeartbeats 4000000 in
set_option maxRecDepth 100000 in
theorem c_X8_knowsJust (l : Launch) (w : Wp) (g : Nat → Nat → Int32) (v : St) (k0 : Nat) (a0 : Int32) (hq : Inj w) (hw : WF (wk w) g v) (h_k0 : oM w k0) : CTv w l yX8_knowsJust (wsy yX8_knowsJust prog_10_method_67_code 3 none) (rmL 2) [.ref (wq w k0), .int a0] v (fun (u : St) => (WF (wk w) g u ∧ True) ∧ (u = F_X8_knowsJust k0 a0 v) ∧ (∀ k j : Nat, ¬ (k = k0 + 2) → u.1 k j = v.1 k j)) := by
  generalize hpost : (fun (u : St) => (WF (wk w) g u ∧ True) ∧ (u = F_X8_knowsJust k0 a0 v) ∧ (∀ k j : Nat, ¬ (k = k0 + 2) → u.1 k j = v.1 k j)) = post
  refine CTv.of prog_10_method_67_code 3 none "StarWalkModel" (by decide +kernel) rfl hq hw (Nat.le_of_ble_eq_true rfl) ?_
  intro pg en s m ar bl me cd ls E I hr hlk hl
  have hx := E.1.1
  have hb := E.1.2.1
  have hl : lv_has ls 3 [(0, .ref (wq w k0)), (1, .int a0)] := hl
  obtain ⟨res, hres⟩ : ∃ z, z = F_X8_knowsJust k0 a0 v := ⟨_, rfl⟩
  have hF := hres.symm
  unfold F_X8_knowsJust at hF
  replace hres : res = F_X8_knowsJust k0 a0 v := hres
  have rz0 : ∀ k j : Nat, ¬ (k = k0 + 2) → v.1 k j = v.1 k j := fun _ _ _ => rfl
  obtain ⟨P_6, eP_6, hF⟩ := xl_e hF
  have L_6 : ∀ (n : Nat), ∀ (H : Heap) (lo : List Loc) (v_6 : St), Wo w g s.heap v_6 H lo → ∀ (y6_2 : Int32), (0 ≤ y6_2.toInt ∧ y6_2.toInt ≤ 5) → (∀ k j : Nat, ¬ (k = k0 + 2) → v_6.1 k j = v.1 k j) → (lp P_6 (fun _ _ => v) n y6_2 v_6 = res) → (2147483647 - y6_2.toInt).toNat < n → ∀ (ls : Array Slot), lv_has ls 3 [(0, .ref (wq w k0)), (1, .int a0), (2, .int y6_2)] → W pg l en (rmL 2) s m ar bl me cd H lo 0 0 (Zv w bl ar s post) (F0 m 6 ls []) := by
    intro n
    induction n with
    | zero => intro H lo v_6 I y6_2 hy6_2 rB6_Z hF hm; exact absurd hm (Nat.not_lt_zero _)
    | succ n ih_6 =>
      intro H lo v_6 I y6_2 hy6_2 rB6_Z hF hm ls hl
      replace hF := lpa2 eP_6 hF
      refine lv_iload_n hx hb dX8_knowsJust_6 rfl (lv_at hl 2 rfl) ?_
      refine lv_aload_n hx hb dX8_knowsJust_7 rfl (lv_at hl 0 rfl) ?_
      refine g_StarWalkModel_stars E I h_k0.1 mw_4_173 dX8_knowsJust_8 ?_
      refine lv_topi (fun x1 ex1 => ?_)
      replace hF := xl_i (ex1) hF
      have hx1 := r_StarWalkModel_stars I h_k0.1
      rw [← ex1] at hx1
      refine bi_ge E (a := y6_2.toInt) (b := x1.toInt) rfl rfl (tgt := 35) dX8_knowsJust_11 (by decide) (fun c2 => ?_) (fun c2 => ?_)
      ·
        replace hF := if_l c2 hF
        exact rV E I hr hlk (by rw [← hpost]; exact ⟨⟨I.2.2, trivial⟩, hF.trans hres, rB6_Z⟩) dX8_knowsJust_35
      ·
        replace hF := if_t c2 hF
        refine lv_aload_n hx hb dX8_knowsJust_14 rfl (lv_at hl 0 rfl) ?_
        refine g_StarWalkModel_at E I h_k0.1 mw_4_171 dX8_knowsJust_15 ?_
        refine lv_iconst (v := 4) hx hb dX8_knowsJust_18 (by decide) ?_
        refine lv_iload_n hx hb dX8_knowsJust_19 rfl (lv_at hl 2 rfl) ?_
        refine lv_imul hx hb dX8_knowsJust_20 ?_
        refine lv_topi (fun x3 ex3 => ?_)
        replace hF := xl_i (ex3) hF
        have hx3 : x3.toInt = 4 * y6_2.toInt := by rw [ex3]; exact mlI (a := 4) (b := y6_2.toInt) rfl rfl (by omega) (by omega)
        refine lv_iconst (v := 3) hx hb dX8_knowsJust_21 (by decide) ?_
        refine lv_iadd hx hb dX8_knowsJust_22 ?_
        refine lv_topi (fun x4 ex4 => ?_)
        replace hF := xl_i (ex4) hF
        have hx4 : x4.toInt = x3.toInt + 3 := by rw [ex4]; exact adI (a := x3.toInt) (b := 3) rfl rfl (by omega) (by omega)
        refine lv_iload_n hx hb dX8_knowsJust_23 rfl (lv_at hl 1 rfl) ?_
        refine lv_iload_n hx hb dX8_knowsJust_24 rfl (lv_at hl 2 rfl) ?_
        refine lv_ishr hx hb dX8_knowsJust_25 ?_
        refine lv_topi (fun x5 ex5 => ?_)
        replace hF := xl_i (ex5) hF
        refine lv_iconst (v := 1) hx hb dX8_knowsJust_26 (by decide) ?_
        refine lv_iand hx hb dX8_knowsJust_27 ?_
        refine lv_topi (fun x6 ex6 => ?_)
        replace hF := xl_i (ex6) hF
        have hx6 := anI (x := x5) (y := (1 : Int32)) (b := 1) rfl (by decide)
        rw [← ex6] at hx6
        refine pa_31 E I h_k0.2.2.1 (by omega) (by have ci := cnI (x := x4) (by omega); simp only [okk]; omega) dX8_knowsJust_28 (fun H lo I => ?_)
        generalize ev7 : up1 v_6 (k0 + 2) x4.toNatClampNeg x6 = v7 at I
        replace hF := xl_i (ev7.symm) hF
        have rzv7 : ∀ k j : Nat, ¬ (k = k0 + 2) → v7.1 k j = v.1 k j := fun k j h => fz_u ev7 (by have czx4 := cnI (x := x4) (by omega); omega) (rB6_Z k j h)
        obtain ⟨x8, ex8⟩ : ∃ z : Int32, z = y6_2 + 1 := ⟨_, rfl⟩
        replace hF := xl_i (ex8) hF
        have hx8 : x8.toInt = y6_2.toInt + (1) := by rw [ex8]; exact adI (a := y6_2.toInt) (b := 1) rfl rfl (by omega) (by omega)
        refine lv_iinc (v := x8) (lv' := [(2, .int x8), (0, .ref (wq w k0)), (1, .int a0)]) hx hb dX8_knowsJust_29 hl (k := 2) rfl (by rw [ex8]; rfl) (by decide) rfl (fun ls hl => ?_)
        refine lv_goto (tgt := 6) hx hb dX8_knowsJust_32 (by decide) ?_
        exact ih_6 _ _ v7 I x8 (by omega) rzv7 hF (by omega) ls (lv_sub hl [1, 2, 0] rfl)
  refine lv_aload_n hx hb dX8_knowsJust_0 rfl (lv_at hl 0 rfl) ?_
  refine cVv E I (c_X8_starts l w g v k0 E.2.2.1 I.2.2 h_k0  ) (cwV 0 E.1.2.2.2.2 (gWs (C := "StarWalkModel") mw_5_108 mw_5_110 mw_s_42 mw_1_9 mw_5_111) rfl rfl rfl (by decide +kernel) ⟨by decide, by decide⟩) h_k0.1.1 ((ce_o h_k0.1.2).trans rfl) rfl rfl hl.1 rfl (Nat.le_of_ble_eq_true rfl) dX8_knowsJust_1 ⟨Nat.le_refl _, Nat.le_refl _⟩ (fun u9 H lo hp hPS => ?_)
  obtain ⟨hp, hex, hfr⟩ := hp
  replace hF := xl_i hex hF
  obtain ⟨hwf, p10⟩ := hp
  have I : Wo w g s.heap u9 H lo := ⟨hPS.1, hPS.2, hwf⟩
  have rzu9 : ∀ k j : Nat, ¬ (k = k0 + 2) → u9.1 k j = v.1 k j := fun k j h => (hfr k j (fun z => h (by omega))).trans (rz0 k j h)
  refine lv_iconst (v := 0) hx hb dX8_knowsJust_4 (by decide) ?_
  refine lv_istore_n (lv' := [(2, .int 0), (0, .ref (wq w k0)), (1, .int a0)]) hx hb dX8_knowsJust_5 rfl hl (by decide) rfl (fun ls hl => ?_)
  exact L_6 ((2147483647 - (0 : Int32).toInt).toNat + 1) _ _ u9 I (0 : Int32) (by decide) rzu9 hF (Nat.lt_succ_self _) ls (lv_sub hl [1, 2, 0] rfl)
def F_X8_lessons (k0 : Nat) (a0 : Int32) (v : St) : Int32 × St :=
xl (fun (self_18 : Int32 → Int32 → Int32 → St → Int32 × St) (y18_2 : Int32) (y18_3 : Int32) (y18_4 : Int32) (v_18 : St) =>
xl (fun (y117_2 : Int32) (y117_3 : Int32) (v_117 : St) =>
xl (y18_4 + 1) fun x1 =>
(self_18 y117_2 y117_3 x1 v_117)) fun J_117 =>
xl (fun (y116_3 : Int32) (z116_0 : Int32) (v_116 : St) =>
(J_117 z116_0 y116_3 v_116)) fun J_116 =>
xl (fun (y101_5 : Int32) (z101_0 : Int32) (v_101 : St) =>
if y101_5.toInt = 0 then (
(J_116 z101_0 y18_2 v_101)) else (
xl (F_X8_bitsOf y18_4 v_101) fun r3 =>
(J_116 z101_0 r3 v_101))) fun J_101 =>
xl (fun (z88_0 : Int32) (v_88 : St) =>
if z88_0.toInt = 0 then (
(J_101 z88_0 y18_3 v_88)) else (
(J_101 z88_0 y18_4 v_88))) fun J_88 =>
xl (v_18.1 k0 3) fun x7 =>
xl ((1 : Int32) <<< (x7 &&& 31)) fun x8 =>
if y18_4.toInt < x8.toInt then (
xl (F_X8_known k0 v_18) fun r12 =>
xl (y18_4 &&& r12) fun x15 =>
if x15.toInt = 0 then (
xl (F_X8_bitsOf y18_4 v_18) fun r17 =>
if r17.toInt < y18_2.toInt then (
xl (F_X8_known k0 v_18) fun r21 =>
xl (y18_4 ||| r21) fun x24 =>
xl (F_X8_knowsJust k0 x24 v_18) fun u25 =>
xl (F_X8_plansGo k0 u25) fun u27 =>
xl (u27.1 (k0 + 2) (31 : Int32).toNatClampNeg) fun x29 =>
xl (F_X8_sizeOf x29 u27) fun r30 =>
xl (u27.1 (k0 + 2) (25 : Int32).toNatClampNeg) fun x33 =>
if x33.toInt < r30.toInt then (
(J_88 (0 : Int32) u27)) else (
(J_88 (1 : Int32) u27))) else (
(J_117 y18_2 y18_3 v_18))) else (
(J_117 y18_2 y18_3 v_18))) else (
if y18_3.toInt = (-4) then (
((-4 : Int32), v_18)) else (
if a0.toInt = 0 then (
(y18_2, v_18)) else (
(y18_3, v_18))))) fun P_18 =>
xl (F_X8_isPart a0 v) fun r35 =>
if r35.toInt = 0 then (
((-1 : Int32), v)) else (
(lp P_18 (fun _ _ _ _ => ((0 : Int32), v)) ((2147483647 - (0 : Int32).toInt).toNat + 1) (1000000 : Int32) (-4 : Int32) (0 : Int32) v))
set_option maxHeartbeats 4000000 in
set_option maxRecDepth 100000 in
theorem c_X8_lessons (l : Launch) (w : Wp) (g : Nat → Nat → Int32) (v : St) (k0 : Nat) (a0 : Int32) (hq : Inj w) (hw : WF (wk w) g v) (h_k0 : oM w k0) : CTi w l yX8_lessons (wsy yX8_lessons prog_10_method_68_code 6 (some .int)) (rmL 6) [.ref (wq w k0), .int a0] v (fun (r : Int32) (u : St) => (WF (wk w) g u ∧ True) ∧ ((r, u) = F_X8_lessons k0 a0 v) ∧ (∀ k j : Nat, ¬ (k = k0 + 2 ∨ (k = k0 ∧ 19 ≤ j ∧ j ≤ 22)) → u.1 k j = v.1 k j)) := by
  generalize hpost : (fun (r : Int32) (u : St) => (WF (wk w) g u ∧ True) ∧ ((r, u) = F_X8_lessons k0 a0 v) ∧ (∀ k j : Nat, ¬ (k = k0 + 2 ∨ (k = k0 ∧ 19 ≤ j ∧ j ≤ 22)) → u.1 k j = v.1 k j)) = post
  refine CTi.of prog_10_method_68_code 6 (some .int) "StarWalkModel" (by decide +kernel) rfl hq hw (Nat.le_of_ble_eq_true rfl) ?_
  intro pg en s m ar bl me cd ls E I hr hlk hl
  have hx := E.1.1
  have hb := E.1.2.1
  have hl : lv_has ls 6 [(0, .ref (wq w k0)), (1, .int a0)] := hl
  obtain ⟨res, hres⟩ : ∃ z, z = F_X8_lessons k0 a0 v := ⟨_, rfl⟩
  have hF := hres.symm
  unfold F_X8_lessons at hF
  replace hres : res = F_X8_lessons k0 a0 v := hres
  have rz0 : ∀ k j : Nat, ¬ (k = k0 + 2 ∨ (k = k0 ∧ 19 ≤ j ∧ j ≤ 22)) → v.1 k j = v.1 k j := fun _ _ _ => rfl
  obtain ⟨P_18, eP_18, hF⟩ := xl_e hF
  have L_18 : ∀ (n : Nat), ∀ (H : Heap) (lo : List Loc) (v_18 : St), Wo w g s.heap v_18 H lo → ∀ (y18_2 : Int32) (y18_3 : Int32) (y18_4 : Int32), (-4 ≤ y18_3.toInt ∧ y18_3.toInt ≤ 2147483646) → (0 ≤ y18_4.toInt) → (0 ≤ a0.toInt ∧ a0.toInt ≤ 1) → (∀ k j : Nat, ¬ (k = k0 + 2 ∨ (k = k0 ∧ 19 ≤ j ∧ j ≤ 22)) → v_18.1 k j = v.1 k j) → (lp P_18 (fun _ _ _ _ => ((0 : Int32), v)) n y18_2 y18_3 y18_4 v_18 = res) → (2147483647 - y18_4.toInt).toNat < n → ∀ (ls : Array Slot), lv_has ls 6 [(0, .ref (wq w k0)), (1, .int a0), (2, .int y18_2), (3, .int y18_3), (4, .int y18_4)] → W pg l en (rmL 6) s m ar bl me cd H lo 0 0 (Zi w bl ar s post) (F0 m 18 ls []) := by
    intro n
    induction n with
    | zero => intro H lo v_18 I y18_2 y18_3 y18_4 hy18_3 hy18_4 hE18_0 rB18_Z hF hm; exact absurd hm (Nat.not_lt_zero _)
    | succ n ih_18 =>
      intro H lo v_18 I y18_2 y18_3 y18_4 hy18_3 hy18_4 hE18_0 rB18_Z hF hm ls hl
      replace hF := lpa4 eP_18 hF
      obtain ⟨J_117, eJ_117, hF⟩ := xl_e hF
      have B_117 : ∀ (H : Heap) (lo : List Loc) (v_117 : St), Wo w g s.heap v_117 H lo → ∀ (y117_2 : Int32) (y117_3 : Int32), (-4 ≤ y117_3.toInt ∧ y117_3.toInt ≤ 2147483646) → (0 ≤ a0.toInt ∧ a0.toInt ≤ 1) → (0 ≤ y18_4.toInt ∧ y18_4.toInt ≤ 2147483646) → (∀ k j : Nat, ¬ (k = k0 + 2 ∨ (k = k0 ∧ 19 ≤ j ∧ j ≤ 22)) → v_117.1 k j = v.1 k j) → (J_117 y117_2 y117_3 v_117 = res) → ∀ (ls : Array Slot), lv_has ls 6 [(0, .ref (wq w k0)), (1, .int a0), (2, .int y117_2), (3, .int y117_3), (4, .int y18_4)] → W pg l en (rmL 6) s m ar bl me cd H lo 0 0 (Zi w bl ar s post) (F0 m 117 ls []) := by
        intro H lo v_117 I y117_2 y117_3 hy117_3 hE117_0 hE117_1 rB117_Z hF ls hl
        replace hF := ap3 eJ_117 hF
        obtain ⟨x1, ex1⟩ : ∃ z : Int32, z = y18_4 + 1 := ⟨_, rfl⟩
        replace hF := xl_i (ex1) hF
        have hx1 : x1.toInt = y18_4.toInt + (1) := by rw [ex1]; exact adI (a := y18_4.toInt) (b := 1) rfl rfl (by omega) (by omega)
        refine lv_iinc (v := x1) (lv' := [(4, .int x1), (0, .ref (wq w k0)), (1, .int a0), (2, .int y117_2), (3, .int y117_3)]) hx hb dX8_lessons_117 hl (k := 4) rfl (by rw [ex1]; rfl) (by decide) rfl (fun ls hl => ?_)
        refine lv_goto (tgt := 18) hx hb dX8_lessons_120 (by decide) ?_
        exact ih_18 _ _ v_117 I y117_2 y117_3 x1 (by omega) (by omega) (by omega) rB117_Z hF (by omega) ls (lv_sub hl [1, 2, 3, 4, 0] rfl)
      obtain ⟨J_116, eJ_116, hF⟩ := xl_e hF
      have B_116 : ∀ (H : Heap) (lo : List Loc) (v_116 : St), Wo w g s.heap v_116 H lo → ∀ (y116_3 : Int32) (z116_0 : Int32), (-4 ≤ y116_3.toInt ∧ y116_3.toInt ≤ 2147483646) → (0 ≤ a0.toInt ∧ a0.toInt ≤ 1) → (0 ≤ y18_4.toInt ∧ y18_4.toInt ≤ 2147483646) → (∀ k j : Nat, ¬ (k = k0 + 2 ∨ (k = k0 ∧ 19 ≤ j ∧ j ≤ 22)) → v_116.1 k j = v.1 k j) → (J_116 y116_3 z116_0 v_116 = res) → ∀ (ls : Array Slot), lv_has ls 6 [(0, .ref (wq w k0)), (1, .int a0), (3, .int y116_3), (4, .int y18_4)] → W pg l en (rmL 6) s m ar bl me cd H lo 0 0 (Zi w bl ar s post) (F0 m 116 ls [.int z116_0]) := by
        intro H lo v_116 I y116_3 z116_0 hy116_3 hE116_0 hE116_1 rB116_Z hF ls hl
        replace hF := ap3 eJ_116 hF
        refine lv_istore_n (lv' := [(2, .int z116_0), (0, .ref (wq w k0)), (1, .int a0), (3, .int y116_3), (4, .int y18_4)]) hx hb dX8_lessons_116 rfl hl (by decide) rfl (fun ls hl => ?_)
        exact B_117 _ _ v_116 I z116_0 y116_3 (by omega) (by omega) (by omega) rB116_Z hF ls (lv_sub hl [1, 2, 0, 3, 4] rfl)
      obtain ⟨J_101, eJ_101, hF⟩ := xl_e hF
      have B_101 : ∀ (H : Heap) (lo : List Loc) (v_101 : St), Wo w g s.heap v_101 H lo → ∀ (y101_5 : Int32) (z101_0 : Int32), (0 ≤ y101_5.toInt ∧ y101_5.toInt ≤ 1) → (-4 ≤ z101_0.toInt ∧ z101_0.toInt ≤ 2147483646) → (0 ≤ a0.toInt ∧ a0.toInt ≤ 1) → (-2147483647 ≤ y18_2.toInt) → (0 ≤ y18_4.toInt ∧ y18_4.toInt ≤ 2147483646) → (∀ k j : Nat, ¬ (k = k0 + 2 ∨ (k = k0 ∧ 19 ≤ j ∧ j ≤ 22)) → v_101.1 k j = v.1 k j) → (J_101 y101_5 z101_0 v_101 = res) → ∀ (ls : Array Slot), lv_has ls 6 [(0, .ref (wq w k0)), (1, .int a0), (2, .int y18_2), (4, .int y18_4), (5, .int y101_5)] → W pg l en (rmL 6) s m ar bl me cd H lo 0 0 (Zi w bl ar s post) (F0 m 101 ls [.int z101_0]) := by
        intro H lo v_101 I y101_5 z101_0 hy101_5 hz101_0 hE101_0 hE101_1 hE101_2 rB101_Z hF ls hl
        replace hF := ap3 eJ_101 hF
        refine lv_istore_n (lv' := [(3, .int z101_0), (0, .ref (wq w k0)), (1, .int a0), (2, .int y18_2), (4, .int y18_4), (5, .int y101_5)]) hx hb dX8_lessons_101 rfl hl (by decide) rfl (fun ls hl => ?_)
        refine lv_iload hx hb dX8_lessons_102 (lv_at hl 5 rfl) ?_
        refine bz_eq E (a := y101_5.toInt) rfl (tgt := 115) dX8_lessons_104 (by decide) (fun c2 => ?_) (fun c2 => ?_)
        ·
          replace hF := if_t c2 hF
          refine lv_iload_n hx hb dX8_lessons_115 rfl (lv_at hl 3 rfl) ?_
          exact B_116 _ _ v_101 I z101_0 y18_2 (by omega) (by omega) (by omega) rB101_Z hF ls (lv_sub hl [1, 2, 0, 4] rfl)
        ·
          replace hF := if_f c2 hF
          refine lv_iload hx hb dX8_lessons_107 (lv_at hl 4 rfl) ?_
          refine cSi E I (c_X8_bitsOf l w g v_101 y18_4 E.2.2.1 I.2.2   ) (va_cwS 1 E.1.2.2.2.2 (gSs mw_6_38 mw_6_39 mw_1_9 mw_6_40) rfl rfl rfl (by decide +kernel) ⟨by decide, by decide⟩) rfl hl.1 rfl (Nat.le_of_ble_eq_true rfl) dX8_lessons_109 ⟨Nat.le_refl _, Nat.le_refl _⟩ (fun r3 u4 H lo hp hPS => ?_)
          obtain ⟨hp, hex, hfr⟩ := hp
          replace hF := xl_i hex hF
          obtain ⟨hu, p5⟩ := hp
          rw [hu] at hPS
          have I : Wo w g s.heap v_101 H lo := ⟨hPS.1, hPS.2, I.2.2⟩
          refine lv_goto (tgt := 116) hx hb dX8_lessons_112 (by decide) ?_
          exact B_116 _ _ v_101 I z101_0 r3 (by omega) (by omega) (by omega) rB101_Z hF ls (lv_sub hl [1, 2, 0, 4] rfl)
      obtain ⟨J_88, eJ_88, hF⟩ := xl_e hF
      have B_88 : ∀ (H : Heap) (lo : List Loc) (v_88 : St), Wo w g s.heap v_88 H lo → ∀ (z88_0 : Int32), (0 ≤ z88_0.toInt ∧ z88_0.toInt ≤ 1) → (0 ≤ a0.toInt ∧ a0.toInt ≤ 1) → (-2147483647 ≤ y18_2.toInt) → (-4 ≤ y18_3.toInt ∧ y18_3.toInt ≤ 2147483646) → (0 ≤ y18_4.toInt ∧ y18_4.toInt ≤ 2147483646) → (∀ k j : Nat, ¬ (k = k0 + 2 ∨ (k = k0 ∧ 19 ≤ j ∧ j ≤ 22)) → v_88.1 k j = v.1 k j) → (J_88 z88_0 v_88 = res) → ∀ (ls : Array Slot), lv_has ls 6 [(0, .ref (wq w k0)), (1, .int a0), (2, .int y18_2), (3, .int y18_3), (4, .int y18_4)] → W pg l en (rmL 6) s m ar bl me cd H lo 0 0 (Zi w bl ar s post) (F0 m 88 ls [.int z88_0]) := by
        intro H lo v_88 I z88_0 hz88_0 hE88_0 hE88_1 hE88_2 hE88_3 rB88_Z hF ls hl
        replace hF := ap2 eJ_88 hF
        refine lv_istore (lv' := [(5, .int z88_0), (0, .ref (wq w k0)), (1, .int a0), (2, .int y18_2), (3, .int y18_3), (4, .int y18_4)]) hx hb dX8_lessons_88 hl (by decide) rfl (fun ls hl => ?_)
        refine lv_iload hx hb dX8_lessons_90 (lv_at hl 0 rfl) ?_
        refine bz_eq E (a := z88_0.toInt) rfl (tgt := 100) dX8_lessons_92 (by decide) (fun c6 => ?_) (fun c6 => ?_)
        ·
          replace hF := if_t c6 hF
          refine lv_iload_n hx hb dX8_lessons_100 rfl (lv_at hl 4 rfl) ?_
          exact B_101 _ _ v_88 I z88_0 y18_3 (by omega) (by omega) (by omega) (by omega) (by omega) rB88_Z hF ls (lv_sub hl [1, 2, 3, 5, 0] rfl)
        ·
          replace hF := if_f c6 hF
          refine lv_iload hx hb dX8_lessons_95 (lv_at hl 5 rfl) ?_
          refine lv_goto (tgt := 101) hx hb dX8_lessons_97 (by decide) ?_
          exact B_101 _ _ v_88 I z88_0 y18_4 (by omega) (by omega) (by omega) (by omega) (by omega) rB88_Z hF ls (lv_sub hl [1, 2, 3, 5, 0] rfl)
      refine lv_iload hx hb dX8_lessons_18 (lv_at hl 4 rfl) ?_
      refine lv_iconst (v := 1) hx hb dX8_lessons_20 (by decide) ?_
      refine lv_aload_n hx hb dX8_lessons_21 rfl (lv_at hl 0 rfl) ?_
      refine g_StarWalkModel_stars E I h_k0.1 mw_4_173 dX8_lessons_22 ?_
      refine lv_topi (fun x7 ex7 => ?_)
      replace hF := xl_i (ex7) hF
      have hx7 := r_StarWalkModel_stars I h_k0.1
      rw [← ex7] at hx7
      refine lv_ishl hx hb dX8_lessons_25 ?_
      refine lv_topi (fun x8 ex8 => ?_)
      replace hF := xl_i (ex8) hF
      refine bi_ge E (a := y18_4.toInt) (b := x8.toInt) rfl rfl (tgt := 123) dX8_lessons_26 (by decide) (fun c9 => ?_) (fun c9 => ?_)
      ·
        have rgy18_4 := i32_rng y18_4
        have rgx8 := i32_rng x8
        replace hF := if_l c9 hF
        refine lv_iload_n hx hb dX8_lessons_123 rfl (lv_at hl 3 rfl) ?_
        refine lv_bipush (v := (-4)) hx hb dX8_lessons_124 (by decide) ?_
        refine bi_ne E (a := y18_3.toInt) (b := (-4)) rfl rfl (tgt := 134) dX8_lessons_126 (by decide) (fun c10 => ?_) (fun c10 => ?_)
        ·
          replace hF := if_f c10 hF
          refine lv_iload_n hx hb dX8_lessons_134 rfl (lv_at hl 1 rfl) ?_
          refine bz_ne E (a := a0.toInt) rfl (tgt := 142) dX8_lessons_135 (by decide) (fun c11 => ?_) (fun c11 => ?_)
          ·
            replace hF := if_f c11 hF
            refine lv_iload_n hx hb dX8_lessons_142 rfl (lv_at hl 3 rfl) ?_
            exact rI E I hr hlk rfl (by rw [← hpost]; exact ⟨⟨I.2.2, trivial⟩, hF.trans hres, rB18_Z⟩) dX8_lessons_143
          ·
            replace hF := if_t c11 hF
            refine lv_iload_n hx hb dX8_lessons_138 rfl (lv_at hl 2 rfl) ?_
            refine lv_goto (tgt := 143) hx hb dX8_lessons_139 (by decide) ?_
            exact rI E I hr hlk rfl (by rw [← hpost]; exact ⟨⟨I.2.2, trivial⟩, hF.trans hres, rB18_Z⟩) dX8_lessons_143
        ·
          replace hF := if_t c10 hF
          refine lv_bipush (v := (-4)) hx hb dX8_lessons_129 (by decide) ?_
          refine lv_goto (tgt := 143) hx hb dX8_lessons_131 (by decide) ?_
          exact rI E I hr hlk rfl (by rw [← hpost]; exact ⟨⟨I.2.2, trivial⟩, hF.trans hres, rB18_Z⟩) dX8_lessons_143
      ·
        have rgy18_4 := i32_rng y18_4
        have rgx8 := i32_rng x8
        replace hF := if_t c9 hF
        refine lv_iload hx hb dX8_lessons_29 (lv_at hl 4 rfl) ?_
        refine lv_aload_n hx hb dX8_lessons_31 rfl (lv_at hl 0 rfl) ?_
        refine cVi E I (c_X8_known l w g v_18 k0 E.2.2.1 I.2.2 h_k0  ) (cwV 0 E.1.2.2.2.2 (gWs (C := "StarWalkModel") mw_6_34 mw_6_36 mw_s_58 mw_1_9 mw_6_37) rfl rfl rfl (by decide +kernel) ⟨by decide, by decide⟩) h_k0.1.1 ((ce_o h_k0.1.2).trans rfl) rfl rfl hl.1 rfl (Nat.le_of_ble_eq_true rfl) dX8_lessons_32 ⟨Nat.le_refl _, Nat.le_refl _⟩ (fun r12 u13 H lo hp hPS => ?_)
        obtain ⟨hp, hex, hfr⟩ := hp
        replace hF := xl_i hex hF
        obtain ⟨hu, p14⟩ := hp
        rw [hu] at hPS
        have I : Wo w g s.heap v_18 H lo := ⟨hPS.1, hPS.2, I.2.2⟩
        refine lv_iand hx hb dX8_lessons_35 ?_
        refine lv_topi (fun x15 ex15 => ?_)
        replace hF := xl_i (ex15) hF
        refine bz_ne E (a := x15.toInt) rfl (tgt := 117) dX8_lessons_36 (by decide) (fun c16 => ?_) (fun c16 => ?_)
        ·
          replace hF := if_f c16 hF
          exact B_117 _ _ v_18 I y18_2 y18_3 (by omega) (by omega) (by omega) rB18_Z hF ls (lv_sub hl [0, 1, 2, 3, 4] rfl)
        ·
          replace hF := if_t c16 hF
          refine lv_iload hx hb dX8_lessons_39 (lv_at hl 4 rfl) ?_
          refine cSi E I (c_X8_bitsOf l w g v_18 y18_4 E.2.2.1 I.2.2   ) (va_cwS 1 E.1.2.2.2.2 (gSs mw_6_38 mw_6_39 mw_1_9 mw_6_40) rfl rfl rfl (by decide +kernel) ⟨by decide, by decide⟩) rfl hl.1 rfl (Nat.le_of_ble_eq_true rfl) dX8_lessons_41 ⟨Nat.le_refl _, Nat.le_refl _⟩ (fun r17 u18 H lo hp hPS => ?_)
          obtain ⟨hp, hex, hfr⟩ := hp
          replace hF := xl_i hex hF
          obtain ⟨hu, p19⟩ := hp
          rw [hu] at hPS
          have I : Wo w g s.heap v_18 H lo := ⟨hPS.1, hPS.2, I.2.2⟩
          refine lv_iload_n hx hb dX8_lessons_44 rfl (lv_at hl 2 rfl) ?_
          refine bi_ge E (a := r17.toInt) (b := y18_2.toInt) rfl rfl (tgt := 117) dX8_lessons_45 (by decide) (fun c20 => ?_) (fun c20 => ?_)
          ·
            have rgr17 := i32_rng r17
            have rgy18_2 := i32_rng y18_2
            replace hF := if_l c20 hF
            exact B_117 _ _ v_18 I y18_2 y18_3 (by omega) (by omega) (by omega) rB18_Z hF ls (lv_sub hl [0, 1, 2, 3, 4] rfl)
          ·
            have rgr17 := i32_rng r17
            have rgy18_2 := i32_rng y18_2
            replace hF := if_t c20 hF
            refine lv_aload_n hx hb dX8_lessons_48 rfl (lv_at hl 0 rfl) ?_
            refine lv_iload hx hb dX8_lessons_49 (lv_at hl 4 rfl) ?_
            refine lv_aload_n hx hb dX8_lessons_51 rfl (lv_at hl 0 rfl) ?_
            refine cVi E I (c_X8_known l w g v_18 k0 E.2.2.1 I.2.2 h_k0  ) (cwV 0 E.1.2.2.2.2 (gWs (C := "StarWalkModel") mw_6_34 mw_6_36 mw_s_58 mw_1_9 mw_6_37) rfl rfl rfl (by decide +kernel) ⟨by decide, by decide⟩) h_k0.1.1 ((ce_o h_k0.1.2).trans rfl) rfl rfl hl.1 rfl (Nat.le_of_ble_eq_true rfl) dX8_lessons_52 ⟨Nat.le_refl _, Nat.le_refl _⟩ (fun r21 u22 H lo hp hPS => ?_)
            obtain ⟨hp, hex, hfr⟩ := hp
            replace hF := xl_i hex hF
            obtain ⟨hu, p23⟩ := hp
            rw [hu] at hPS
            have I : Wo w g s.heap v_18 H lo := ⟨hPS.1, hPS.2, I.2.2⟩
            refine lv_ior hx hb dX8_lessons_55 ?_
            refine lv_topi (fun x24 ex24 => ?_)
            replace hF := xl_i (ex24) hF
            refine cVv E I (c_X8_knowsJust l w g v_18 k0 x24 E.2.2.1 I.2.2 h_k0  ) (cwV 1 E.1.2.2.2.2 (gWs (C := "StarWalkModel") mw_6_41 mw_6_43 mw_s_59 mw_1_9 mw_6_44) rfl rfl rfl (by decide +kernel) ⟨by decide, by decide⟩) h_k0.1.1 ((ce_o h_k0.1.2).trans rfl) rfl rfl hl.1 rfl (Nat.le_of_ble_eq_true rfl) dX8_lessons_56 ⟨Nat.le_refl _, Nat.le_refl _⟩ (fun u25 H lo hp hPS => ?_)
            obtain ⟨hp, hex, hfr⟩ := hp
            replace hF := xl_i hex hF
            obtain ⟨hwf, p26⟩ := hp
            have I : Wo w g s.heap u25 H lo := ⟨hPS.1, hPS.2, hwf⟩
            have rzu25 : ∀ k j : Nat, ¬ (k = k0 + 2 ∨ (k = k0 ∧ 19 ≤ j ∧ j ≤ 22)) → u25.1 k j = v.1 k j := fun k j h => (hfr k j (fun z => h (by omega))).trans (rB18_Z k j h)
            refine lv_aload_n hx hb dX8_lessons_59 rfl (lv_at hl 0 rfl) ?_
            refine cVv E I (c_X8_plansGo l w g u25 k0 E.2.2.1 I.2.2 h_k0  ) (cwV 0 E.1.2.2.2.2 (gWs (C := "StarWalkModel") mw_5_235 mw_5_237 mw_s_55 mw_1_9 mw_5_238) rfl rfl rfl (by decide +kernel) ⟨by decide, by decide⟩) h_k0.1.1 ((ce_o h_k0.1.2).trans rfl) rfl rfl hl.1 rfl (Nat.le_of_ble_eq_true rfl) dX8_lessons_60 ⟨Nat.le_refl _, Nat.le_refl _⟩ (fun u27 H lo hp hPS => ?_)
            obtain ⟨hp, hex, hfr⟩ := hp
            replace hF := xl_i hex hF
            obtain ⟨hwf, p28⟩ := hp
            have I : Wo w g s.heap u27 H lo := ⟨hPS.1, hPS.2, hwf⟩
            have rzu27 : ∀ k j : Nat, ¬ (k = k0 + 2 ∨ (k = k0 ∧ 19 ≤ j ∧ j ≤ 22)) → u27.1 k j = v.1 k j := fun k j h => (hfr k j (fun z => h (by rcases z with z | z <;> omega))).trans (rzu25 k j h)
            refine lv_aload_n hx hb dX8_lessons_63 rfl (lv_at hl 0 rfl) ?_
            refine g_StarWalkModel_at E I h_k0.1 mw_4_171 dX8_lessons_64 ?_
            refine lv_bipush (v := 31) hx hb dX8_lessons_67 (by decide) ?_
            refine ga_31 E I h_k0.2.2.1 (by decide) dX8_lessons_69 ?_
            refine lv_topi (fun x29 ex29 => ?_)
            replace hF := xl_i (ex29) hF
            refine cSi E I (c_X8_sizeOf l w g u27 x29 E.2.2.1 I.2.2   ) (va_cwS 1 E.1.2.2.2.2 (gSs mw_5_116 mw_5_117 mw_1_9 mw_5_118) rfl rfl rfl (by decide +kernel) ⟨by decide, by decide⟩) rfl hl.1 rfl (Nat.le_of_ble_eq_true rfl) dX8_lessons_70 ⟨Nat.le_refl _, Nat.le_refl _⟩ (fun r30 u31 H lo hp hPS => ?_)
            obtain ⟨hp, hex, hfr⟩ := hp
            replace hF := xl_i hex hF
            obtain ⟨hu, p32⟩ := hp
            rw [hu] at hPS
            have I : Wo w g s.heap u27 H lo := ⟨hPS.1, hPS.2, I.2.2⟩
            refine lv_aload_n hx hb dX8_lessons_73 rfl (lv_at hl 0 rfl) ?_
            refine g_StarWalkModel_at E I h_k0.1 mw_4_171 dX8_lessons_74 ?_
            refine lv_bipush (v := 25) hx hb dX8_lessons_77 (by decide) ?_
            refine ga_31 E I h_k0.2.2.1 (by decide) dX8_lessons_79 ?_
            refine lv_topi (fun x33 ex33 => ?_)
            replace hF := xl_i (ex33) hF
            refine bi_gt E (a := r30.toInt) (b := x33.toInt) rfl rfl (tgt := 87) dX8_lessons_80 (by decide) (fun c34 => ?_) (fun c34 => ?_)
            ·
              have rgr30 := i32_rng r30
              have rgx33 := i32_rng x33
              replace hF := if_t c34 hF
              refine lv_iconst (v := 0) hx hb dX8_lessons_87 (by decide) ?_
              exact B_88 _ _ u27 I (0 : Int32) (by decide) (by omega) (by omega) (by omega) (by omega) rzu27 hF ls (lv_sub hl [0, 1, 2, 3, 4] rfl)
            ·
              have rgr30 := i32_rng r30
              have rgx33 := i32_rng x33
              replace hF := if_l c34 hF
              refine lv_iconst (v := 1) hx hb dX8_lessons_83 (by decide) ?_
              refine lv_goto (tgt := 88) hx hb dX8_lessons_84 (by decide) ?_
              exact B_88 _ _ u27 I (1 : Int32) (by decide) (by omega) (by omega) (by omega) (by omega) rzu27 hF ls (lv_sub hl [0, 1, 2, 3, 4] rfl)
  refine lv_iload_n hx hb dX8_lessons_0 rfl (lv_at hl 1 rfl) ?_
  refine cSi E I (c_X8_isPart l w g v a0 E.2.2.1 I.2.2   ) (va_cwS 1 E.1.2.2.2.2 (gSs mw_6_13 mw_6_14 mw_1_9 mw_6_15) rfl rfl rfl (by decide +kernel) ⟨by decide, by decide⟩) rfl hl.1 rfl (Nat.le_of_ble_eq_true rfl) dX8_lessons_1 ⟨Nat.le_refl _, Nat.le_refl _⟩ (fun r35 u36 H lo hp hPS => ?_)
  obtain ⟨hp, hex, hfr⟩ := hp
  replace hF := xl_i hex hF
  obtain ⟨hu, p37⟩ := hp
  rw [hu] at hPS
  have I : Wo w g s.heap v H lo := ⟨hPS.1, hPS.2, I.2.2⟩
  refine bz_ne E (a := r35.toInt) rfl (tgt := 9) dX8_lessons_4 (by decide) (fun c38 => ?_) (fun c38 => ?_)
  ·
    replace hF := if_f c38 hF
    refine lv_ldc (own := "StarWalkModel") hx hb E.1.2.2.2.1 (Ew E mw_6_3 rfl) dX8_lessons_9 ?_
    refine lv_istore_n (lv' := [(2, .int 1000000), (0, .ref (wq w k0)), (1, .int a0)]) hx hb dX8_lessons_11 rfl hl (by decide) rfl (fun ls hl => ?_)
    refine lv_bipush (v := (-4)) hx hb dX8_lessons_12 (by decide) ?_
    refine lv_istore_n (lv' := [(3, .int (-4)), (2, .int 1000000), (0, .ref (wq w k0)), (1, .int a0)]) hx hb dX8_lessons_14 rfl hl (by decide) rfl (fun ls hl => ?_)
    refine lv_iconst (v := 0) hx hb dX8_lessons_15 (by decide) ?_
    refine lv_istore (lv' := [(4, .int 0), (3, .int (-4)), (2, .int 1000000), (0, .ref (wq w k0)), (1, .int a0)]) hx hb dX8_lessons_16 hl (by decide) rfl (fun ls hl => ?_)
    exact L_18 ((2147483647 - (0 : Int32).toInt).toNat + 1) _ _ v I (1000000 : Int32) (-4 : Int32) (0 : Int32) (by decide) (by decide) (by omega) rz0 hF (Nat.lt_succ_self _) ls (lv_sub hl [3, 4, 2, 1, 0] rfl)
  ·
    replace hF := if_t c38 hF
    refine lv_iconst (v := (-1)) hx hb dX8_lessons_7 (by decide) ?_
    exact rI E I hr hlk rfl (by rw [← hpost]; exact ⟨⟨I.2.2, trivial⟩, hF.trans hres, rz0⟩) dX8_lessons_8
def F_X8_thirst (k0 : Nat) (v : St) : Int32 × St :=
xl (fun (self_2 : Int32 → St → Int32 × St) (y2_1 : Int32) (v_2 : St) =>
if 40 < y2_1.toInt then (
((-4 : Int32), v_2)) else (
xl (F_X8_starts k0 v_2) fun u2 =>
xl (up1 u2 (k0 + 2) (27 : Int32).toNatClampNeg y2_1) fun v4 =>
xl (F_X8_plansGo k0 v4) fun u5 =>
xl (u5.1 k0 20) fun x7 =>
if x7.toInt = (-4) then (
(y2_1, u5)) else (
xl (y2_1 + 1) fun x9 =>
(self_2 x9 u5)))) fun P_2 =>
(lp P_2 (fun _ _ => ((0 : Int32), v)) ((2147483647 - (0 : Int32).toInt).toNat + 1) (0 : Int32) v)
set_option maxHeartbeats 4000000 in
set_option maxRecDepth 100000 in
theorem c_X8_thirst (l : Launch) (w : Wp) (g : Nat → Nat → Int32) (v : St) (k0 : Nat) (hq : Inj w) (hw : WF (wk w) g v) (h_k0 : oM w k0) : CTi w l yX8_thirst (wsy yX8_thirst prog_10_method_69_code 2 (some .int)) (rmL 6) [.ref (wq w k0)] v (fun (r : Int32) (u : St) => (WF (wk w) g u ∧ True) ∧ ((r, u) = F_X8_thirst k0 v) ∧ (∀ k j : Nat, ¬ (k = k0 + 2 ∨ (k = k0 ∧ 19 ≤ j ∧ j ≤ 22)) → u.1 k j = v.1 k j)) := by
  generalize hpost : (fun (r : Int32) (u : St) => (WF (wk w) g u ∧ True) ∧ ((r, u) = F_X8_thirst k0 v) ∧ (∀ k j : Nat, ¬ (k = k0 + 2 ∨ (k = k0 ∧ 19 ≤ j ∧ j ≤ 22)) → u.1 k j = v.1 k j)) = post
  refine CTi.of prog_10_method_69_code 2 (some .int) "StarWalkModel" (by decide +kernel) rfl hq hw (Nat.le_of_ble_eq_true rfl) ?_
  intro pg en s m ar bl me cd ls E I hr hlk hl
  have hx := E.1.1
  have hb := E.1.2.1
  have hl : lv_has ls 2 [(0, .ref (wq w k0))] := hl
  obtain ⟨res, hres⟩ : ∃ z, z = F_X8_thirst k0 v := ⟨_, rfl⟩
  have hF := hres.symm
  unfold F_X8_thirst at hF
  replace hres : res = F_X8_thirst k0 v := hres
  have rz0 : ∀ k j : Nat, ¬ (k = k0 + 2 ∨ (k = k0 ∧ 19 ≤ j ∧ j ≤ 22)) → v.1 k j = v.1 k j := fun _ _ _ => rfl
  obtain ⟨P_2, eP_2, hF⟩ := xl_e hF
  have L_2 : ∀ (n : Nat), ∀ (H : Heap) (lo : List Loc) (v_2 : St), Wo w g s.heap v_2 H lo → ∀ (y2_1 : Int32), (0 ≤ y2_1.toInt ∧ y2_1.toInt ≤ 41) → (∀ k j : Nat, ¬ (k = k0 + 2 ∨ (k = k0 ∧ 19 ≤ j ∧ j ≤ 22)) → v_2.1 k j = v.1 k j) → (lp P_2 (fun _ _ => ((0 : Int32), v)) n y2_1 v_2 = res) → (2147483647 - y2_1.toInt).toNat < n → ∀ (ls : Array Slot), lv_has ls 2 [(0, .ref (wq w k0)), (1, .int y2_1)] → W pg l en (rmL 6) s m ar bl me cd H lo 0 0 (Zi w bl ar s post) (F0 m 2 ls []) := by
    intro n
    induction n with
    | zero => intro H lo v_2 I y2_1 hy2_1 rB2_Z hF hm; exact absurd hm (Nat.not_lt_zero _)
    | succ n ih_2 =>
      intro H lo v_2 I y2_1 hy2_1 rB2_Z hF hm ls hl
      replace hF := lpa2 eP_2 hF
      refine lv_iload_n hx hb dX8_thirst_2 rfl (lv_at hl 1 rfl) ?_
      refine lv_bipush (v := 40) hx hb dX8_thirst_3 (by decide) ?_
      refine bi_gt E (a := y2_1.toInt) (b := 40) rfl rfl (tgt := 41) dX8_thirst_5 (by decide) (fun c1 => ?_) (fun c1 => ?_)
      ·
        replace hF := if_t c1 hF
        refine lv_bipush (v := (-4)) hx hb dX8_thirst_41 (by decide) ?_
        exact rI E I hr hlk rfl (by rw [← hpost]; exact ⟨⟨I.2.2, trivial⟩, hF.trans hres, rB2_Z⟩) dX8_thirst_43
      ·
        replace hF := if_l c1 hF
        refine lv_aload_n hx hb dX8_thirst_8 rfl (lv_at hl 0 rfl) ?_
        refine cVv E I (c_X8_starts l w g v_2 k0 E.2.2.1 I.2.2 h_k0  ) (cwV 0 E.1.2.2.2.2 (gWs (C := "StarWalkModel") mw_5_108 mw_5_110 mw_s_42 mw_1_9 mw_5_111) rfl rfl rfl (by decide +kernel) ⟨by decide, by decide⟩) h_k0.1.1 ((ce_o h_k0.1.2).trans rfl) rfl rfl hl.1 rfl (Nat.le_of_ble_eq_true rfl) dX8_thirst_9 ⟨Nat.le_refl _, Nat.le_refl _⟩ (fun u2 H lo hp hPS => ?_)
        obtain ⟨hp, hex, hfr⟩ := hp
        replace hF := xl_i hex hF
        obtain ⟨hwf, p3⟩ := hp
        have I : Wo w g s.heap u2 H lo := ⟨hPS.1, hPS.2, hwf⟩
        have rzu2 : ∀ k j : Nat, ¬ (k = k0 + 2 ∨ (k = k0 ∧ 19 ≤ j ∧ j ≤ 22)) → u2.1 k j = v.1 k j := fun k j h => (hfr k j (fun z => h (by omega))).trans (rB2_Z k j h)
        refine lv_aload_n hx hb dX8_thirst_12 rfl (lv_at hl 0 rfl) ?_
        refine g_StarWalkModel_at E I h_k0.1 mw_4_171 dX8_thirst_13 ?_
        refine lv_bipush (v := 27) hx hb dX8_thirst_16 (by decide) ?_
        refine lv_iload_n hx hb dX8_thirst_18 rfl (lv_at hl 1 rfl) ?_
        refine pa_31 E I h_k0.2.2.1 (by decide) (by have ci : (27 : Int32).toNatClampNeg = 27 := rfl; rw [ci]; simp only [okk]; omega) dX8_thirst_19 (fun H lo I => ?_)
        generalize ev4 : up1 u2 (k0 + 2) (27 : Int32).toNatClampNeg y2_1 = v4 at I
        replace hF := xl_i (ev4.symm) hF
        have rzv4 : ∀ k j : Nat, ¬ (k = k0 + 2 ∨ (k = k0 ∧ 19 ≤ j ∧ j ≤ 22)) → v4.1 k j = v.1 k j := fun k j h => fz_u ev4 (by have cl27 : (27 : Int32).toNatClampNeg = 27 := rfl; omega) (rzu2 k j h)
        refine lv_aload_n hx hb dX8_thirst_20 rfl (lv_at hl 0 rfl) ?_
        refine cVv E I (c_X8_plansGo l w g v4 k0 E.2.2.1 I.2.2 h_k0  ) (cwV 0 E.1.2.2.2.2 (gWs (C := "StarWalkModel") mw_5_235 mw_5_237 mw_s_55 mw_1_9 mw_5_238) rfl rfl rfl (by decide +kernel) ⟨by decide, by decide⟩) h_k0.1.1 ((ce_o h_k0.1.2).trans rfl) rfl rfl hl.1 rfl (Nat.le_of_ble_eq_true rfl) dX8_thirst_21 ⟨Nat.le_refl _, Nat.le_refl _⟩ (fun u5 H lo hp hPS => ?_)
        obtain ⟨hp, hex, hfr⟩ := hp
        replace hF := xl_i hex hF
        obtain ⟨hwf, p6⟩ := hp
        have I : Wo w g s.heap u5 H lo := ⟨hPS.1, hPS.2, hwf⟩
        have rzu5 : ∀ k j : Nat, ¬ (k = k0 + 2 ∨ (k = k0 ∧ 19 ≤ j ∧ j ≤ 22)) → u5.1 k j = v.1 k j := fun k j h => (hfr k j (fun z => h (by rcases z with z | z <;> omega))).trans (rzv4 k j h)
        refine lv_aload_n hx hb dX8_thirst_24 rfl (lv_at hl 0 rfl) ?_
        refine g_StarWalkModel_passedOver E I h_k0.1 mw_4_190 dX8_thirst_25 ?_
        refine lv_topi (fun x7 ex7 => ?_)
        replace hF := xl_i (ex7) hF
        refine lv_bipush (v := (-4)) hx hb dX8_thirst_28 (by decide) ?_
        refine bi_ne E (a := x7.toInt) (b := (-4)) rfl rfl (tgt := 35) dX8_thirst_30 (by decide) (fun c8 => ?_) (fun c8 => ?_)
        ·
          replace hF := if_f c8 hF
          obtain ⟨x9, ex9⟩ : ∃ z : Int32, z = y2_1 + 1 := ⟨_, rfl⟩
          replace hF := xl_i (ex9) hF
          have hx9 : x9.toInt = y2_1.toInt + (1) := by rw [ex9]; exact adI (a := y2_1.toInt) (b := 1) rfl rfl (by omega) (by omega)
          refine lv_iinc (v := x9) (lv' := [(1, .int x9), (0, .ref (wq w k0))]) hx hb dX8_thirst_35 hl (k := 1) rfl (by rw [ex9]; rfl) (by decide) rfl (fun ls hl => ?_)
          refine lv_goto (tgt := 2) hx hb dX8_thirst_38 (by decide) ?_
          exact ih_2 _ _ u5 I x9 (by omega) rzu5 hF (by omega) ls (lv_sub hl [1, 0] rfl)
        ·
          replace hF := if_t c8 hF
          refine lv_iload_n hx hb dX8_thirst_33 rfl (lv_at hl 1 rfl) ?_
          exact rI E I hr hlk rfl (by rw [← hpost]; exact ⟨⟨I.2.2, trivial⟩, hF.trans hres, rzu5⟩) dX8_thirst_34
  refine lv_iconst (v := 0) hx hb dX8_thirst_0 (by decide) ?_
  refine lv_istore_n (lv' := [(1, .int 0), (0, .ref (wq w k0))]) hx hb dX8_thirst_1 rfl hl (by decide) rfl (fun ls hl => ?_)
  exact L_2 ((2147483647 - (0 : Int32).toInt).toNat + 1) _ _ v I (0 : Int32) (by decide) rz0 hF (Nat.lt_succ_self _) ls (lv_sub hl [1, 0] rfl)
def F_X8_weather (k0 : Nat) (v : St) : Int32 × St :=
xl (fun (self_21 : Int32 → Int32 → St → Int32 × St) (y21_1 : Int32) (y21_2 : Int32) (v_21 : St) =>
xl (fun (z79_1 : Int32) (z79_2 : Int32) (v_79 : St) =>
xl (up1 v_79 (k0 + 2) z79_1.toNatClampNeg z79_2) fun v1 =>
xl (F_X8_plansGo k0 v1) fun u2 =>
xl (F_X8_isAtWell k0 u2) fun r4 =>
xl (F_X8_flag r4 u2) fun r7 =>
xl (r7 <<< (y21_2 &&& 31)) fun x10 =>
xl (y21_1 ||| x10) fun x11 =>
xl (y21_2 + 1) fun x12 =>
(self_21 x11 x12 u2)) fun J_79 =>
if y21_2.toInt < 10 then (
xl (F_X8_starts k0 v_21) fun u14 =>
xl (u14.1 (k0 + 2) (28 : Int32).toNatClampNeg) fun x16 =>
xl (x16 >>> (y21_2 &&& 31)) fun x17 =>
xl (x17 &&& (1 : Int32)) fun x18 =>
if x18.toInt = 1 then (
xl (u14.1 (k0 + 2) (28 : Int32).toNatClampNeg) fun x23 =>
xl ((1 : Int32) <<< (y21_2 &&& 31)) fun x24 =>
xl (x24 ^^^ (-1 : Int32)) fun x25 =>
xl (x23 &&& x25) fun x26 =>
(J_79 (28 : Int32) x26 u14)) else (
xl (u14.1 (k0 + 2) (28 : Int32).toNatClampNeg) fun x20 =>
xl ((1 : Int32) <<< (y21_2 &&& 31)) fun x21 =>
xl (x20 ||| x21) fun x22 =>
(J_79 (28 : Int32) x22 u14))) else (
(y21_1, v_21))) fun P_21 =>
xl (F_X8_starts k0 v) fun u27 =>
xl (F_X8_plansGo k0 u27) fun u29 =>
xl (F_X8_isAtWell k0 u29) fun r31 =>
if r31.toInt = 0 then (
(lp P_21 (fun _ _ _ => ((0 : Int32), v)) ((2147483647 - (0 : Int32).toInt).toNat + 1) (0 : Int32) (0 : Int32) u29)) else (
((0 : Int32), u29))
set_option maxHeartbeats 4000000 in
set_option maxRecDepth 100000 in
theorem c_X8_weather (l : Launch) (w : Wp) (g : Nat → Nat → Int32) (v : St) (k0 : Nat) (hq : Inj w) (hw : WF (wk w) g v) (h_k0 : oM w k0) : CTi w l yX8_weather (wsy yX8_weather prog_10_method_70_code 3 (some .int)) (rmL 6) [.ref (wq w k0)] v (fun (r : Int32) (u : St) => (WF (wk w) g u ∧ True) ∧ ((r, u) = F_X8_weather k0 v) ∧ (∀ k j : Nat, ¬ (k = k0 + 2 ∨ (k = k0 ∧ 19 ≤ j ∧ j ≤ 22)) → u.1 k j = v.1 k j)) := by
  generalize hpost : (fun (r : Int32) (u : St) => (WF (wk w) g u ∧ True) ∧ ((r, u) = F_X8_weather k0 v) ∧ (∀ k j : Nat, ¬ (k = k0 + 2 ∨ (k = k0 ∧ 19 ≤ j ∧ j ≤ 22)) → u.1 k j = v.1 k j)) = post
  refine CTi.of prog_10_method_70_code 3 (some .int) "StarWalkModel" (by decide +kernel) rfl hq hw (Nat.le_of_ble_eq_true rfl) ?_
  intro pg en s m ar bl me cd ls E I hr hlk hl
  have hx := E.1.1
  have hb := E.1.2.1
  have hl : lv_has ls 3 [(0, .ref (wq w k0))] := hl
  obtain ⟨res, hres⟩ : ∃ z, z = F_X8_weather k0 v := ⟨_, rfl⟩
  have hF := hres.symm
  unfold F_X8_weather at hF
  replace hres : res = F_X8_weather k0 v := hres
  have rz0 : ∀ k j : Nat, ¬ (k = k0 + 2 ∨ (k = k0 ∧ 19 ≤ j ∧ j ≤ 22)) → v.1 k j = v.1 k j := fun _ _ _ => rfl
  obtain ⟨P_21, eP_21, hF⟩ := xl_e hF
  have L_21 : ∀ (n : Nat), ∀ (H : Heap) (lo : List Loc) (v_21 : St), Wo w g s.heap v_21 H lo → ∀ (y21_1 : Int32) (y21_2 : Int32), (0 ≤ y21_2.toInt ∧ y21_2.toInt ≤ 10) → (∀ k j : Nat, ¬ (k = k0 + 2 ∨ (k = k0 ∧ 19 ≤ j ∧ j ≤ 22)) → v_21.1 k j = v.1 k j) → (lp P_21 (fun _ _ _ => ((0 : Int32), v)) n y21_1 y21_2 v_21 = res) → (2147483647 - y21_2.toInt).toNat < n → ∀ (ls : Array Slot), lv_has ls 3 [(0, .ref (wq w k0)), (1, .int y21_1), (2, .int y21_2)] → W pg l en (rmL 6) s m ar bl me cd H lo 0 0 (Zi w bl ar s post) (F0 m 21 ls []) := by
    intro n
    induction n with
    | zero => intro H lo v_21 I y21_1 y21_2 hy21_2 rB21_Z hF hm; exact absurd hm (Nat.not_lt_zero _)
    | succ n ih_21 =>
      intro H lo v_21 I y21_1 y21_2 hy21_2 rB21_Z hF hm ls hl
      replace hF := lpa3 eP_21 hF
      obtain ⟨J_79, eJ_79, hF⟩ := xl_e hF
      have B_79 : ∀ (H : Heap) (lo : List Loc) (v_79 : St), Wo w g s.heap v_79 H lo → ∀ (z79_1 : Int32) (z79_2 : Int32), (28 ≤ z79_1.toInt ∧ z79_1.toInt ≤ 28) → (0 ≤ y21_2.toInt ∧ y21_2.toInt ≤ 9) → (∀ k j : Nat, ¬ (k = k0 + 2 ∨ (k = k0 ∧ 19 ≤ j ∧ j ≤ 22)) → v_79.1 k j = v.1 k j) → (J_79 z79_1 z79_2 v_79 = res) → ∀ (ls : Array Slot), lv_has ls 3 [(0, .ref (wq w k0)), (1, .int y21_1), (2, .int y21_2)] → W pg l en (rmL 6) s m ar bl me cd H lo 0 0 (Zi w bl ar s post) (F0 m 79 ls [.int z79_2, .int z79_1, .ref (wq w (k0 + 2))]) := by
        intro H lo v_79 I z79_1 z79_2 hz79_1 hE79_0 rB79_Z hF ls hl
        replace hF := ap3 eJ_79 hF
        refine pa_31 E I h_k0.2.2.1 (by omega) (by have ci := cnI (x := z79_1) (by omega); simp only [okk]; omega) dX8_weather_79 (fun H lo I => ?_)
        generalize ev1 : up1 v_79 (k0 + 2) z79_1.toNatClampNeg z79_2 = v1 at I
        replace hF := xl_i (ev1.symm) hF
        have rzv1 : ∀ k j : Nat, ¬ (k = k0 + 2 ∨ (k = k0 ∧ 19 ≤ j ∧ j ≤ 22)) → v1.1 k j = v.1 k j := fun k j h => fz_u ev1 (by have czz79_1 := cnI (x := z79_1) (by omega); omega) (rB79_Z k j h)
        refine lv_aload_n hx hb dX8_weather_80 rfl (lv_at hl 0 rfl) ?_
        refine cVv E I (c_X8_plansGo l w g v1 k0 E.2.2.1 I.2.2 h_k0  ) (cwV 0 E.1.2.2.2.2 (gWs (C := "StarWalkModel") mw_5_235 mw_5_237 mw_s_55 mw_1_9 mw_5_238) rfl rfl rfl (by decide +kernel) ⟨by decide, by decide⟩) h_k0.1.1 ((ce_o h_k0.1.2).trans rfl) rfl rfl hl.1 rfl (Nat.le_of_ble_eq_true rfl) dX8_weather_81 ⟨Nat.le_refl _, Nat.le_refl _⟩ (fun u2 H lo hp hPS => ?_)
        obtain ⟨hp, hex, hfr⟩ := hp
        replace hF := xl_i hex hF
        obtain ⟨hwf, p3⟩ := hp
        have I : Wo w g s.heap u2 H lo := ⟨hPS.1, hPS.2, hwf⟩
        have rzu2 : ∀ k j : Nat, ¬ (k = k0 + 2 ∨ (k = k0 ∧ 19 ≤ j ∧ j ≤ 22)) → u2.1 k j = v.1 k j := fun k j h => (hfr k j (fun z => h (by rcases z with z | z <;> omega))).trans (rzv1 k j h)
        refine lv_iload_n hx hb dX8_weather_84 rfl (lv_at hl 1 rfl) ?_
        refine lv_aload_n hx hb dX8_weather_85 rfl (lv_at hl 0 rfl) ?_
        refine cVi E I (c_X8_isAtWell l w g u2 k0 E.2.2.1 I.2.2 h_k0  ) (cwV 0 E.1.2.2.2.2 (gWs (C := "StarWalkModel") mw_5_112 mw_5_114 mw_s_43 mw_1_9 mw_5_115) rfl rfl rfl (by decide +kernel) ⟨by decide, by decide⟩) h_k0.1.1 ((ce_o h_k0.1.2).trans rfl) rfl rfl hl.1 rfl (Nat.le_of_ble_eq_true rfl) dX8_weather_86 ⟨Nat.le_refl _, Nat.le_refl _⟩ (fun r4 u5 H lo hp hPS => ?_)
        obtain ⟨hp, hex, hfr⟩ := hp
        replace hF := xl_i hex hF
        obtain ⟨hu, p6⟩ := hp
        rw [hu] at hPS
        have I : Wo w g s.heap u2 H lo := ⟨hPS.1, hPS.2, I.2.2⟩
        refine cSi E I (c_X8_flag l w g u2 r4 E.2.2.1 I.2.2   ) (va_cwS 1 E.1.2.2.2.2 (gSs mw_5_119 mw_5_120 mw_1_9 mw_5_121) rfl rfl rfl (by decide +kernel) ⟨by decide, by decide⟩) rfl hl.1 rfl (Nat.le_of_ble_eq_true rfl) dX8_weather_89 ⟨Nat.le_refl _, Nat.le_refl _⟩ (fun r7 u8 H lo hp hPS => ?_)
        obtain ⟨hp, hex, hfr⟩ := hp
        replace hF := xl_i hex hF
        obtain ⟨hu, p9⟩ := hp
        rw [hu] at hPS
        have I : Wo w g s.heap u2 H lo := ⟨hPS.1, hPS.2, I.2.2⟩
        refine lv_iload_n hx hb dX8_weather_92 rfl (lv_at hl 2 rfl) ?_
        refine lv_ishl hx hb dX8_weather_93 ?_
        refine lv_topi (fun x10 ex10 => ?_)
        replace hF := xl_i (ex10) hF
        refine lv_ior hx hb dX8_weather_94 ?_
        refine lv_topi (fun x11 ex11 => ?_)
        replace hF := xl_i (ex11) hF
        refine lv_istore_n (lv' := [(1, .int x11), (0, .ref (wq w k0)), (2, .int y21_2)]) hx hb dX8_weather_95 rfl hl (by decide) rfl (fun ls hl => ?_)
        obtain ⟨x12, ex12⟩ : ∃ z : Int32, z = y21_2 + 1 := ⟨_, rfl⟩
        replace hF := xl_i (ex12) hF
        have hx12 : x12.toInt = y21_2.toInt + (1) := by rw [ex12]; exact adI (a := y21_2.toInt) (b := 1) rfl rfl (by omega) (by omega)
        refine lv_iinc (v := x12) (lv' := [(2, .int x12), (1, .int x11), (0, .ref (wq w k0))]) hx hb dX8_weather_96 hl (k := 2) rfl (by rw [ex12]; rfl) (by decide) rfl (fun ls hl => ?_)
        refine lv_goto (tgt := 21) hx hb dX8_weather_99 (by decide) ?_
        exact ih_21 _ _ u2 I x11 x12 (by omega) rzu2 hF (by omega) ls (lv_sub hl [2, 1, 0] rfl)
      refine lv_iload_n hx hb dX8_weather_21 rfl (lv_at hl 2 rfl) ?_
      refine lv_bipush (v := 10) hx hb dX8_weather_22 (by decide) ?_
      refine bi_ge E (a := y21_2.toInt) (b := 10) rfl rfl (tgt := 102) dX8_weather_24 (by decide) (fun c13 => ?_) (fun c13 => ?_)
      ·
        replace hF := if_l c13 hF
        refine lv_iload_n hx hb dX8_weather_102 rfl (lv_at hl 1 rfl) ?_
        exact rI E I hr hlk rfl (by rw [← hpost]; exact ⟨⟨I.2.2, trivial⟩, hF.trans hres, rB21_Z⟩) dX8_weather_103
      ·
        replace hF := if_t c13 hF
        refine lv_aload_n hx hb dX8_weather_27 rfl (lv_at hl 0 rfl) ?_
        refine cVv E I (c_X8_starts l w g v_21 k0 E.2.2.1 I.2.2 h_k0  ) (cwV 0 E.1.2.2.2.2 (gWs (C := "StarWalkModel") mw_5_108 mw_5_110 mw_s_42 mw_1_9 mw_5_111) rfl rfl rfl (by decide +kernel) ⟨by decide, by decide⟩) h_k0.1.1 ((ce_o h_k0.1.2).trans rfl) rfl rfl hl.1 rfl (Nat.le_of_ble_eq_true rfl) dX8_weather_28 ⟨Nat.le_refl _, Nat.le_refl _⟩ (fun u14 H lo hp hPS => ?_)
        obtain ⟨hp, hex, hfr⟩ := hp
        replace hF := xl_i hex hF
        obtain ⟨hwf, p15⟩ := hp
        have I : Wo w g s.heap u14 H lo := ⟨hPS.1, hPS.2, hwf⟩
        have rzu14 : ∀ k j : Nat, ¬ (k = k0 + 2 ∨ (k = k0 ∧ 19 ≤ j ∧ j ≤ 22)) → u14.1 k j = v.1 k j := fun k j h => (hfr k j (fun z => h (by omega))).trans (rB21_Z k j h)
        refine lv_aload_n hx hb dX8_weather_31 rfl (lv_at hl 0 rfl) ?_
        refine g_StarWalkModel_at E I h_k0.1 mw_4_171 dX8_weather_32 ?_
        refine lv_bipush (v := 28) hx hb dX8_weather_35 (by decide) ?_
        refine lv_aload_n hx hb dX8_weather_37 rfl (lv_at hl 0 rfl) ?_
        refine g_StarWalkModel_at E I h_k0.1 mw_4_171 dX8_weather_38 ?_
        refine lv_bipush (v := 28) hx hb dX8_weather_41 (by decide) ?_
        refine ga_31 E I h_k0.2.2.1 (by decide) dX8_weather_43 ?_
        refine lv_topi (fun x16 ex16 => ?_)
        replace hF := xl_i (ex16) hF
        refine lv_iload_n hx hb dX8_weather_44 rfl (lv_at hl 2 rfl) ?_
        refine lv_ishr hx hb dX8_weather_45 ?_
        refine lv_topi (fun x17 ex17 => ?_)
        replace hF := xl_i (ex17) hF
        refine lv_iconst (v := 1) hx hb dX8_weather_46 (by decide) ?_
        refine lv_iand hx hb dX8_weather_47 ?_
        refine lv_topi (fun x18 ex18 => ?_)
        replace hF := xl_i (ex18) hF
        have hx18 := anI (x := x17) (y := (1 : Int32)) (b := 1) rfl (by decide)
        rw [← ex18] at hx18
        refine lv_iconst (v := 1) hx hb dX8_weather_48 (by decide) ?_
        refine bi_ne E (a := x18.toInt) (b := 1) rfl rfl (tgt := 68) dX8_weather_49 (by decide) (fun c19 => ?_) (fun c19 => ?_)
        ·
          replace hF := if_f c19 hF
          refine lv_aload_n hx hb dX8_weather_68 rfl (lv_at hl 0 rfl) ?_
          refine g_StarWalkModel_at E I h_k0.1 mw_4_171 dX8_weather_69 ?_
          refine lv_bipush (v := 28) hx hb dX8_weather_72 (by decide) ?_
          refine ga_31 E I h_k0.2.2.1 (by decide) dX8_weather_74 ?_
          refine lv_topi (fun x20 ex20 => ?_)
          replace hF := xl_i (ex20) hF
          refine lv_iconst (v := 1) hx hb dX8_weather_75 (by decide) ?_
          refine lv_iload_n hx hb dX8_weather_76 rfl (lv_at hl 2 rfl) ?_
          refine lv_ishl hx hb dX8_weather_77 ?_
          refine lv_topi (fun x21 ex21 => ?_)
          replace hF := xl_i (ex21) hF
          refine lv_ior hx hb dX8_weather_78 ?_
          refine lv_topi (fun x22 ex22 => ?_)
          replace hF := xl_i (ex22) hF
          exact B_79 _ _ u14 I (28 : Int32) x22 (by decide) (by omega) rzu14 hF ls (lv_sub hl [0, 1, 2] rfl)
        ·
          replace hF := if_t c19 hF
          refine lv_aload_n hx hb dX8_weather_52 rfl (lv_at hl 0 rfl) ?_
          refine g_StarWalkModel_at E I h_k0.1 mw_4_171 dX8_weather_53 ?_
          refine lv_bipush (v := 28) hx hb dX8_weather_56 (by decide) ?_
          refine ga_31 E I h_k0.2.2.1 (by decide) dX8_weather_58 ?_
          refine lv_topi (fun x23 ex23 => ?_)
          replace hF := xl_i (ex23) hF
          refine lv_iconst (v := 1) hx hb dX8_weather_59 (by decide) ?_
          refine lv_iload_n hx hb dX8_weather_60 rfl (lv_at hl 2 rfl) ?_
          refine lv_ishl hx hb dX8_weather_61 ?_
          refine lv_topi (fun x24 ex24 => ?_)
          replace hF := xl_i (ex24) hF
          refine lv_iconst (v := (-1)) hx hb dX8_weather_62 (by decide) ?_
          refine lv_ixor hx hb dX8_weather_63 ?_
          refine lv_topi (fun x25 ex25 => ?_)
          replace hF := xl_i (ex25) hF
          refine lv_iand hx hb dX8_weather_64 ?_
          refine lv_topi (fun x26 ex26 => ?_)
          replace hF := xl_i (ex26) hF
          refine lv_goto (tgt := 79) hx hb dX8_weather_65 (by decide) ?_
          exact B_79 _ _ u14 I (28 : Int32) x26 (by decide) (by omega) rzu14 hF ls (lv_sub hl [0, 1, 2] rfl)
  refine lv_iconst (v := 0) hx hb dX8_weather_0 (by decide) ?_
  refine lv_istore_n (lv' := [(1, .int 0), (0, .ref (wq w k0))]) hx hb dX8_weather_1 rfl hl (by decide) rfl (fun ls hl => ?_)
  refine lv_aload_n hx hb dX8_weather_2 rfl (lv_at hl 1 rfl) ?_
  refine cVv E I (c_X8_starts l w g v k0 E.2.2.1 I.2.2 h_k0  ) (cwV 0 E.1.2.2.2.2 (gWs (C := "StarWalkModel") mw_5_108 mw_5_110 mw_s_42 mw_1_9 mw_5_111) rfl rfl rfl (by decide +kernel) ⟨by decide, by decide⟩) h_k0.1.1 ((ce_o h_k0.1.2).trans rfl) rfl rfl hl.1 rfl (Nat.le_of_ble_eq_true rfl) dX8_weather_3 ⟨Nat.le_refl _, Nat.le_refl _⟩ (fun u27 H lo hp hPS => ?_)
  obtain ⟨hp, hex, hfr⟩ := hp
  replace hF := xl_i hex hF
  obtain ⟨hwf, p28⟩ := hp
  have I : Wo w g s.heap u27 H lo := ⟨hPS.1, hPS.2, hwf⟩
  have rzu27 : ∀ k j : Nat, ¬ (k = k0 + 2 ∨ (k = k0 ∧ 19 ≤ j ∧ j ≤ 22)) → u27.1 k j = v.1 k j := fun k j h => (hfr k j (fun z => h (by omega))).trans (rz0 k j h)
  refine lv_aload_n hx hb dX8_weather_6 rfl (lv_at hl 1 rfl) ?_
  refine cVv E I (c_X8_plansGo l w g u27 k0 E.2.2.1 I.2.2 h_k0  ) (cwV 0 E.1.2.2.2.2 (gWs (C := "StarWalkModel") mw_5_235 mw_5_237 mw_s_55 mw_1_9 mw_5_238) rfl rfl rfl (by decide +kernel) ⟨by decide, by decide⟩) h_k0.1.1 ((ce_o h_k0.1.2).trans rfl) rfl rfl hl.1 rfl (Nat.le_of_ble_eq_true rfl) dX8_weather_7 ⟨Nat.le_refl _, Nat.le_refl _⟩ (fun u29 H lo hp hPS => ?_)
  obtain ⟨hp, hex, hfr⟩ := hp
  replace hF := xl_i hex hF
  obtain ⟨hwf, p30⟩ := hp
  have I : Wo w g s.heap u29 H lo := ⟨hPS.1, hPS.2, hwf⟩
  have rzu29 : ∀ k j : Nat, ¬ (k = k0 + 2 ∨ (k = k0 ∧ 19 ≤ j ∧ j ≤ 22)) → u29.1 k j = v.1 k j := fun k j h => (hfr k j (fun z => h (by rcases z with z | z <;> omega))).trans (rzu27 k j h)
  refine lv_aload_n hx hb dX8_weather_10 rfl (lv_at hl 1 rfl) ?_
  refine cVi E I (c_X8_isAtWell l w g u29 k0 E.2.2.1 I.2.2 h_k0  ) (cwV 0 E.1.2.2.2.2 (gWs (C := "StarWalkModel") mw_5_112 mw_5_114 mw_s_43 mw_1_9 mw_5_115) rfl rfl rfl (by decide +kernel) ⟨by decide, by decide⟩) h_k0.1.1 ((ce_o h_k0.1.2).trans rfl) rfl rfl hl.1 rfl (Nat.le_of_ble_eq_true rfl) dX8_weather_11 ⟨Nat.le_refl _, Nat.le_refl _⟩ (fun r31 u32 H lo hp hPS => ?_)
  obtain ⟨hp, hex, hfr⟩ := hp
  replace hF := xl_i hex hF
  obtain ⟨hu, p33⟩ := hp
  rw [hu] at hPS
  have I : Wo w g s.heap u29 H lo := ⟨hPS.1, hPS.2, I.2.2⟩
  refine bz_eq E (a := r31.toInt) rfl (tgt := 19) dX8_weather_14 (by decide) (fun c34 => ?_) (fun c34 => ?_)
  ·
    replace hF := if_t c34 hF
    refine lv_iconst (v := 0) hx hb dX8_weather_19 (by decide) ?_
    refine lv_istore_n (lv' := [(2, .int 0), (1, .int 0), (0, .ref (wq w k0))]) hx hb dX8_weather_20 rfl hl (by decide) rfl (fun ls hl => ?_)
    exact L_21 ((2147483647 - (0 : Int32).toInt).toNat + 1) _ _ u29 I (0 : Int32) (0 : Int32) (by decide) rzu29 hF (Nat.lt_succ_self _) ls (lv_sub hl [2, 1, 0] rfl)
  ·
    replace hF := if_f c34 hF
    refine lv_iconst (v := 0) hx hb dX8_weather_17 (by decide) ?_
    exact rI E I hr hlk rfl (by rw [← hpost]; exact ⟨⟨I.2.2, trivial⟩, hF.trans hres, rzu29⟩) dX8_weather_18
def F_X8_see (k0 : Nat) (a0 : Int32) (a1 : Int32) (v : St) : Int32 × St :=
xl (F_X8_in a0.toInt64 (0 : Int64) (8 : Int64) v) fun r2 =>
if r2.toInt = 0 then (
((-1 : Int32), v)) else (
xl (F_X8_in a1.toInt64 (-99 : Int64) (99 : Int64) v) fun r10 =>
if r10.toInt = 0 then (
((-1 : Int32), v)) else (
xl (v.1 (k0 + 1) (41 : Int32).toNatClampNeg) fun x17 =>
if x17.toInt = 6 then (
((-3 : Int32), v)) else (
xl ((2 : Int32) * x17) fun x20 =>
xl ((42 : Int32) + x20) fun x21 =>
xl (up1 v (k0 + 1) x21.toNatClampNeg a0) fun v22 =>
xl (x21 + (1 : Int32)) fun x26 =>
xl (up1 v22 (k0 + 1) x26.toNatClampNeg a1) fun v27 =>
xl (x17 + (1 : Int32)) fun x29 =>
xl (up1 v27 (k0 + 1) (41 : Int32).toNatClampNeg x29) fun v30 =>
xl (v30.1 (k0 + 1) (41 : Int32).toNatClampNeg) fun x31 =>
(x31, v30))))
set_option maxHeartbeats 4000000 in
set_option maxRecDepth 100000 in
theorem c_X8_see (l : Launch) (w : Wp) (g : Nat → Nat → Int32) (v : St) (k0 : Nat) (a0 : Int32) (a1 : Int32) (hq : Inj w) (hw : WF (wk w) g v) (h_k0 : oM w k0) : CTi w l yX8_see (wsy yX8_see prog_10_method_76_code 3 (some .int)) (rmL 2) [.ref (wq w k0), .int a0, .int a1] v (fun (r : Int32) (u : St) => (WF (wk w) g u ∧ True) ∧ ((r, u) = F_X8_see k0 a0 a1 v) ∧ (∀ k j : Nat, ¬ (k = k0 + 1) → u.1 k j = v.1 k j)) := by
  generalize hpost : (fun (r : Int32) (u : St) => (WF (wk w) g u ∧ True) ∧ ((r, u) = F_X8_see k0 a0 a1 v) ∧ (∀ k j : Nat, ¬ (k = k0 + 1) → u.1 k j = v.1 k j)) = post
  refine CTi.of prog_10_method_76_code 3 (some .int) "StarWalkModel" (by decide +kernel) rfl hq hw (Nat.le_of_ble_eq_true rfl) ?_
  intro pg en s m ar bl me cd ls E I hr hlk hl
  have hx := E.1.1
  have hb := E.1.2.1
  have hl : lv_has ls 3 [(0, .ref (wq w k0)), (1, .int a0), (2, .int a1)] := hl
  obtain ⟨res, hres⟩ : ∃ z, z = F_X8_see k0 a0 a1 v := ⟨_, rfl⟩
  have hF := hres.symm
  unfold F_X8_see at hF
  replace hres : res = F_X8_see k0 a0 a1 v := hres
  have rz0 : ∀ k j : Nat, ¬ (k = k0 + 1) → v.1 k j = v.1 k j := fun _ _ _ => rfl
  refine lv_iload_n hx hb dX8_see_0 rfl (lv_at hl 1 rfl) ?_
  refine lv_i2l (v := a0.toInt64) hx hb dX8_see_1 rfl ?_
  refine lv_lconst (v := 0) hx hb dX8_see_2 (by decide) ?_
  refine lv_ldc2 (own := "StarWalkModel") hx hb E.1.2.2.2.1 (Ew E mw_6_76 rfl) dX8_see_3 ?_
  refine cSi E I (c_X8_in l w g v a0.toInt64 (0 : Int64) (8 : Int64) E.2.2.1 I.2.2   ) (va_cwS 3 E.1.2.2.2.2 (gSs mw_5_29 mw_5_30 mw_1_9 mw_5_31) rfl rfl rfl (by decide +kernel) ⟨by decide, by decide⟩) rfl hl.1 rfl (Nat.le_of_ble_eq_true rfl) dX8_see_6 ⟨Nat.le_refl _, Nat.le_refl _⟩ (fun r2 u3 H lo hp hPS => ?_)
  have iz4 := i64_of a0
  have iz5 : (0 : Int64).toInt = 0 := rfl
  have iz6 : (8 : Int64).toInt = 8 := rfl
  obtain ⟨hp, hex, hfr⟩ := hp
  replace hF := xl_i hex hF
  obtain ⟨hu, p7⟩ := hp
  rw [hu] at hPS
  have I : Wo w g s.heap v H lo := ⟨hPS.1, hPS.2, I.2.2⟩
  refine bz_eq E (a := r2.toInt) rfl (tgt := 26) dX8_see_9 (by decide) (fun c8 => ?_) (fun c8 => ?_)
  ·
    replace hF := if_t c8 hF
    refine lv_iconst (v := (-1)) hx hb dX8_see_26 (by decide) ?_
    exact rI E I hr hlk rfl (by rw [← hpost]; exact ⟨⟨I.2.2, trivial⟩, hF.trans hres, rz0⟩) dX8_see_27
  ·
    replace hF := if_f c8 hF
    refine lv_iload_n hx hb dX8_see_12 rfl (lv_at hl 2 rfl) ?_
    refine lv_i2l (v := a1.toInt64) hx hb dX8_see_13 rfl ?_
    refine lv_ldc2 (own := "StarWalkModel") hx hb E.1.2.2.2.1 (Ew E mw_6_77 rfl) dX8_see_14 ?_
    refine lv_ldc2 (own := "StarWalkModel") hx hb E.1.2.2.2.1 (Ew E mw_5_154 rfl) dX8_see_17 ?_
    refine cSi E I (c_X8_in l w g v a1.toInt64 (-99 : Int64) (99 : Int64) E.2.2.1 I.2.2   ) (va_cwS 3 E.1.2.2.2.2 (gSs mw_5_29 mw_5_30 mw_1_9 mw_5_31) rfl rfl rfl (by decide +kernel) ⟨by decide, by decide⟩) rfl hl.1 rfl (Nat.le_of_ble_eq_true rfl) dX8_see_20 ⟨Nat.le_refl _, Nat.le_refl _⟩ (fun r10 u11 H lo hp hPS => ?_)
    have iz12 := i64_of a1
    have iz13 : (-99 : Int64).toInt = -99 := rfl
    have iz14 : (99 : Int64).toInt = 99 := rfl
    obtain ⟨hp, hex, hfr⟩ := hp
    replace hF := xl_i hex hF
    obtain ⟨hu, p15⟩ := hp
    rw [hu] at hPS
    have I : Wo w g s.heap v H lo := ⟨hPS.1, hPS.2, I.2.2⟩
    refine bz_ne E (a := r10.toInt) rfl (tgt := 28) dX8_see_23 (by decide) (fun c16 => ?_) (fun c16 => ?_)
    ·
      replace hF := if_f c16 hF
      refine lv_aload_n hx hb dX8_see_28 rfl (lv_at hl 0 rfl) ?_
      refine g_StarWalkModel_st E I h_k0.1 mw_4_170 dX8_see_29 ?_
      refine lv_bipush (v := 41) hx hb dX8_see_32 (by decide) ?_
      refine ga_30 E I h_k0.2.1 (by decide) dX8_see_34 ?_
      refine lv_topi (fun x17 ex17 => ?_)
      replace hF := xl_i (ex17) hF
      have hx17 : 0 ≤ x17.toInt ∧ x17.toInt ≤ 6 := by have h := ra_30 I h_k0.2.1 41; rw [ex17]; exact h.2.2.2.2 rfl
      refine lv_bipush (v := 6) hx hb dX8_see_35 (by decide) ?_
      refine bi_ne E (a := x17.toInt) (b := 6) rfl rfl (tgt := 43) dX8_see_37 (by decide) (fun c18 => ?_) (fun c18 => ?_)
      ·
        replace hF := if_f c18 hF
        refine lv_aload_n hx hb dX8_see_43 rfl (lv_at hl 0 rfl) ?_
        refine g_StarWalkModel_st E I h_k0.1 mw_4_170 dX8_see_44 ?_
        refine lv_bipush (v := 42) hx hb dX8_see_47 (by decide) ?_
        refine lv_iconst (v := 2) hx hb dX8_see_49 (by decide) ?_
        refine lv_aload_n hx hb dX8_see_50 rfl (lv_at hl 0 rfl) ?_
        refine g_StarWalkModel_st E I h_k0.1 mw_4_170 dX8_see_51 ?_
        refine lv_bipush (v := 41) hx hb dX8_see_54 (by decide) ?_
        refine ga_30 E I h_k0.2.1 (by decide) dX8_see_56 ?_
        refine lv_topi (fun x19 ex19 => ?_)
        obtain rfl : x17 = x19 := ex17.symm.symm.trans ex19.symm
        refine lv_imul hx hb dX8_see_57 ?_
        refine lv_topi (fun x20 ex20 => ?_)
        replace hF := xl_i (ex20) hF
        have hx20 : x20.toInt = 2 * x17.toInt := by rw [ex20]; exact mlI (a := 2) (b := x17.toInt) rfl rfl (by omega) (by omega)
        refine lv_iadd hx hb dX8_see_58 ?_
        refine lv_topi (fun x21 ex21 => ?_)
        replace hF := xl_i (ex21) hF
        have hx21 : x21.toInt = 42 + x20.toInt := by rw [ex21]; exact adI (a := 42) (b := x20.toInt) rfl rfl (by omega) (by omega)
        refine lv_iload_n hx hb dX8_see_59 rfl (lv_at hl 1 rfl) ?_
        refine pa_30 E I h_k0.2.1 (by omega) (by have ci := cnI (x := x21) (by omega); simp only [okk]; omega) dX8_see_60 (fun H lo I => ?_)
        generalize ev22 : up1 v (k0 + 1) x21.toNatClampNeg a0 = v22 at I
        replace hF := xl_i (ev22.symm) hF
        have mv22_0 : v22.1 (k0 + 1) 41 = x17 := by rw [← ev22, up1_n _ _ (Or.inr (by have := cnI (x := x21) (by omega); omega))] <;> exact ex17.symm
        have rzv22 : ∀ k j : Nat, ¬ (k = k0 + 1) → v22.1 k j = v.1 k j := fun k j h => fz_u ev22 (by have czx21 := cnI (x := x21) (by omega); omega) (rz0 k j h)
        refine lv_aload_n hx hb dX8_see_61 rfl (lv_at hl 0 rfl) ?_
        refine g_StarWalkModel_st E I h_k0.1 mw_4_170 dX8_see_62 ?_
        refine lv_bipush (v := 42) hx hb dX8_see_65 (by decide) ?_
        refine lv_iconst (v := 2) hx hb dX8_see_67 (by decide) ?_
        refine lv_aload_n hx hb dX8_see_68 rfl (lv_at hl 0 rfl) ?_
        refine g_StarWalkModel_st E I h_k0.1 mw_4_170 dX8_see_69 ?_
        refine lv_bipush (v := 41) hx hb dX8_see_72 (by decide) ?_
        refine ga_30 E I h_k0.2.1 (by decide) dX8_see_74 ?_
        refine lv_topi (fun x23 ex23 => ?_)
        obtain rfl : x17 = x23 := mv22_0.symm.trans ex23.symm
        refine lv_imul hx hb dX8_see_75 ?_
        refine lv_topi (fun x24 ex24 => ?_)
        obtain rfl : x20 = x24 := ex20.trans ex24.symm
        refine lv_iadd hx hb dX8_see_76 ?_
        refine lv_topi (fun x25 ex25 => ?_)
        obtain rfl : x21 = x25 := ex21.trans ex25.symm
        refine lv_iconst (v := 1) hx hb dX8_see_77 (by decide) ?_
        refine lv_iadd hx hb dX8_see_78 ?_
        refine lv_topi (fun x26 ex26 => ?_)
        replace hF := xl_i (ex26) hF
        have hx26 : x26.toInt = x21.toInt + 1 := by rw [ex26]; exact adI (a := x21.toInt) (b := 1) rfl rfl (by omega) (by omega)
        refine lv_iload_n hx hb dX8_see_79 rfl (lv_at hl 2 rfl) ?_
        refine pa_30 E I h_k0.2.1 (by omega) (by have ci := cnI (x := x26) (by omega); simp only [okk]; omega) dX8_see_80 (fun H lo I => ?_)
        generalize ev27 : up1 v22 (k0 + 1) x26.toNatClampNeg a1 = v27 at I
        replace hF := xl_i (ev27.symm) hF
        have mv27_0 : v27.1 (k0 + 1) 41 = x17 := by rw [← ev27, up1_n _ _ (Or.inr (by have := cnI (x := x26) (by omega); omega))] <;> exact mv22_0
        have rzv27 : ∀ k j : Nat, ¬ (k = k0 + 1) → v27.1 k j = v.1 k j := fun k j h => fz_u ev27 (by have czx26 := cnI (x := x26) (by omega); omega) (rzv22 k j h)
        refine lv_aload_n hx hb dX8_see_81 rfl (lv_at hl 0 rfl) ?_
        refine g_StarWalkModel_st E I h_k0.1 mw_4_170 dX8_see_82 ?_
        refine lv_bipush (v := 41) hx hb dX8_see_85 (by decide) ?_
        refine lv_dup2_11 hx hb dX8_see_87 rfl rfl ?_
        refine ga_30 E I h_k0.2.1 (by decide) dX8_see_88 ?_
        refine lv_topi (fun x28 ex28 => ?_)
        obtain rfl : x17 = x28 := mv27_0.symm.trans ex28.symm
        refine lv_iconst (v := 1) hx hb dX8_see_89 (by decide) ?_
        refine lv_iadd hx hb dX8_see_90 ?_
        refine lv_topi (fun x29 ex29 => ?_)
        replace hF := xl_i (ex29) hF
        have hx29 : x29.toInt = x17.toInt + 1 := by rw [ex29]; exact adI (a := x17.toInt) (b := 1) rfl rfl (by omega) (by omega)
        refine pa_30 E I h_k0.2.1 (by decide) (by have ci : (41 : Int32).toNatClampNeg = 41 := rfl; rw [ci]; simp only [okk]; omega) dX8_see_91 (fun H lo I => ?_)
        generalize ev30 : up1 v27 (k0 + 1) (41 : Int32).toNatClampNeg x29 = v30 at I
        replace hF := xl_i (ev30.symm) hF
        have rzv30 : ∀ k j : Nat, ¬ (k = k0 + 1) → v30.1 k j = v.1 k j := fun k j h => fz_u ev30 (by have cl41 : (41 : Int32).toNatClampNeg = 41 := rfl; omega) (rzv27 k j h)
        refine lv_aload_n hx hb dX8_see_92 rfl (lv_at hl 0 rfl) ?_
        refine g_StarWalkModel_st E I h_k0.1 mw_4_170 dX8_see_93 ?_
        refine lv_bipush (v := 41) hx hb dX8_see_96 (by decide) ?_
        refine ga_30 E I h_k0.2.1 (by decide) dX8_see_98 ?_
        refine lv_topi (fun x31 ex31 => ?_)
        replace hF := xl_i (ex31) hF
        have hx31 : 0 ≤ x31.toInt ∧ x31.toInt ≤ 6 := by have h := ra_30 I h_k0.2.1 41; rw [ex31]; exact h.2.2.2.2 rfl
        exact rI E I hr hlk rfl (by rw [← hpost]; exact ⟨⟨I.2.2, trivial⟩, hF.trans hres, rzv30⟩) dX8_see_99
      ·
        replace hF := if_t c18 hF
        refine lv_bipush (v := (-3)) hx hb dX8_see_40 (by decide) ?_
        exact rI E I hr hlk rfl (by rw [← hpost]; exact ⟨⟨I.2.2, trivial⟩, hF.trans hres, rz0⟩) dX8_see_42
    ·
      replace hF := if_t c16 hF
      refine lv_iconst (v := (-1)) hx hb dX8_see_26 (by decide) ?_
      exact rI E I hr hlk rfl (by rw [← hpost]; exact ⟨⟨I.2.2, trivial⟩, hF.trans hres, rz0⟩) dX8_see_27
def F_X8_forget (k0 : Nat) (a0 : Int32) (v : St) : Int32 × St :=
xl (v.1 (k0 + 1) (41 : Int32).toNatClampNeg) fun x2 =>
xl (F_X8_in a0.toInt64 (0 : Int64) x2.toInt64 v) fun r4 =>
if r4.toInt = 0 then (
((-1 : Int32), v)) else (
xm (F_X8_becomes k0 (41 : Int32) a0 v) fun r11 u12 =>
(r11, u12))
set_option maxHeartbeats 4000000 in
set_option maxRecDepth 100000 in
theorem c_X8_forget (l : Launch) (w : Wp) (g : Nat → Nat → Int32) (v : St) (k0 : Nat) (a0 : Int32) (hq : Inj w) (hw : WF (wk w) g v) (h_k0 : oM w k0) : CTi w l yX8_forget (wsy yX8_forget prog_10_method_77_code 2 (some .int)) (rmL 2) [.ref (wq w k0), .int a0] v (fun (r : Int32) (u : St) => (WF (wk w) g u ∧ True) ∧ ((r, u) = F_X8_forget k0 a0 v) ∧ (∀ k j : Nat, ¬ (k = k0 + 1) → u.1 k j = v.1 k j)) := by
  generalize hpost : (fun (r : Int32) (u : St) => (WF (wk w) g u ∧ True) ∧ ((r, u) = F_X8_forget k0 a0 v) ∧ (∀ k j : Nat, ¬ (k = k0 + 1) → u.1 k j = v.1 k j)) = post
  refine CTi.of prog_10_method_77_code 2 (some .int) "StarWalkModel" (by decide +kernel) rfl hq hw (Nat.le_of_ble_eq_true rfl) ?_
  intro pg en s m ar bl me cd ls E I hr hlk hl
  have hx := E.1.1
  have hb := E.1.2.1
  have hl : lv_has ls 2 [(0, .ref (wq w k0)), (1, .int a0)] := hl
  obtain ⟨res, hres⟩ : ∃ z, z = F_X8_forget k0 a0 v := ⟨_, rfl⟩
  have hF := hres.symm
  unfold F_X8_forget at hF
  replace hres : res = F_X8_forget k0 a0 v := hres
  have rz0 : ∀ k j : Nat, ¬ (k = k0 + 1) → v.1 k j = v.1 k j := fun _ _ _ => rfl
  refine lv_iload_n hx hb dX8_forget_0 rfl (lv_at hl 1 rfl) ?_
  refine lv_i2l (v := a0.toInt64) hx hb dX8_forget_1 rfl ?_
  refine lv_lconst (v := 0) hx hb dX8_forget_2 (by decide) ?_
  refine lv_aload_n hx hb dX8_forget_3 rfl (lv_at hl 0 rfl) ?_
  refine g_StarWalkModel_st E I h_k0.1 mw_4_170 dX8_forget_4 ?_
  refine lv_bipush (v := 41) hx hb dX8_forget_7 (by decide) ?_
  refine ga_30 E I h_k0.2.1 (by decide) dX8_forget_9 ?_
  refine lv_topi (fun x2 ex2 => ?_)
  replace hF := xl_i (ex2) hF
  have hx2 : 0 ≤ x2.toInt ∧ x2.toInt ≤ 6 := by have h := ra_30 I h_k0.2.1 41; rw [ex2]; exact h.2.2.2.2 rfl
  refine lv_i2l (v := x2.toInt64) hx hb dX8_forget_10 rfl ?_
  refine cSi E I (c_X8_in l w g v a0.toInt64 (0 : Int64) x2.toInt64 E.2.2.1 I.2.2   ) (va_cwS 3 E.1.2.2.2.2 (gSs mw_5_29 mw_5_30 mw_1_9 mw_5_31) rfl rfl rfl (by decide +kernel) ⟨by decide, by decide⟩) rfl hl.1 rfl (Nat.le_of_ble_eq_true rfl) dX8_forget_11 ⟨Nat.le_refl _, Nat.le_refl _⟩ (fun r4 u5 H lo hp hPS => ?_)
  have iz6 := i64_of a0
  have iz7 : (0 : Int64).toInt = 0 := rfl
  have iz8 := i64_of x2
  obtain ⟨hp, hex, hfr⟩ := hp
  replace hF := xl_i hex hF
  obtain ⟨hu, p9⟩ := hp
  rw [hu] at hPS
  have I : Wo w g s.heap v H lo := ⟨hPS.1, hPS.2, I.2.2⟩
  refine bz_eq E (a := r4.toInt) rfl (tgt := 27) dX8_forget_14 (by decide) (fun c10 => ?_) (fun c10 => ?_)
  ·
    replace hF := if_t c10 hF
    refine lv_iconst (v := (-1)) hx hb dX8_forget_27 (by decide) ?_
    exact rI E I hr hlk rfl (by rw [← hpost]; exact ⟨⟨I.2.2, trivial⟩, hF.trans hres, rz0⟩) dX8_forget_28
  ·
    replace hF := if_f c10 hF
    refine lv_aload_n hx hb dX8_forget_17 rfl (lv_at hl 0 rfl) ?_
    refine lv_bipush (v := 41) hx hb dX8_forget_18 (by decide) ?_
    refine lv_iload_n hx hb dX8_forget_20 rfl (lv_at hl 1 rfl) ?_
    refine cVi E I (c_X8_becomes l w g v k0 (41 : Int32) a0 E.2.2.1 I.2.2 h_k0 (by decide) (by have ci : (41 : Int32).toNatClampNeg = 41 := rfl; rw [ci]; simp only [okk]; omega)) (cwV 2 E.1.2.2.2.2 (gWs (C := "StarWalkModel") mw_5_155 mw_5_157 mw_s_47 mw_1_9 mw_5_158) rfl rfl rfl (by decide +kernel) ⟨by decide, by decide⟩) h_k0.1.1 ((ce_o h_k0.1.2).trans rfl) rfl rfl hl.1 rfl (Nat.le_of_ble_eq_true rfl) dX8_forget_21 ⟨Nat.le_refl _, Nat.le_refl _⟩ (fun r11 u12 H lo hp hPS => ?_)
    obtain ⟨hp, hex, hfr⟩ := hp
    replace hF := xm_i hex hF
    obtain ⟨hwf, p13⟩ := hp
    have I : Wo w g s.heap u12 H lo := ⟨hPS.1, hPS.2, hwf⟩
    have rzu12 : ∀ k j : Nat, ¬ (k = k0 + 1) → u12.1 k j = v.1 k j := fun k j h => (hfr k j (fun z => h (by omega))).trans (rz0 k j h)
    refine lv_goto (tgt := 28) hx hb dX8_forget_24 (by decide) ?_
    exact rI E I hr hlk rfl (by rw [← hpost]; exact ⟨⟨I.2.2, trivial⟩, hF.trans hres, rzu12⟩) dX8_forget_28
def F_X8_isSo (k0 : Nat) (v : St) : Int32 × St :=
xl (fun (self_4 : Int32 → Int32 → St → Int32 × St) (y4_1 : Int32) (y4_2 : Int32) (v_4 : St) =>
xl (fun (y102_1 : Int32) (v_102 : St) =>
xl (y4_2 + 1) fun x1 =>
(self_4 y102_1 x1 v_102)) fun J_102 =>
xl (fun (self_12 : Int32 → Int32 → St → Int32 × St) (y12_1 : Int32) (y12_3 : Int32) (v_12 : St) =>
xl (fun (z70_0 : Int32) (v_70 : St) =>
xl (y12_3 + 1) fun x2 =>
(self_12 z70_0 x2 v_70)) fun J_70 =>
xl (fun (v_69 : St) =>
(J_70 (0 : Int32) v_69)) fun J_69 =>
xl (fun (v_65 : St) =>
(J_70 (1 : Int32) v_65)) fun J_65 =>
xl (v_12.1 (k0 + 1) (41 : Int32).toNatClampNeg) fun x3 =>
if y12_3.toInt < x3.toInt then (
if y12_1.toInt = 0 then (
(J_69 v_12)) else (
xl ((2 : Int32) * y12_3) fun x13 =>
xl ((42 : Int32) + x13) fun x14 =>
xl (v_12.1 (k0 + 1) x14.toNatClampNeg) fun x15 =>
if x15.toInt = y4_2.toInt then (
xl (v_12.1 (k0 + 2) (31 : Int32).toNatClampNeg) fun x17 =>
xl (x14 + (1 : Int32)) fun x20 =>
xl (v_12.1 (k0 + 1) x20.toNatClampNeg) fun x21 =>
if x17.toInt = x21.toInt then (
(J_65 v_12)) else (
(J_69 v_12))) else (
(J_65 v_12)))) else (
xl (v_12.1 (k0 + 2) (32 : Int32).toNatClampNeg) fun x5 =>
if y4_2.toInt < x5.toInt then (
xl ((33 : Int32) + y4_2) fun x7 =>
xl (v_12.1 (k0 + 2) x7.toNatClampNeg) fun x8 =>
xm (F_X8_steps k0 x8 v_12) fun r9 u10 =>
(J_102 y12_1 u10)) else (
(J_102 y12_1 v_12)))) fun P_12 =>
if 8 < y4_2.toInt then (
(y4_1, v_4)) else (
(lp P_12 (fun _ _ _ => ((0 : Int32), v)) ((2147483647 - (0 : Int32).toInt).toNat + 1) y4_1 (0 : Int32) v_4))) fun P_4 =>
(lp P_4 (fun _ _ _ => ((0 : Int32), v)) ((2147483647 - (0 : Int32).toInt).toNat + 1) (1 : Int32) (0 : Int32) v)
set_option maxHeartbeats 4000000 in
set_option maxRecDepth 100000 in
theorem c_X8_isSo (l : Launch) (w : Wp) (g : Nat → Nat → Int32) (v : St) (k0 : Nat) (hq : Inj w) (hw : WF (wk w) g v) (h_k0 : oM w k0) : CTi w l yX8_isSo (wsy yX8_isSo prog_10_method_78_code 4 (some .boolean)) (rmL 5) [.ref (wq w k0)] v (fun (r : Int32) (u : St) => (WF (wk w) g u ∧ 0 ≤ r.toInt ∧ r.toInt ≤ 1) ∧ ((r, u) = F_X8_isSo k0 v) ∧ (∀ k j : Nat, ¬ (k = k0 + 2 ∨ (k = k0 ∧ 19 ≤ j ∧ j ≤ 20)) → u.1 k j = v.1 k j)) := by
  generalize hpost : (fun (r : Int32) (u : St) => (WF (wk w) g u ∧ 0 ≤ r.toInt ∧ r.toInt ≤ 1) ∧ ((r, u) = F_X8_isSo k0 v) ∧ (∀ k j : Nat, ¬ (k = k0 + 2 ∨ (k = k0 ∧ 19 ≤ j ∧ j ≤ 20)) → u.1 k j = v.1 k j)) = post
  refine CTi.of prog_10_method_78_code 4 (some .boolean) "StarWalkModel" (by decide +kernel) rfl hq hw (Nat.le_of_ble_eq_true rfl) ?_
  intro pg en s m ar bl me cd ls E I hr hlk hl
  have hx := E.1.1
  have hb := E.1.2.1
  have hl : lv_has ls 4 [(0, .ref (wq w k0))] := hl
  obtain ⟨res, hres⟩ : ∃ z, z = F_X8_isSo k0 v := ⟨_, rfl⟩
  have hF := hres.symm
  unfold F_X8_isSo at hF
  replace hres : res = F_X8_isSo k0 v := hres
  have rz0 : ∀ k j : Nat, ¬ (k = k0 + 2 ∨ (k = k0 ∧ 19 ≤ j ∧ j ≤ 20)) → v.1 k j = v.1 k j := fun _ _ _ => rfl
  obtain ⟨P_4, eP_4, hF⟩ := xl_e hF
  have L_4 : ∀ (n : Nat), ∀ (H : Heap) (lo : List Loc) (v_4 : St), Wo w g s.heap v_4 H lo → ∀ (y4_1 : Int32) (y4_2 : Int32), (0 ≤ y4_1.toInt ∧ y4_1.toInt ≤ 1) → (0 ≤ y4_2.toInt ∧ y4_2.toInt ≤ 9) → (∀ k j : Nat, ¬ (k = k0 + 2 ∨ (k = k0 ∧ 19 ≤ j ∧ j ≤ 20)) → v_4.1 k j = v.1 k j) → (lp P_4 (fun _ _ _ => ((0 : Int32), v)) n y4_1 y4_2 v_4 = res) → (2147483647 - y4_2.toInt).toNat < n → ∀ (ls : Array Slot), lv_has ls 4 [(0, .ref (wq w k0)), (1, .int y4_1), (2, .int y4_2)] → W pg l en (rmL 5) s m ar bl me cd H lo 0 0 (Zi w bl ar s post) (F0 m 4 ls []) := by
    intro n
    induction n with
    | zero => intro H lo v_4 I y4_1 y4_2 hy4_1 hy4_2 rB4_Z hF hm; exact absurd hm (Nat.not_lt_zero _)
    | succ n ih_4 =>
      intro H lo v_4 I y4_1 y4_2 hy4_1 hy4_2 rB4_Z hF hm ls hl
      replace hF := lpa3 eP_4 hF
      obtain ⟨J_102, eJ_102, hF⟩ := xl_e hF
      have B_102 : ∀ (H : Heap) (lo : List Loc) (v_102 : St), Wo w g s.heap v_102 H lo → ∀ (y102_1 : Int32), (0 ≤ y102_1.toInt ∧ y102_1.toInt ≤ 1) → (0 ≤ y4_2.toInt ∧ y4_2.toInt ≤ 8) → (∀ k j : Nat, ¬ (k = k0 + 2 ∨ (k = k0 ∧ 19 ≤ j ∧ j ≤ 20)) → v_102.1 k j = v.1 k j) → (J_102 y102_1 v_102 = res) → ∀ (ls : Array Slot), lv_has ls 4 [(0, .ref (wq w k0)), (1, .int y102_1), (2, .int y4_2)] → W pg l en (rmL 5) s m ar bl me cd H lo 0 0 (Zi w bl ar s post) (F0 m 102 ls []) := by
        intro H lo v_102 I y102_1 hy102_1 hE102_0 rB102_Z hF ls hl
        replace hF := ap2 eJ_102 hF
        obtain ⟨x1, ex1⟩ : ∃ z : Int32, z = y4_2 + 1 := ⟨_, rfl⟩
        replace hF := xl_i (ex1) hF
        have hx1 : x1.toInt = y4_2.toInt + (1) := by rw [ex1]; exact adI (a := y4_2.toInt) (b := 1) rfl rfl (by omega) (by omega)
        refine lv_iinc (v := x1) (lv' := [(2, .int x1), (0, .ref (wq w k0)), (1, .int y102_1)]) hx hb dX8_isSo_102 hl (k := 2) rfl (by rw [ex1]; rfl) (by decide) rfl (fun ls hl => ?_)
        refine lv_goto (tgt := 4) hx hb dX8_isSo_105 (by decide) ?_
        exact ih_4 _ _ v_102 I y102_1 x1 (by omega) (by omega) rB102_Z hF (by omega) ls (lv_sub hl [1, 2, 0] rfl)
      obtain ⟨P_12, eP_12, hF⟩ := xl_e hF
      have L_12 : ∀ (n : Nat), ∀ (H : Heap) (lo : List Loc) (v_12 : St), Wo w g s.heap v_12 H lo → ∀ (y12_1 : Int32) (y12_3 : Int32), (0 ≤ y12_1.toInt ∧ y12_1.toInt ≤ 1) → (0 ≤ y12_3.toInt ∧ y12_3.toInt ≤ 6) → (0 ≤ y4_2.toInt ∧ y4_2.toInt ≤ 8) → (∀ k j : Nat, ¬ (k = k0 + 2 ∨ (k = k0 ∧ 19 ≤ j ∧ j ≤ 20)) → v_12.1 k j = v.1 k j) → (lp P_12 (fun _ _ _ => ((0 : Int32), v)) n y12_1 y12_3 v_12 = res) → (2147483647 - y12_3.toInt).toNat < n → ∀ (ls : Array Slot), lv_has ls 4 [(0, .ref (wq w k0)), (1, .int y12_1), (2, .int y4_2), (3, .int y12_3)] → W pg l en (rmL 5) s m ar bl me cd H lo 0 0 (Zi w bl ar s post) (F0 m 12 ls []) := by
        intro n
        induction n with
        | zero => intro H lo v_12 I y12_1 y12_3 hy12_1 hy12_3 hE12_0 rB12_Z hF hm; exact absurd hm (Nat.not_lt_zero _)
        | succ n ih_12 =>
          intro H lo v_12 I y12_1 y12_3 hy12_1 hy12_3 hE12_0 rB12_Z hF hm ls hl
          replace hF := lpa3 eP_12 hF
          obtain ⟨J_70, eJ_70, hF⟩ := xl_e hF
          have B_70 : ∀ (H : Heap) (lo : List Loc) (v_70 : St), Wo w g s.heap v_70 H lo → ∀ (z70_0 : Int32), (0 ≤ z70_0.toInt ∧ z70_0.toInt ≤ 1) → (0 ≤ y12_3.toInt ∧ y12_3.toInt ≤ 5) → (0 ≤ y4_2.toInt ∧ y4_2.toInt ≤ 8) → (∀ k j : Nat, ¬ (k = k0 + 2 ∨ (k = k0 ∧ 19 ≤ j ∧ j ≤ 20)) → v_70.1 k j = v.1 k j) → (J_70 z70_0 v_70 = res) → ∀ (ls : Array Slot), lv_has ls 4 [(0, .ref (wq w k0)), (2, .int y4_2), (3, .int y12_3)] → W pg l en (rmL 5) s m ar bl me cd H lo 0 0 (Zi w bl ar s post) (F0 m 70 ls [.int z70_0]) := by
            intro H lo v_70 I z70_0 hz70_0 hE70_0 hE70_1 rB70_Z hF ls hl
            replace hF := ap2 eJ_70 hF
            refine lv_istore_n (lv' := [(1, .int z70_0), (0, .ref (wq w k0)), (2, .int y4_2), (3, .int y12_3)]) hx hb dX8_isSo_70 rfl hl (by decide) rfl (fun ls hl => ?_)
            obtain ⟨x2, ex2⟩ : ∃ z : Int32, z = y12_3 + 1 := ⟨_, rfl⟩
            replace hF := xl_i (ex2) hF
            have hx2 : x2.toInt = y12_3.toInt + (1) := by rw [ex2]; exact adI (a := y12_3.toInt) (b := 1) rfl rfl (by omega) (by omega)
            refine lv_iinc (v := x2) (lv' := [(3, .int x2), (1, .int z70_0), (0, .ref (wq w k0)), (2, .int y4_2)]) hx hb dX8_isSo_71 hl (k := 3) rfl (by rw [ex2]; rfl) (by decide) rfl (fun ls hl => ?_)
            refine lv_goto (tgt := 12) hx hb dX8_isSo_74 (by decide) ?_
            exact ih_12 _ _ v_70 I z70_0 x2 (by omega) (by omega) (by omega) rB70_Z hF (by omega) ls (lv_sub hl [2, 1, 3, 0] rfl)
          obtain ⟨J_69, eJ_69, hF⟩ := xl_e hF
          have B_69 : ∀ (H : Heap) (lo : List Loc) (v_69 : St), Wo w g s.heap v_69 H lo → (0 ≤ y12_3.toInt ∧ y12_3.toInt ≤ 5) → (0 ≤ y4_2.toInt ∧ y4_2.toInt ≤ 8) → (∀ k j : Nat, ¬ (k = k0 + 2 ∨ (k = k0 ∧ 19 ≤ j ∧ j ≤ 20)) → v_69.1 k j = v.1 k j) → (J_69 v_69 = res) → ∀ (ls : Array Slot), lv_has ls 4 [(0, .ref (wq w k0)), (2, .int y4_2), (3, .int y12_3)] → W pg l en (rmL 5) s m ar bl me cd H lo 0 0 (Zi w bl ar s post) (F0 m 69 ls []) := by
            intro H lo v_69 I  hE69_0 hE69_1 rB69_Z hF ls hl
            replace hF := ap1 eJ_69 hF
            refine lv_iconst (v := 0) hx hb dX8_isSo_69 (by decide) ?_
            exact B_70 _ _ v_69 I (0 : Int32) (by decide) (by omega) (by omega) rB69_Z hF ls (lv_sub hl [0, 1, 2] rfl)
          obtain ⟨J_65, eJ_65, hF⟩ := xl_e hF
          have B_65 : ∀ (H : Heap) (lo : List Loc) (v_65 : St), Wo w g s.heap v_65 H lo → (0 ≤ y12_3.toInt ∧ y12_3.toInt ≤ 5) → (0 ≤ y4_2.toInt ∧ y4_2.toInt ≤ 8) → (∀ k j : Nat, ¬ (k = k0 + 2 ∨ (k = k0 ∧ 19 ≤ j ∧ j ≤ 20)) → v_65.1 k j = v.1 k j) → (J_65 v_65 = res) → ∀ (ls : Array Slot), lv_has ls 4 [(0, .ref (wq w k0)), (2, .int y4_2), (3, .int y12_3)] → W pg l en (rmL 5) s m ar bl me cd H lo 0 0 (Zi w bl ar s post) (F0 m 65 ls []) := by
            intro H lo v_65 I  hE65_0 hE65_1 rB65_Z hF ls hl
            replace hF := ap1 eJ_65 hF
            refine lv_iconst (v := 1) hx hb dX8_isSo_65 (by decide) ?_
            refine lv_goto (tgt := 70) hx hb dX8_isSo_66 (by decide) ?_
            exact B_70 _ _ v_65 I (1 : Int32) (by decide) (by omega) (by omega) rB65_Z hF ls (lv_sub hl [0, 1, 2] rfl)
          refine lv_iload_n hx hb dX8_isSo_12 rfl (lv_at hl 3 rfl) ?_
          refine lv_aload_n hx hb dX8_isSo_13 rfl (lv_at hl 0 rfl) ?_
          refine g_StarWalkModel_st E I h_k0.1 mw_4_170 dX8_isSo_14 ?_
          refine lv_bipush (v := 41) hx hb dX8_isSo_17 (by decide) ?_
          refine ga_30 E I h_k0.2.1 (by decide) dX8_isSo_19 ?_
          refine lv_topi (fun x3 ex3 => ?_)
          replace hF := xl_i (ex3) hF
          have hx3 : 0 ≤ x3.toInt ∧ x3.toInt ≤ 6 := by have h := ra_30 I h_k0.2.1 41; rw [ex3]; exact h.2.2.2.2 rfl
          refine bi_ge E (a := y12_3.toInt) (b := x3.toInt) rfl rfl (tgt := 77) dX8_isSo_20 (by decide) (fun c4 => ?_) (fun c4 => ?_)
          ·
            replace hF := if_l c4 hF
            refine lv_iload_n hx hb dX8_isSo_77 rfl (lv_at hl 2 rfl) ?_
            refine lv_aload_n hx hb dX8_isSo_78 rfl (lv_at hl 0 rfl) ?_
            refine g_StarWalkModel_at E I h_k0.1 mw_4_171 dX8_isSo_79 ?_
            refine lv_bipush (v := 32) hx hb dX8_isSo_82 (by decide) ?_
            refine ga_31 E I h_k0.2.2.1 (by decide) dX8_isSo_84 ?_
            refine lv_topi (fun x5 ex5 => ?_)
            replace hF := xl_i (ex5) hF
            have hx5 : 0 ≤ x5.toInt ∧ x5.toInt ≤ 8 := by have h := ra_31 I h_k0.2.2.1 32; rw [ex5]; exact h.2.2.1 rfl
            refine bi_ge E (a := y4_2.toInt) (b := x5.toInt) rfl rfl (tgt := 102) dX8_isSo_85 (by decide) (fun c6 => ?_) (fun c6 => ?_)
            ·
              replace hF := if_l c6 hF
              exact B_102 _ _ v_12 I y12_1 (by omega) (by omega) rB12_Z hF ls (lv_sub hl [0, 1, 2] rfl)
            ·
              replace hF := if_t c6 hF
              refine lv_aload_n hx hb dX8_isSo_88 rfl (lv_at hl 0 rfl) ?_
              refine lv_aload_n hx hb dX8_isSo_89 rfl (lv_at hl 0 rfl) ?_
              refine g_StarWalkModel_at E I h_k0.1 mw_4_171 dX8_isSo_90 ?_
              refine lv_bipush (v := 33) hx hb dX8_isSo_93 (by decide) ?_
              refine lv_iload_n hx hb dX8_isSo_95 rfl (lv_at hl 2 rfl) ?_
              refine lv_iadd hx hb dX8_isSo_96 ?_
              refine lv_topi (fun x7 ex7 => ?_)
              replace hF := xl_i (ex7) hF
              have hx7 : x7.toInt = 33 + y4_2.toInt := by rw [ex7]; exact adI (a := 33) (b := y4_2.toInt) rfl rfl (by omega) (by omega)
              refine ga_31 E I h_k0.2.2.1 (by omega) dX8_isSo_97 ?_
              refine lv_topi (fun x8 ex8 => ?_)
              replace hF := xl_i (ex8) hF
              have hx8 := ra_31 I h_k0.2.2.1 x7.toNatClampNeg
              rw [← ex8] at hx8
              have hx8 : 0 ≤ x8.toInt ∧ x8.toInt ≤ 6 := by
                have ci := cnI (x := x7) (by omega)
                simp only [okk] at hx8
                omega
              refine cVi E I (c_X8_steps l w g v_12 k0 x8 E.2.2.1 I.2.2 h_k0 (by omega) ) (cwV 1 E.1.2.2.2.2 (gWs (C := "StarWalkModel") mw_5_215 mw_5_217 mw_s_51 mw_1_9 mw_5_218) rfl rfl rfl (by decide +kernel) ⟨by decide, by decide⟩) h_k0.1.1 ((ce_o h_k0.1.2).trans rfl) rfl rfl hl.1 rfl (Nat.le_of_ble_eq_true rfl) dX8_isSo_98 ⟨Nat.le_refl _, Nat.le_refl _⟩ (fun r9 u10 H lo hp hPS => ?_)
              obtain ⟨hp, hex, hfr⟩ := hp
              replace hF := xm_i hex hF
              obtain ⟨hwf, p11⟩ := hp
              have I : Wo w g s.heap u10 H lo := ⟨hPS.1, hPS.2, hwf⟩
              have rzu10 : ∀ k j : Nat, ¬ (k = k0 + 2 ∨ (k = k0 ∧ 19 ≤ j ∧ j ≤ 20)) → u10.1 k j = v.1 k j := fun k j h => (hfr k j (fun z => h (by rcases z with z | z <;> omega))).trans (rB12_Z k j h)
              refine lv_pop hx hb dX8_isSo_101 rfl ?_
              exact B_102 _ _ u10 I y12_1 (by omega) (by omega) rzu10 hF ls (lv_sub hl [0, 1, 2] rfl)
          ·
            replace hF := if_t c4 hF
            refine lv_iload_n hx hb dX8_isSo_23 rfl (lv_at hl 1 rfl) ?_
            refine bz_eq E (a := y12_1.toInt) rfl (tgt := 69) dX8_isSo_24 (by decide) (fun c12 => ?_) (fun c12 => ?_)
            ·
              replace hF := if_t c12 hF
              exact B_69 _ _ v_12 I  (by omega) (by omega) rB12_Z hF ls (lv_sub hl [0, 2, 3] rfl)
            ·
              replace hF := if_f c12 hF
              refine lv_aload_n hx hb dX8_isSo_27 rfl (lv_at hl 0 rfl) ?_
              refine g_StarWalkModel_st E I h_k0.1 mw_4_170 dX8_isSo_28 ?_
              refine lv_bipush (v := 42) hx hb dX8_isSo_31 (by decide) ?_
              refine lv_iconst (v := 2) hx hb dX8_isSo_33 (by decide) ?_
              refine lv_iload_n hx hb dX8_isSo_34 rfl (lv_at hl 3 rfl) ?_
              refine lv_imul hx hb dX8_isSo_35 ?_
              refine lv_topi (fun x13 ex13 => ?_)
              replace hF := xl_i (ex13) hF
              have hx13 : x13.toInt = 2 * y12_3.toInt := by rw [ex13]; exact mlI (a := 2) (b := y12_3.toInt) rfl rfl (by omega) (by omega)
              refine lv_iadd hx hb dX8_isSo_36 ?_
              refine lv_topi (fun x14 ex14 => ?_)
              replace hF := xl_i (ex14) hF
              have hx14 : x14.toInt = 42 + x13.toInt := by rw [ex14]; exact adI (a := 42) (b := x13.toInt) rfl rfl (by omega) (by omega)
              refine ga_30 E I h_k0.2.1 (by omega) dX8_isSo_37 ?_
              refine lv_topi (fun x15 ex15 => ?_)
              replace hF := xl_i (ex15) hF
              refine lv_iload_n hx hb dX8_isSo_38 rfl (lv_at hl 2 rfl) ?_
              refine bi_ne E (a := x15.toInt) (b := y4_2.toInt) rfl rfl (tgt := 65) dX8_isSo_39 (by decide) (fun c16 => ?_) (fun c16 => ?_)
              ·
                replace hF := if_f c16 hF
                exact B_65 _ _ v_12 I  (by omega) (by omega) rB12_Z hF ls (lv_sub hl [0, 2, 3] rfl)
              ·
                replace hF := if_t c16 hF
                refine lv_aload_n hx hb dX8_isSo_42 rfl (lv_at hl 0 rfl) ?_
                refine g_StarWalkModel_at E I h_k0.1 mw_4_171 dX8_isSo_43 ?_
                refine lv_bipush (v := 31) hx hb dX8_isSo_46 (by decide) ?_
                refine ga_31 E I h_k0.2.2.1 (by decide) dX8_isSo_48 ?_
                refine lv_topi (fun x17 ex17 => ?_)
                replace hF := xl_i (ex17) hF
                refine lv_aload_n hx hb dX8_isSo_49 rfl (lv_at hl 0 rfl) ?_
                refine g_StarWalkModel_st E I h_k0.1 mw_4_170 dX8_isSo_50 ?_
                refine lv_bipush (v := 42) hx hb dX8_isSo_53 (by decide) ?_
                refine lv_iconst (v := 2) hx hb dX8_isSo_55 (by decide) ?_
                refine lv_iload_n hx hb dX8_isSo_56 rfl (lv_at hl 3 rfl) ?_
                refine lv_imul hx hb dX8_isSo_57 ?_
                refine lv_topi (fun x18 ex18 => ?_)
                obtain rfl : x13 = x18 := ex13.trans ex18.symm
                refine lv_iadd hx hb dX8_isSo_58 ?_
                refine lv_topi (fun x19 ex19 => ?_)
                obtain rfl : x14 = x19 := ex14.trans ex19.symm
                refine lv_iconst (v := 1) hx hb dX8_isSo_59 (by decide) ?_
                refine lv_iadd hx hb dX8_isSo_60 ?_
                refine lv_topi (fun x20 ex20 => ?_)
                replace hF := xl_i (ex20) hF
                have hx20 : x20.toInt = x14.toInt + 1 := by rw [ex20]; exact adI (a := x14.toInt) (b := 1) rfl rfl (by omega) (by omega)
                refine ga_30 E I h_k0.2.1 (by omega) dX8_isSo_61 ?_
                refine lv_topi (fun x21 ex21 => ?_)
                replace hF := xl_i (ex21) hF
                refine bi_ne E (a := x17.toInt) (b := x21.toInt) rfl rfl (tgt := 69) dX8_isSo_62 (by decide) (fun c22 => ?_) (fun c22 => ?_)
                ·
                  replace hF := if_f c22 hF
                  exact B_69 _ _ v_12 I  (by omega) (by omega) rB12_Z hF ls (lv_sub hl [0, 2, 3] rfl)
                ·
                  replace hF := if_t c22 hF
                  exact B_65 _ _ v_12 I  (by omega) (by omega) rB12_Z hF ls (lv_sub hl [0, 2, 3] rfl)
      refine lv_iload_n hx hb dX8_isSo_4 rfl (lv_at hl 2 rfl) ?_
      refine lv_bipush (v := 8) hx hb dX8_isSo_5 (by decide) ?_
      refine bi_gt E (a := y4_2.toInt) (b := 8) rfl rfl (tgt := 108) dX8_isSo_7 (by decide) (fun c23 => ?_) (fun c23 => ?_)
      ·
        replace hF := if_t c23 hF
        refine lv_iload_n hx hb dX8_isSo_108 rfl (lv_at hl 1 rfl) ?_
        exact rI E I hr hlk (nbI (by omega)) (by rw [← hpost]; exact ⟨⟨I.2.2, by omega⟩, hF.trans hres, rB4_Z⟩) dX8_isSo_109
      ·
        replace hF := if_l c23 hF
        refine lv_iconst (v := 0) hx hb dX8_isSo_10 (by decide) ?_
        refine lv_istore_n (lv' := [(3, .int 0), (0, .ref (wq w k0)), (1, .int y4_1), (2, .int y4_2)]) hx hb dX8_isSo_11 rfl hl (by decide) rfl (fun ls hl => ?_)
        exact L_12 ((2147483647 - (0 : Int32).toInt).toNat + 1) _ _ v_4 I y4_1 (0 : Int32) (by omega) (by decide) (by omega) rB4_Z hF (Nat.lt_succ_self _) ls (lv_sub hl [1, 2, 3, 0] rfl)
  refine lv_iconst (v := 1) hx hb dX8_isSo_0 (by decide) ?_
  refine lv_istore_n (lv' := [(1, .int 1), (0, .ref (wq w k0))]) hx hb dX8_isSo_1 rfl hl (by decide) rfl (fun ls hl => ?_)
  refine lv_iconst (v := 0) hx hb dX8_isSo_2 (by decide) ?_
  refine lv_istore_n (lv' := [(2, .int 0), (1, .int 1), (0, .ref (wq w k0))]) hx hb dX8_isSo_3 rfl hl (by decide) rfl (fun ls hl => ?_)
  exact L_4 ((2147483647 - (0 : Int32).toInt).toNat + 1) _ _ v I (1 : Int32) (0 : Int32) (by decide) (by decide) rz0 hF (Nat.lt_succ_self _) ls (lv_sub hl [2, 1, 0] rfl)
def F_X8_aims (k0 : Nat) (a0 : Int32) (v : St) : Int32 × St :=
xl (fun (self_25 : Int32 → Int32 → St → Int32 × St) (y25_2 : Int32) (y25_3 : Int32) (v_25 : St) =>
xl (fun (y65_2 : Int32) (v_65 : St) =>
xl (y25_3 + 1) fun x1 =>
(self_25 y65_2 x1 v_65)) fun J_65 =>
if y25_3.toInt < 7 then (
xl (F_X8_isAim k0 y25_3 v_25) fun r3 =>
if r3.toInt = 0 then (
(J_65 y25_2 v_25)) else (
xl (F_X8_starts k0 v_25) fun u7 =>
xl ((33 : Int32) + a0) fun x9 =>
xl (up1 u7 (k0 + 2) x9.toNatClampNeg y25_3) fun v10 =>
xm (F_X8_isSo k0 v10) fun r11 u12 =>
xl (F_X8_flag r11 u12) fun r14 =>
xl (r14 <<< (y25_3 &&& 31)) fun x17 =>
xl (y25_2 ||| x17) fun x18 =>
(J_65 x18 u12))) else (
(y25_2, v_25))) fun P_25 =>
xl (v.1 (k0 + 1) (32 : Int32).toNatClampNeg) fun x20 =>
xl (x20 - (1 : Int32)) fun x21 =>
xl (F_X8_in a0.toInt64 (0 : Int64) x21.toInt64 v) fun r23 =>
if r23.toInt = 0 then (
((-1 : Int32), v)) else (
(lp P_25 (fun _ _ _ => ((0 : Int32), v)) ((2147483647 - (0 : Int32).toInt).toNat + 1) (0 : Int32) (0 : Int32) v))
set_option maxHeartbeats 4000000 in
set_option maxRecDepth 100000 in
theorem c_X8_aims (l : Launch) (w : Wp) (g : Nat → Nat → Int32) (v : St) (k0 : Nat) (a0 : Int32) (hq : Inj w) (hw : WF (wk w) g v) (h_k0 : oM w k0) : CTi w l yX8_aims (wsy yX8_aims prog_10_method_79_code 4 (some .int)) (rmL 6) [.ref (wq w k0), .int a0] v (fun (r : Int32) (u : St) => (WF (wk w) g u ∧ True) ∧ ((r, u) = F_X8_aims k0 a0 v) ∧ (∀ k j : Nat, ¬ (k = k0 + 2 ∨ (k = k0 ∧ 19 ≤ j ∧ j ≤ 22)) → u.1 k j = v.1 k j)) := by
  generalize hpost : (fun (r : Int32) (u : St) => (WF (wk w) g u ∧ True) ∧ ((r, u) = F_X8_aims k0 a0 v) ∧ (∀ k j : Nat, ¬ (k = k0 + 2 ∨ (k = k0 ∧ 19 ≤ j ∧ j ≤ 22)) → u.1 k j = v.1 k j)) = post
  refine CTi.of prog_10_method_79_code 4 (some .int) "StarWalkModel" (by decide +kernel) rfl hq hw (Nat.le_of_ble_eq_true rfl) ?_
  intro pg en s m ar bl me cd ls E I hr hlk hl
  have hx := E.1.1
  have hb := E.1.2.1
  have hl : lv_has ls 4 [(0, .ref (wq w k0)), (1, .int a0)] := hl
  obtain ⟨res, hres⟩ : ∃ z, z = F_X8_aims k0 a0 v := ⟨_, rfl⟩
  have hF := hres.symm
  unfold F_X8_aims at hF
  replace hres : res = F_X8_aims k0 a0 v := hres
  have rz0 : ∀ k j : Nat, ¬ (k = k0 + 2 ∨ (k = k0 ∧ 19 ≤ j ∧ j ≤ 22)) → v.1 k j = v.1 k j := fun _ _ _ => rfl
  obtain ⟨P_25, eP_25, hF⟩ := xl_e hF
  have L_25 : ∀ (n : Nat), ∀ (H : Heap) (lo : List Loc) (v_25 : St), Wo w g s.heap v_25 H lo → ∀ (y25_2 : Int32) (y25_3 : Int32), (0 ≤ y25_3.toInt ∧ y25_3.toInt ≤ 7) → (0 ≤ a0.toInt ∧ a0.toInt ≤ 7) → (∀ k j : Nat, ¬ (k = k0 + 2 ∨ (k = k0 ∧ 19 ≤ j ∧ j ≤ 22)) → v_25.1 k j = v.1 k j) → (lp P_25 (fun _ _ _ => ((0 : Int32), v)) n y25_2 y25_3 v_25 = res) → (2147483647 - y25_3.toInt).toNat < n → ∀ (ls : Array Slot), lv_has ls 4 [(0, .ref (wq w k0)), (1, .int a0), (2, .int y25_2), (3, .int y25_3)] → W pg l en (rmL 6) s m ar bl me cd H lo 0 0 (Zi w bl ar s post) (F0 m 25 ls []) := by
    intro n
    induction n with
    | zero => intro H lo v_25 I y25_2 y25_3 hy25_3 hE25_0 rB25_Z hF hm; exact absurd hm (Nat.not_lt_zero _)
    | succ n ih_25 =>
      intro H lo v_25 I y25_2 y25_3 hy25_3 hE25_0 rB25_Z hF hm ls hl
      replace hF := lpa3 eP_25 hF
      obtain ⟨J_65, eJ_65, hF⟩ := xl_e hF
      have B_65 : ∀ (H : Heap) (lo : List Loc) (v_65 : St), Wo w g s.heap v_65 H lo → ∀ (y65_2 : Int32), (0 ≤ a0.toInt ∧ a0.toInt ≤ 7) → (0 ≤ y25_3.toInt ∧ y25_3.toInt ≤ 6) → (∀ k j : Nat, ¬ (k = k0 + 2 ∨ (k = k0 ∧ 19 ≤ j ∧ j ≤ 22)) → v_65.1 k j = v.1 k j) → (J_65 y65_2 v_65 = res) → ∀ (ls : Array Slot), lv_has ls 4 [(0, .ref (wq w k0)), (1, .int a0), (2, .int y65_2), (3, .int y25_3)] → W pg l en (rmL 6) s m ar bl me cd H lo 0 0 (Zi w bl ar s post) (F0 m 65 ls []) := by
        intro H lo v_65 I y65_2 hE65_0 hE65_1 rB65_Z hF ls hl
        replace hF := ap2 eJ_65 hF
        obtain ⟨x1, ex1⟩ : ∃ z : Int32, z = y25_3 + 1 := ⟨_, rfl⟩
        replace hF := xl_i (ex1) hF
        have hx1 : x1.toInt = y25_3.toInt + (1) := by rw [ex1]; exact adI (a := y25_3.toInt) (b := 1) rfl rfl (by omega) (by omega)
        refine lv_iinc (v := x1) (lv' := [(3, .int x1), (0, .ref (wq w k0)), (1, .int a0), (2, .int y65_2)]) hx hb dX8_aims_65 hl (k := 3) rfl (by rw [ex1]; rfl) (by decide) rfl (fun ls hl => ?_)
        refine lv_goto (tgt := 25) hx hb dX8_aims_68 (by decide) ?_
        exact ih_25 _ _ v_65 I y65_2 x1 (by omega) (by omega) rB65_Z hF (by omega) ls (lv_sub hl [1, 2, 3, 0] rfl)
      refine lv_iload_n hx hb dX8_aims_25 rfl (lv_at hl 3 rfl) ?_
      refine lv_bipush (v := 7) hx hb dX8_aims_26 (by decide) ?_
      refine bi_ge E (a := y25_3.toInt) (b := 7) rfl rfl (tgt := 71) dX8_aims_28 (by decide) (fun c2 => ?_) (fun c2 => ?_)
      ·
        replace hF := if_l c2 hF
        refine lv_iload_n hx hb dX8_aims_71 rfl (lv_at hl 2 rfl) ?_
        exact rI E I hr hlk rfl (by rw [← hpost]; exact ⟨⟨I.2.2, trivial⟩, hF.trans hres, rB25_Z⟩) dX8_aims_72
      ·
        replace hF := if_t c2 hF
        refine lv_aload_n hx hb dX8_aims_31 rfl (lv_at hl 0 rfl) ?_
        refine lv_iload_n hx hb dX8_aims_32 rfl (lv_at hl 3 rfl) ?_
        refine cVi E I (c_X8_isAim l w g v_25 k0 y25_3 E.2.2.1 I.2.2 h_k0  ) (cwV 1 E.1.2.2.2.2 (gWs (C := "StarWalkModel") mw_5_183 mw_5_185 mw_s_48 mw_1_9 mw_5_186) rfl rfl rfl (by decide +kernel) ⟨by decide, by decide⟩) h_k0.1.1 ((ce_o h_k0.1.2).trans rfl) rfl rfl hl.1 rfl (Nat.le_of_ble_eq_true rfl) dX8_aims_33 ⟨Nat.le_refl _, Nat.le_refl _⟩ (fun r3 u4 H lo hp hPS => ?_)
        obtain ⟨hp, hex, hfr⟩ := hp
        replace hF := xl_i hex hF
        obtain ⟨hu, p5⟩ := hp
        rw [hu] at hPS
        have I : Wo w g s.heap v_25 H lo := ⟨hPS.1, hPS.2, I.2.2⟩
        refine bz_eq E (a := r3.toInt) rfl (tgt := 65) dX8_aims_36 (by decide) (fun c6 => ?_) (fun c6 => ?_)
        ·
          replace hF := if_t c6 hF
          exact B_65 _ _ v_25 I y25_2 (by omega) (by omega) rB25_Z hF ls (lv_sub hl [0, 1, 2, 3] rfl)
        ·
          replace hF := if_f c6 hF
          refine lv_aload_n hx hb dX8_aims_39 rfl (lv_at hl 0 rfl) ?_
          refine cVv E I (c_X8_starts l w g v_25 k0 E.2.2.1 I.2.2 h_k0  ) (cwV 0 E.1.2.2.2.2 (gWs (C := "StarWalkModel") mw_5_108 mw_5_110 mw_s_42 mw_1_9 mw_5_111) rfl rfl rfl (by decide +kernel) ⟨by decide, by decide⟩) h_k0.1.1 ((ce_o h_k0.1.2).trans rfl) rfl rfl hl.1 rfl (Nat.le_of_ble_eq_true rfl) dX8_aims_40 ⟨Nat.le_refl _, Nat.le_refl _⟩ (fun u7 H lo hp hPS => ?_)
          obtain ⟨hp, hex, hfr⟩ := hp
          replace hF := xl_i hex hF
          obtain ⟨hwf, p8⟩ := hp
          have I : Wo w g s.heap u7 H lo := ⟨hPS.1, hPS.2, hwf⟩
          have rzu7 : ∀ k j : Nat, ¬ (k = k0 + 2 ∨ (k = k0 ∧ 19 ≤ j ∧ j ≤ 22)) → u7.1 k j = v.1 k j := fun k j h => (hfr k j (fun z => h (by omega))).trans (rB25_Z k j h)
          refine lv_aload_n hx hb dX8_aims_43 rfl (lv_at hl 0 rfl) ?_
          refine g_StarWalkModel_at E I h_k0.1 mw_4_171 dX8_aims_44 ?_
          refine lv_bipush (v := 33) hx hb dX8_aims_47 (by decide) ?_
          refine lv_iload_n hx hb dX8_aims_49 rfl (lv_at hl 1 rfl) ?_
          refine lv_iadd hx hb dX8_aims_50 ?_
          refine lv_topi (fun x9 ex9 => ?_)
          replace hF := xl_i (ex9) hF
          have hx9 : x9.toInt = 33 + a0.toInt := by rw [ex9]; exact adI (a := 33) (b := a0.toInt) rfl rfl (by omega) (by omega)
          refine lv_iload_n hx hb dX8_aims_51 rfl (lv_at hl 3 rfl) ?_
          refine pa_31 E I h_k0.2.2.1 (by omega) (by have ci := cnI (x := x9) (by omega); simp only [okk]; omega) dX8_aims_52 (fun H lo I => ?_)
          generalize ev10 : up1 u7 (k0 + 2) x9.toNatClampNeg y25_3 = v10 at I
          replace hF := xl_i (ev10.symm) hF
          have rzv10 : ∀ k j : Nat, ¬ (k = k0 + 2 ∨ (k = k0 ∧ 19 ≤ j ∧ j ≤ 22)) → v10.1 k j = v.1 k j := fun k j h => fz_u ev10 (by have czx9 := cnI (x := x9) (by omega); omega) (rzu7 k j h)
          refine lv_iload_n hx hb dX8_aims_53 rfl (lv_at hl 2 rfl) ?_
          refine lv_aload_n hx hb dX8_aims_54 rfl (lv_at hl 0 rfl) ?_
          refine cVi E I (c_X8_isSo l w g v10 k0 E.2.2.1 I.2.2 h_k0  ) (cwV 0 E.1.2.2.2.2 (gWs (C := "StarWalkModel") mw_6_86 mw_6_88 mw_s_61 mw_1_9 mw_6_89) rfl rfl rfl (by decide +kernel) ⟨by decide, by decide⟩) h_k0.1.1 ((ce_o h_k0.1.2).trans rfl) rfl rfl hl.1 rfl (Nat.le_of_ble_eq_true rfl) dX8_aims_55 ⟨Nat.le_refl _, Nat.le_refl _⟩ (fun r11 u12 H lo hp hPS => ?_)
          obtain ⟨hp, hex, hfr⟩ := hp
          replace hF := xm_i hex hF
          obtain ⟨hwf, p13⟩ := hp
          have I : Wo w g s.heap u12 H lo := ⟨hPS.1, hPS.2, hwf⟩
          have rzu12 : ∀ k j : Nat, ¬ (k = k0 + 2 ∨ (k = k0 ∧ 19 ≤ j ∧ j ≤ 22)) → u12.1 k j = v.1 k j := fun k j h => (hfr k j (fun z => h (by rcases z with z | z <;> omega))).trans (rzv10 k j h)
          refine cSi E I (c_X8_flag l w g u12 r11 E.2.2.1 I.2.2   ) (va_cwS 1 E.1.2.2.2.2 (gSs mw_5_119 mw_5_120 mw_1_9 mw_5_121) rfl rfl rfl (by decide +kernel) ⟨by decide, by decide⟩) rfl hl.1 rfl (Nat.le_of_ble_eq_true rfl) dX8_aims_58 ⟨Nat.le_refl _, Nat.le_refl _⟩ (fun r14 u15 H lo hp hPS => ?_)
          obtain ⟨hp, hex, hfr⟩ := hp
          replace hF := xl_i hex hF
          obtain ⟨hu, p16⟩ := hp
          rw [hu] at hPS
          have I : Wo w g s.heap u12 H lo := ⟨hPS.1, hPS.2, I.2.2⟩
          refine lv_iload_n hx hb dX8_aims_61 rfl (lv_at hl 3 rfl) ?_
          refine lv_ishl hx hb dX8_aims_62 ?_
          refine lv_topi (fun x17 ex17 => ?_)
          replace hF := xl_i (ex17) hF
          refine lv_ior hx hb dX8_aims_63 ?_
          refine lv_topi (fun x18 ex18 => ?_)
          replace hF := xl_i (ex18) hF
          refine lv_istore_n (lv' := [(2, .int x18), (0, .ref (wq w k0)), (1, .int a0), (3, .int y25_3)]) hx hb dX8_aims_64 rfl hl (by decide) rfl (fun ls hl => ?_)
          exact B_65 _ _ u12 I x18 (by omega) (by omega) rzu12 hF ls (lv_sub hl [1, 2, 0, 3] rfl)
  refine lv_iload_n hx hb dX8_aims_0 rfl (lv_at hl 1 rfl) ?_
  refine lv_i2l (v := a0.toInt64) hx hb dX8_aims_1 rfl ?_
  refine lv_lconst (v := 0) hx hb dX8_aims_2 (by decide) ?_
  refine lv_aload_n hx hb dX8_aims_3 rfl (lv_at hl 0 rfl) ?_
  refine g_StarWalkModel_st E I h_k0.1 mw_4_170 dX8_aims_4 ?_
  refine lv_bipush (v := 32) hx hb dX8_aims_7 (by decide) ?_
  refine ga_30 E I h_k0.2.1 (by decide) dX8_aims_9 ?_
  refine lv_topi (fun x20 ex20 => ?_)
  replace hF := xl_i (ex20) hF
  have hx20 : 0 ≤ x20.toInt ∧ x20.toInt ≤ 8 := by have h := ra_30 I h_k0.2.1 32; rw [ex20]; exact h.2.2.1 rfl
  refine lv_iconst (v := 1) hx hb dX8_aims_10 (by decide) ?_
  refine lv_isub hx hb dX8_aims_11 ?_
  refine lv_topi (fun x21 ex21 => ?_)
  replace hF := xl_i (ex21) hF
  have hx21 : x21.toInt = x20.toInt - 1 := by rw [ex21]; exact sbI (a := x20.toInt) (b := 1) rfl rfl (by omega) (by omega)
  refine lv_i2l (v := x21.toInt64) hx hb dX8_aims_12 rfl ?_
  refine cSi E I (c_X8_in l w g v a0.toInt64 (0 : Int64) x21.toInt64 E.2.2.1 I.2.2   ) (va_cwS 3 E.1.2.2.2.2 (gSs mw_5_29 mw_5_30 mw_1_9 mw_5_31) rfl rfl rfl (by decide +kernel) ⟨by decide, by decide⟩) rfl hl.1 rfl (Nat.le_of_ble_eq_true rfl) dX8_aims_13 ⟨Nat.le_refl _, Nat.le_refl _⟩ (fun r23 u24 H lo hp hPS => ?_)
  have iz25 := i64_of a0
  have iz26 : (0 : Int64).toInt = 0 := rfl
  have iz27 := i64_of x21
  obtain ⟨hp, hex, hfr⟩ := hp
  replace hF := xl_i hex hF
  obtain ⟨hu, p28⟩ := hp
  rw [hu] at hPS
  have I : Wo w g s.heap v H lo := ⟨hPS.1, hPS.2, I.2.2⟩
  refine bz_ne E (a := r23.toInt) rfl (tgt := 21) dX8_aims_16 (by decide) (fun c29 => ?_) (fun c29 => ?_)
  ·
    replace hF := if_f c29 hF
    refine lv_iconst (v := 0) hx hb dX8_aims_21 (by decide) ?_
    refine lv_istore_n (lv' := [(2, .int 0), (0, .ref (wq w k0)), (1, .int a0)]) hx hb dX8_aims_22 rfl hl (by decide) rfl (fun ls hl => ?_)
    refine lv_iconst (v := 0) hx hb dX8_aims_23 (by decide) ?_
    refine lv_istore_n (lv' := [(3, .int 0), (2, .int 0), (0, .ref (wq w k0)), (1, .int a0)]) hx hb dX8_aims_24 rfl hl (by decide) rfl (fun ls hl => ?_)
    exact L_25 ((2147483647 - (0 : Int32).toInt).toNat + 1) _ _ v I (0 : Int32) (0 : Int32) (by decide) (by omega) rz0 hF (Nat.lt_succ_self _) ls (lv_sub hl [2, 3, 1, 0] rfl)
  ·
    replace hF := if_t c29 hF
    refine lv_iconst (v := (-1)) hx hb dX8_aims_19 (by decide) ?_
    exact rI E I hr hlk rfl (by rw [← hpost]; exact ⟨⟨I.2.2, trivial⟩, hF.trans hres, rz0⟩) dX8_aims_20
def F_X8_whose (k0 : Nat) (v : St) : Int32 × St :=
xl (fun (self_4 : Int32 → Int32 → St → Int32 × St) (y4_1 : Int32) (y4_2 : Int32) (v_4 : St) =>
xl (v_4.1 k0 4) fun x1 =>
if y4_2.toInt < x1.toInt then (
xl (F_X8_starts k0 v_4) fun u3 =>
xl (up1 u3 (k0 + 2) (23 : Int32).toNatClampNeg y4_2) fun v5 =>
xm (F_X8_isSo k0 v5) fun r6 u7 =>
xl (F_X8_flag r6 u7) fun r9 =>
xl (r9 <<< (y4_2 &&& 31)) fun x12 =>
xl (y4_1 ||| x12) fun x13 =>
xl (y4_2 + 1) fun x14 =>
(self_4 x13 x14 u7)) else (
(y4_1, v_4))) fun P_4 =>
(lp P_4 (fun _ _ _ => ((0 : Int32), v)) ((2147483647 - (0 : Int32).toInt).toNat + 1) (0 : Int32) (0 : Int32) v)
set_option maxHeartbeats 4000000 in
set_option maxRecDepth 100000 in
theorem c_X8_whose (l : Launch) (w : Wp) (g : Nat → Nat → Int32) (v : St) (k0 : Nat) (hq : Inj w) (hw : WF (wk w) g v) (h_k0 : oM w k0) : CTi w l yX8_whose (wsy yX8_whose prog_10_method_80_code 3 (some .int)) (rmL 6) [.ref (wq w k0)] v (fun (r : Int32) (u : St) => (WF (wk w) g u ∧ True) ∧ ((r, u) = F_X8_whose k0 v) ∧ (∀ k j : Nat, ¬ (k = k0 + 2 ∨ (k = k0 ∧ 19 ≤ j ∧ j ≤ 22)) → u.1 k j = v.1 k j)) := by
  generalize hpost : (fun (r : Int32) (u : St) => (WF (wk w) g u ∧ True) ∧ ((r, u) = F_X8_whose k0 v) ∧ (∀ k j : Nat, ¬ (k = k0 + 2 ∨ (k = k0 ∧ 19 ≤ j ∧ j ≤ 22)) → u.1 k j = v.1 k j)) = post
  refine CTi.of prog_10_method_80_code 3 (some .int) "StarWalkModel" (by decide +kernel) rfl hq hw (Nat.le_of_ble_eq_true rfl) ?_
  intro pg en s m ar bl me cd ls E I hr hlk hl
  have hx := E.1.1
  have hb := E.1.2.1
  have hl : lv_has ls 3 [(0, .ref (wq w k0))] := hl
  obtain ⟨res, hres⟩ : ∃ z, z = F_X8_whose k0 v := ⟨_, rfl⟩
  have hF := hres.symm
  unfold F_X8_whose at hF
  replace hres : res = F_X8_whose k0 v := hres
  have rz0 : ∀ k j : Nat, ¬ (k = k0 + 2 ∨ (k = k0 ∧ 19 ≤ j ∧ j ≤ 22)) → v.1 k j = v.1 k j := fun _ _ _ => rfl
  obtain ⟨P_4, eP_4, hF⟩ := xl_e hF
  have L_4 : ∀ (n : Nat), ∀ (H : Heap) (lo : List Loc) (v_4 : St), Wo w g s.heap v_4 H lo → ∀ (y4_1 : Int32) (y4_2 : Int32), (0 ≤ y4_2.toInt ∧ y4_2.toInt ≤ 3) → (∀ k j : Nat, ¬ (k = k0 + 2 ∨ (k = k0 ∧ 19 ≤ j ∧ j ≤ 22)) → v_4.1 k j = v.1 k j) → (lp P_4 (fun _ _ _ => ((0 : Int32), v)) n y4_1 y4_2 v_4 = res) → (2147483647 - y4_2.toInt).toNat < n → ∀ (ls : Array Slot), lv_has ls 3 [(0, .ref (wq w k0)), (1, .int y4_1), (2, .int y4_2)] → W pg l en (rmL 6) s m ar bl me cd H lo 0 0 (Zi w bl ar s post) (F0 m 4 ls []) := by
    intro n
    induction n with
    | zero => intro H lo v_4 I y4_1 y4_2 hy4_2 rB4_Z hF hm; exact absurd hm (Nat.not_lt_zero _)
    | succ n ih_4 =>
      intro H lo v_4 I y4_1 y4_2 hy4_2 rB4_Z hF hm ls hl
      replace hF := lpa3 eP_4 hF
      refine lv_iload_n hx hb dX8_whose_4 rfl (lv_at hl 2 rfl) ?_
      refine lv_aload_n hx hb dX8_whose_5 rfl (lv_at hl 0 rfl) ?_
      refine g_StarWalkModel_walkers E I h_k0.1 mw_4_174 dX8_whose_6 ?_
      refine lv_topi (fun x1 ex1 => ?_)
      replace hF := xl_i (ex1) hF
      have hx1 := r_StarWalkModel_walkers I h_k0.1
      rw [← ex1] at hx1
      refine bi_ge E (a := y4_2.toInt) (b := x1.toInt) rfl rfl (tgt := 42) dX8_whose_9 (by decide) (fun c2 => ?_) (fun c2 => ?_)
      ·
        replace hF := if_l c2 hF
        refine lv_iload_n hx hb dX8_whose_42 rfl (lv_at hl 1 rfl) ?_
        exact rI E I hr hlk rfl (by rw [← hpost]; exact ⟨⟨I.2.2, trivial⟩, hF.trans hres, rB4_Z⟩) dX8_whose_43
      ·
        replace hF := if_t c2 hF
        refine lv_aload_n hx hb dX8_whose_12 rfl (lv_at hl 0 rfl) ?_
        refine cVv E I (c_X8_starts l w g v_4 k0 E.2.2.1 I.2.2 h_k0  ) (cwV 0 E.1.2.2.2.2 (gWs (C := "StarWalkModel") mw_5_108 mw_5_110 mw_s_42 mw_1_9 mw_5_111) rfl rfl rfl (by decide +kernel) ⟨by decide, by decide⟩) h_k0.1.1 ((ce_o h_k0.1.2).trans rfl) rfl rfl hl.1 rfl (Nat.le_of_ble_eq_true rfl) dX8_whose_13 ⟨Nat.le_refl _, Nat.le_refl _⟩ (fun u3 H lo hp hPS => ?_)
        obtain ⟨hp, hex, hfr⟩ := hp
        replace hF := xl_i hex hF
        obtain ⟨hwf, p4⟩ := hp
        have I : Wo w g s.heap u3 H lo := ⟨hPS.1, hPS.2, hwf⟩
        have rzu3 : ∀ k j : Nat, ¬ (k = k0 + 2 ∨ (k = k0 ∧ 19 ≤ j ∧ j ≤ 22)) → u3.1 k j = v.1 k j := fun k j h => (hfr k j (fun z => h (by omega))).trans (rB4_Z k j h)
        refine lv_aload_n hx hb dX8_whose_16 rfl (lv_at hl 0 rfl) ?_
        refine g_StarWalkModel_at E I h_k0.1 mw_4_171 dX8_whose_17 ?_
        refine lv_bipush (v := 23) hx hb dX8_whose_20 (by decide) ?_
        refine lv_iload_n hx hb dX8_whose_22 rfl (lv_at hl 2 rfl) ?_
        refine pa_31 E I h_k0.2.2.1 (by decide) (by have ci : (23 : Int32).toNatClampNeg = 23 := rfl; rw [ci]; simp only [okk]; omega) dX8_whose_23 (fun H lo I => ?_)
        generalize ev5 : up1 u3 (k0 + 2) (23 : Int32).toNatClampNeg y4_2 = v5 at I
        replace hF := xl_i (ev5.symm) hF
        have rzv5 : ∀ k j : Nat, ¬ (k = k0 + 2 ∨ (k = k0 ∧ 19 ≤ j ∧ j ≤ 22)) → v5.1 k j = v.1 k j := fun k j h => fz_u ev5 (by have cl23 : (23 : Int32).toNatClampNeg = 23 := rfl; omega) (rzu3 k j h)
        refine lv_iload_n hx hb dX8_whose_24 rfl (lv_at hl 1 rfl) ?_
        refine lv_aload_n hx hb dX8_whose_25 rfl (lv_at hl 0 rfl) ?_
        refine cVi E I (c_X8_isSo l w g v5 k0 E.2.2.1 I.2.2 h_k0  ) (cwV 0 E.1.2.2.2.2 (gWs (C := "StarWalkModel") mw_6_86 mw_6_88 mw_s_61 mw_1_9 mw_6_89) rfl rfl rfl (by decide +kernel) ⟨by decide, by decide⟩) h_k0.1.1 ((ce_o h_k0.1.2).trans rfl) rfl rfl hl.1 rfl (Nat.le_of_ble_eq_true rfl) dX8_whose_26 ⟨Nat.le_refl _, Nat.le_refl _⟩ (fun r6 u7 H lo hp hPS => ?_)
        obtain ⟨hp, hex, hfr⟩ := hp
        replace hF := xm_i hex hF
        obtain ⟨hwf, p8⟩ := hp
        have I : Wo w g s.heap u7 H lo := ⟨hPS.1, hPS.2, hwf⟩
        have rzu7 : ∀ k j : Nat, ¬ (k = k0 + 2 ∨ (k = k0 ∧ 19 ≤ j ∧ j ≤ 22)) → u7.1 k j = v.1 k j := fun k j h => (hfr k j (fun z => h (by rcases z with z | z <;> omega))).trans (rzv5 k j h)
        refine cSi E I (c_X8_flag l w g u7 r6 E.2.2.1 I.2.2   ) (va_cwS 1 E.1.2.2.2.2 (gSs mw_5_119 mw_5_120 mw_1_9 mw_5_121) rfl rfl rfl (by decide +kernel) ⟨by decide, by decide⟩) rfl hl.1 rfl (Nat.le_of_ble_eq_true rfl) dX8_whose_29 ⟨Nat.le_refl _, Nat.le_refl _⟩ (fun r9 u10 H lo hp hPS => ?_)
        obtain ⟨hp, hex, hfr⟩ := hp
        replace hF := xl_i hex hF
        obtain ⟨hu, p11⟩ := hp
        rw [hu] at hPS
        have I : Wo w g s.heap u7 H lo := ⟨hPS.1, hPS.2, I.2.2⟩
        refine lv_iload_n hx hb dX8_whose_32 rfl (lv_at hl 2 rfl) ?_
        refine lv_ishl hx hb dX8_whose_33 ?_
        refine lv_topi (fun x12 ex12 => ?_)
        replace hF := xl_i (ex12) hF
        refine lv_ior hx hb dX8_whose_34 ?_
        refine lv_topi (fun x13 ex13 => ?_)
        replace hF := xl_i (ex13) hF
        refine lv_istore_n (lv' := [(1, .int x13), (0, .ref (wq w k0)), (2, .int y4_2)]) hx hb dX8_whose_35 rfl hl (by decide) rfl (fun ls hl => ?_)
        obtain ⟨x14, ex14⟩ : ∃ z : Int32, z = y4_2 + 1 := ⟨_, rfl⟩
        replace hF := xl_i (ex14) hF
        have hx14 : x14.toInt = y4_2.toInt + (1) := by rw [ex14]; exact adI (a := y4_2.toInt) (b := 1) rfl rfl (by omega) (by omega)
        refine lv_iinc (v := x14) (lv' := [(2, .int x14), (1, .int x13), (0, .ref (wq w k0))]) hx hb dX8_whose_36 hl (k := 2) rfl (by rw [ex14]; rfl) (by decide) rfl (fun ls hl => ?_)
        refine lv_goto (tgt := 4) hx hb dX8_whose_39 (by decide) ?_
        exact ih_4 _ _ u7 I x13 x14 (by omega) rzu7 hF (by omega) ls (lv_sub hl [2, 1, 0] rfl)
  refine lv_iconst (v := 0) hx hb dX8_whose_0 (by decide) ?_
  refine lv_istore_n (lv' := [(1, .int 0), (0, .ref (wq w k0))]) hx hb dX8_whose_1 rfl hl (by decide) rfl (fun ls hl => ?_)
  refine lv_iconst (v := 0) hx hb dX8_whose_2 (by decide) ?_
  refine lv_istore_n (lv' := [(2, .int 0), (1, .int 0), (0, .ref (wq w k0))]) hx hb dX8_whose_3 rfl hl (by decide) rfl (fun ls hl => ?_)
  exact L_4 ((2147483647 - (0 : Int32).toInt).toNat + 1) _ _ v I (0 : Int32) (0 : Int32) (by decide) rz0 hF (Nat.lt_succ_self _) ls (lv_sub hl [2, 1, 0] rfl)
def F_X8_fits (k0 : Nat) (a0 : Int32) (v : St) : Int32 × St :=
xl (fun (self_17 : Int32 → Int32 → Int32 → St → Int32 × St) (y17_2 : Int32) (y17_3 : Int32) (y17_4 : Int32) (v_17 : St) =>
xl (fun (y55_2 : Int32) (y55_3 : Int32) (v_55 : St) =>
xl (y17_4 + 1) fun x1 =>
(self_17 y55_2 y55_3 x1 v_55)) fun J_55 =>
xl (fun (z51_0 : Int32) (v_51 : St) =>
xl (y17_2 + 1) fun x2 =>
(J_55 x2 z51_0 v_51)) fun J_51 =>
xl (v_17.1 k0 3) fun x3 =>
xl ((1 : Int32) <<< (x3 &&& 31)) fun x4 =>
if y17_4.toInt < x4.toInt then (
xl (F_X8_knowsJust k0 y17_4 v_17) fun u7 =>
xm (F_X8_isSo k0 u7) fun r9 u10 =>
if r9.toInt = 0 then (
(J_55 y17_2 y17_3 u10)) else (
if y17_2.toInt = 0 then (
(J_51 y17_4 u10)) else (
(J_51 y17_3 u10)))) else (
if a0.toInt = 0 then (
(y17_2, v_17)) else (
(y17_3, v_17)))) fun P_17 =>
xl (F_X8_isPart a0 v) fun r14 =>
if r14.toInt = 0 then (
((-1 : Int32), v)) else (
(lp P_17 (fun _ _ _ _ => ((0 : Int32), v)) ((2147483647 - (0 : Int32).toInt).toNat + 1) (0 : Int32) (-4 : Int32) (0 : Int32) v))
set_option maxHeartbeats 4000000 in
set_option maxRecDepth 100000 in
theorem c_X8_fits (l : Launch) (w : Wp) (g : Nat → Nat → Int32) (v : St) (k0 : Nat) (a0 : Int32) (hq : Inj w) (hw : WF (wk w) g v) (h_k0 : oM w k0) : CTi w l yX8_fits (wsy yX8_fits prog_10_method_81_code 5 (some .int)) (rmL 6) [.ref (wq w k0), .int a0] v (fun (r : Int32) (u : St) => (WF (wk w) g u ∧ True) ∧ ((r, u) = F_X8_fits k0 a0 v) ∧ (∀ k j : Nat, ¬ (k = k0 + 2 ∨ (k = k0 ∧ 19 ≤ j ∧ j ≤ 22)) → u.1 k j = v.1 k j)) := by
  generalize hpost : (fun (r : Int32) (u : St) => (WF (wk w) g u ∧ True) ∧ ((r, u) = F_X8_fits k0 a0 v) ∧ (∀ k j : Nat, ¬ (k = k0 + 2 ∨ (k = k0 ∧ 19 ≤ j ∧ j ≤ 22)) → u.1 k j = v.1 k j)) = post
  refine CTi.of prog_10_method_81_code 5 (some .int) "StarWalkModel" (by decide +kernel) rfl hq hw (Nat.le_of_ble_eq_true rfl) ?_
  intro pg en s m ar bl me cd ls E I hr hlk hl
  have hx := E.1.1
  have hb := E.1.2.1
  have hl : lv_has ls 5 [(0, .ref (wq w k0)), (1, .int a0)] := hl
  obtain ⟨res, hres⟩ : ∃ z, z = F_X8_fits k0 a0 v := ⟨_, rfl⟩
  have hF := hres.symm
  unfold F_X8_fits at hF
  replace hres : res = F_X8_fits k0 a0 v := hres
  have rz0 : ∀ k j : Nat, ¬ (k = k0 + 2 ∨ (k = k0 ∧ 19 ≤ j ∧ j ≤ 22)) → v.1 k j = v.1 k j := fun _ _ _ => rfl
  obtain ⟨P_17, eP_17, hF⟩ := xl_e hF
  have L_17 : ∀ (n : Nat), ∀ (H : Heap) (lo : List Loc) (v_17 : St), Wo w g s.heap v_17 H lo → ∀ (y17_2 : Int32) (y17_3 : Int32) (y17_4 : Int32), (-4 ≤ y17_3.toInt ∧ y17_3.toInt ≤ 2147483646) → (0 ≤ y17_4.toInt) → (0 ≤ a0.toInt ∧ a0.toInt ≤ 1) → (∀ k j : Nat, ¬ (k = k0 + 2 ∨ (k = k0 ∧ 19 ≤ j ∧ j ≤ 22)) → v_17.1 k j = v.1 k j) → (lp P_17 (fun _ _ _ _ => ((0 : Int32), v)) n y17_2 y17_3 y17_4 v_17 = res) → (2147483647 - y17_4.toInt).toNat < n → ∀ (ls : Array Slot), lv_has ls 5 [(0, .ref (wq w k0)), (1, .int a0), (2, .int y17_2), (3, .int y17_3), (4, .int y17_4)] → W pg l en (rmL 6) s m ar bl me cd H lo 0 0 (Zi w bl ar s post) (F0 m 17 ls []) := by
    intro n
    induction n with
    | zero => intro H lo v_17 I y17_2 y17_3 y17_4 hy17_3 hy17_4 hE17_0 rB17_Z hF hm; exact absurd hm (Nat.not_lt_zero _)
    | succ n ih_17 =>
      intro H lo v_17 I y17_2 y17_3 y17_4 hy17_3 hy17_4 hE17_0 rB17_Z hF hm ls hl
      replace hF := lpa4 eP_17 hF
      obtain ⟨J_55, eJ_55, hF⟩ := xl_e hF
      have B_55 : ∀ (H : Heap) (lo : List Loc) (v_55 : St), Wo w g s.heap v_55 H lo → ∀ (y55_2 : Int32) (y55_3 : Int32), (-4 ≤ y55_3.toInt ∧ y55_3.toInt ≤ 2147483646) → (0 ≤ a0.toInt ∧ a0.toInt ≤ 1) → (0 ≤ y17_4.toInt ∧ y17_4.toInt ≤ 2147483646) → (∀ k j : Nat, ¬ (k = k0 + 2 ∨ (k = k0 ∧ 19 ≤ j ∧ j ≤ 22)) → v_55.1 k j = v.1 k j) → (J_55 y55_2 y55_3 v_55 = res) → ∀ (ls : Array Slot), lv_has ls 5 [(0, .ref (wq w k0)), (1, .int a0), (2, .int y55_2), (3, .int y55_3), (4, .int y17_4)] → W pg l en (rmL 6) s m ar bl me cd H lo 0 0 (Zi w bl ar s post) (F0 m 55 ls []) := by
        intro H lo v_55 I y55_2 y55_3 hy55_3 hE55_0 hE55_1 rB55_Z hF ls hl
        replace hF := ap3 eJ_55 hF
        obtain ⟨x1, ex1⟩ : ∃ z : Int32, z = y17_4 + 1 := ⟨_, rfl⟩
        replace hF := xl_i (ex1) hF
        have hx1 : x1.toInt = y17_4.toInt + (1) := by rw [ex1]; exact adI (a := y17_4.toInt) (b := 1) rfl rfl (by omega) (by omega)
        refine lv_iinc (v := x1) (lv' := [(4, .int x1), (0, .ref (wq w k0)), (1, .int a0), (2, .int y55_2), (3, .int y55_3)]) hx hb dX8_fits_55 hl (k := 4) rfl (by rw [ex1]; rfl) (by decide) rfl (fun ls hl => ?_)
        refine lv_goto (tgt := 17) hx hb dX8_fits_58 (by decide) ?_
        exact ih_17 _ _ v_55 I y55_2 y55_3 x1 (by omega) (by omega) (by omega) rB55_Z hF (by omega) ls (lv_sub hl [1, 2, 3, 4, 0] rfl)
      obtain ⟨J_51, eJ_51, hF⟩ := xl_e hF
      have B_51 : ∀ (H : Heap) (lo : List Loc) (v_51 : St), Wo w g s.heap v_51 H lo → ∀ (z51_0 : Int32), (-4 ≤ z51_0.toInt ∧ z51_0.toInt ≤ 2147483646) → (0 ≤ a0.toInt ∧ a0.toInt ≤ 1) → (0 ≤ y17_4.toInt ∧ y17_4.toInt ≤ 2147483646) → (∀ k j : Nat, ¬ (k = k0 + 2 ∨ (k = k0 ∧ 19 ≤ j ∧ j ≤ 22)) → v_51.1 k j = v.1 k j) → (J_51 z51_0 v_51 = res) → ∀ (ls : Array Slot), lv_has ls 5 [(0, .ref (wq w k0)), (1, .int a0), (2, .int y17_2), (4, .int y17_4)] → W pg l en (rmL 6) s m ar bl me cd H lo 0 0 (Zi w bl ar s post) (F0 m 51 ls [.int z51_0]) := by
        intro H lo v_51 I z51_0 hz51_0 hE51_0 hE51_1 rB51_Z hF ls hl
        replace hF := ap2 eJ_51 hF
        refine lv_istore_n (lv' := [(3, .int z51_0), (0, .ref (wq w k0)), (1, .int a0), (2, .int y17_2), (4, .int y17_4)]) hx hb dX8_fits_51 rfl hl (by decide) rfl (fun ls hl => ?_)
        obtain ⟨x2, ex2⟩ : ∃ z : Int32, z = y17_2 + 1 := ⟨_, rfl⟩
        replace hF := xl_i (ex2) hF
        refine lv_iinc (v := x2) (lv' := [(2, .int x2), (3, .int z51_0), (0, .ref (wq w k0)), (1, .int a0), (4, .int y17_4)]) hx hb dX8_fits_52 hl (k := 3) rfl (by rw [ex2]; rfl) (by decide) rfl (fun ls hl => ?_)
        exact B_55 _ _ v_51 I x2 z51_0 (by omega) (by omega) (by omega) rB51_Z hF ls (lv_sub hl [2, 3, 0, 1, 4] rfl)
      refine lv_iload hx hb dX8_fits_17 (lv_at hl 4 rfl) ?_
      refine lv_iconst (v := 1) hx hb dX8_fits_19 (by decide) ?_
      refine lv_aload_n hx hb dX8_fits_20 rfl (lv_at hl 0 rfl) ?_
      refine g_StarWalkModel_stars E I h_k0.1 mw_4_173 dX8_fits_21 ?_
      refine lv_topi (fun x3 ex3 => ?_)
      replace hF := xl_i (ex3) hF
      have hx3 := r_StarWalkModel_stars I h_k0.1
      rw [← ex3] at hx3
      refine lv_ishl hx hb dX8_fits_24 ?_
      refine lv_topi (fun x4 ex4 => ?_)
      replace hF := xl_i (ex4) hF
      refine bi_ge E (a := y17_4.toInt) (b := x4.toInt) rfl rfl (tgt := 61) dX8_fits_25 (by decide) (fun c5 => ?_) (fun c5 => ?_)
      ·
        have rgy17_4 := i32_rng y17_4
        have rgx4 := i32_rng x4
        replace hF := if_l c5 hF
        refine lv_iload_n hx hb dX8_fits_61 rfl (lv_at hl 1 rfl) ?_
        refine bz_ne E (a := a0.toInt) rfl (tgt := 69) dX8_fits_62 (by decide) (fun c6 => ?_) (fun c6 => ?_)
        ·
          replace hF := if_f c6 hF
          refine lv_iload_n hx hb dX8_fits_69 rfl (lv_at hl 3 rfl) ?_
          exact rI E I hr hlk rfl (by rw [← hpost]; exact ⟨⟨I.2.2, trivial⟩, hF.trans hres, rB17_Z⟩) dX8_fits_70
        ·
          replace hF := if_t c6 hF
          refine lv_iload_n hx hb dX8_fits_65 rfl (lv_at hl 2 rfl) ?_
          refine lv_goto (tgt := 70) hx hb dX8_fits_66 (by decide) ?_
          exact rI E I hr hlk rfl (by rw [← hpost]; exact ⟨⟨I.2.2, trivial⟩, hF.trans hres, rB17_Z⟩) dX8_fits_70
      ·
        have rgy17_4 := i32_rng y17_4
        have rgx4 := i32_rng x4
        replace hF := if_t c5 hF
        refine lv_aload_n hx hb dX8_fits_28 rfl (lv_at hl 0 rfl) ?_
        refine lv_iload hx hb dX8_fits_29 (lv_at hl 4 rfl) ?_
        refine cVv E I (c_X8_knowsJust l w g v_17 k0 y17_4 E.2.2.1 I.2.2 h_k0  ) (cwV 1 E.1.2.2.2.2 (gWs (C := "StarWalkModel") mw_6_41 mw_6_43 mw_s_59 mw_1_9 mw_6_44) rfl rfl rfl (by decide +kernel) ⟨by decide, by decide⟩) h_k0.1.1 ((ce_o h_k0.1.2).trans rfl) rfl rfl hl.1 rfl (Nat.le_of_ble_eq_true rfl) dX8_fits_31 ⟨Nat.le_refl _, Nat.le_refl _⟩ (fun u7 H lo hp hPS => ?_)
        obtain ⟨hp, hex, hfr⟩ := hp
        replace hF := xl_i hex hF
        obtain ⟨hwf, p8⟩ := hp
        have I : Wo w g s.heap u7 H lo := ⟨hPS.1, hPS.2, hwf⟩
        have rzu7 : ∀ k j : Nat, ¬ (k = k0 + 2 ∨ (k = k0 ∧ 19 ≤ j ∧ j ≤ 22)) → u7.1 k j = v.1 k j := fun k j h => (hfr k j (fun z => h (by omega))).trans (rB17_Z k j h)
        refine lv_aload_n hx hb dX8_fits_34 rfl (lv_at hl 0 rfl) ?_
        refine cVi E I (c_X8_isSo l w g u7 k0 E.2.2.1 I.2.2 h_k0  ) (cwV 0 E.1.2.2.2.2 (gWs (C := "StarWalkModel") mw_6_86 mw_6_88 mw_s_61 mw_1_9 mw_6_89) rfl rfl rfl (by decide +kernel) ⟨by decide, by decide⟩) h_k0.1.1 ((ce_o h_k0.1.2).trans rfl) rfl rfl hl.1 rfl (Nat.le_of_ble_eq_true rfl) dX8_fits_35 ⟨Nat.le_refl _, Nat.le_refl _⟩ (fun r9 u10 H lo hp hPS => ?_)
        obtain ⟨hp, hex, hfr⟩ := hp
        replace hF := xm_i hex hF
        obtain ⟨hwf, p11⟩ := hp
        have I : Wo w g s.heap u10 H lo := ⟨hPS.1, hPS.2, hwf⟩
        have rzu10 : ∀ k j : Nat, ¬ (k = k0 + 2 ∨ (k = k0 ∧ 19 ≤ j ∧ j ≤ 22)) → u10.1 k j = v.1 k j := fun k j h => (hfr k j (fun z => h (by rcases z with z | z <;> omega))).trans (rzu7 k j h)
        refine bz_eq E (a := r9.toInt) rfl (tgt := 55) dX8_fits_38 (by decide) (fun c12 => ?_) (fun c12 => ?_)
        ·
          replace hF := if_t c12 hF
          exact B_55 _ _ u10 I y17_2 y17_3 (by omega) (by omega) (by omega) rzu10 hF ls (lv_sub hl [0, 1, 2, 3, 4] rfl)
        ·
          replace hF := if_f c12 hF
          refine lv_iload_n hx hb dX8_fits_41 rfl (lv_at hl 2 rfl) ?_
          refine bz_ne E (a := y17_2.toInt) rfl (tgt := 50) dX8_fits_42 (by decide) (fun c13 => ?_) (fun c13 => ?_)
          ·
            replace hF := if_f c13 hF
            refine lv_iload_n hx hb dX8_fits_50 rfl (lv_at hl 3 rfl) ?_
            exact B_51 _ _ u10 I y17_3 (by omega) (by omega) (by omega) rzu10 hF ls (lv_sub hl [0, 1, 2, 4] rfl)
          ·
            replace hF := if_t c13 hF
            refine lv_iload hx hb dX8_fits_45 (lv_at hl 4 rfl) ?_
            refine lv_goto (tgt := 51) hx hb dX8_fits_47 (by decide) ?_
            exact B_51 _ _ u10 I y17_4 (by omega) (by omega) (by omega) rzu10 hF ls (lv_sub hl [0, 1, 2, 4] rfl)
  refine lv_iload_n hx hb dX8_fits_0 rfl (lv_at hl 1 rfl) ?_
  refine cSi E I (c_X8_isPart l w g v a0 E.2.2.1 I.2.2   ) (va_cwS 1 E.1.2.2.2.2 (gSs mw_6_13 mw_6_14 mw_1_9 mw_6_15) rfl rfl rfl (by decide +kernel) ⟨by decide, by decide⟩) rfl hl.1 rfl (Nat.le_of_ble_eq_true rfl) dX8_fits_1 ⟨Nat.le_refl _, Nat.le_refl _⟩ (fun r14 u15 H lo hp hPS => ?_)
  obtain ⟨hp, hex, hfr⟩ := hp
  replace hF := xl_i hex hF
  obtain ⟨hu, p16⟩ := hp
  rw [hu] at hPS
  have I : Wo w g s.heap v H lo := ⟨hPS.1, hPS.2, I.2.2⟩
  refine bz_ne E (a := r14.toInt) rfl (tgt := 9) dX8_fits_4 (by decide) (fun c17 => ?_) (fun c17 => ?_)
  ·
    replace hF := if_f c17 hF
    refine lv_iconst (v := 0) hx hb dX8_fits_9 (by decide) ?_
    refine lv_istore_n (lv' := [(2, .int 0), (0, .ref (wq w k0)), (1, .int a0)]) hx hb dX8_fits_10 rfl hl (by decide) rfl (fun ls hl => ?_)
    refine lv_bipush (v := (-4)) hx hb dX8_fits_11 (by decide) ?_
    refine lv_istore_n (lv' := [(3, .int (-4)), (2, .int 0), (0, .ref (wq w k0)), (1, .int a0)]) hx hb dX8_fits_13 rfl hl (by decide) rfl (fun ls hl => ?_)
    refine lv_iconst (v := 0) hx hb dX8_fits_14 (by decide) ?_
    refine lv_istore (lv' := [(4, .int 0), (3, .int (-4)), (2, .int 0), (0, .ref (wq w k0)), (1, .int a0)]) hx hb dX8_fits_15 hl (by decide) rfl (fun ls hl => ?_)
    exact L_17 ((2147483647 - (0 : Int32).toInt).toNat + 1) _ _ v I (0 : Int32) (-4 : Int32) (0 : Int32) (by decide) (by decide) (by omega) rz0 hF (Nat.lt_succ_self _) ls (lv_sub hl [3, 4, 2, 1, 0] rfl)
  ·
    replace hF := if_t c17 hF
    refine lv_iconst (v := (-1)) hx hb dX8_fits_7 (by decide) ?_
    exact rI E I hr hlk rfl (by rw [← hpost]; exact ⟨⟨I.2.2, trivial⟩, hF.trans hres, rz0⟩) dX8_fits_8
def F_X8_drift (k0 : Nat) (a0 : Int32) (a1 : Int32) (a2 : Int32) (v : St) : Int32 × St :=
xl (fun (self_31 : Int32 → Int32 → St → Int32 × St) (y31_4 : Int32) (y31_5 : Int32) (v_31 : St) =>
xl (fun (y79_4 : Int32) (z79_1 : Int32) =>
xl (y31_5 - y31_5 / (10 : Int32) * (10 : Int32)) fun x1 =>
xm (F_X8_stepsOn k0 z79_1 x1 v_31) fun r2 u3 =>
xl (y31_5 + 1) fun x5 =>
(self_31 y79_4 x5 u3)) fun J_79 =>
if y31_5.toInt < a1.toInt then (
xl (y31_4 * (1103515245 : Int32)) fun x11 =>
xl (x11 + (12345 : Int32)) fun x12 =>
xl (x12 >>> ((16 : Int32) &&& 31)) fun x13 =>
xl (x13 &&& (32767 : Int32)) fun x14 =>
xl (x14 - x14 / (7 : Int32) * (7 : Int32)) fun x15 =>
xl (F_X8_isAim k0 x15 v_31) fun r16 =>
if r16.toInt = 0 then (
(J_79 x12 (5 : Int32))) else (
(J_79 x12 x15))) else (
if a2.toInt = 0 then (
xl (v_31.1 (k0 + 2) (30 : Int32).toNatClampNeg) fun x10 =>
(x10, v_31)) else (
xl (v_31.1 (k0 + 2) (31 : Int32).toNatClampNeg) fun x8 =>
xl ((1000 : Int32) + x8) fun x9 =>
(x9, v_31)))) fun P_31 =>
xl (F_X8_in a1.toInt64 (1 : Int64) (30 : Int64) v) fun r21 =>
if r21.toInt = 0 then (
((-1 : Int32), v)) else (
xl (F_X8_isPart a2 v) fun r28 =>
if r28.toInt = 0 then (
((-1 : Int32), v)) else (
xl (F_X8_starts k0 v) fun u32 =>
(lp P_31 (fun _ _ _ => ((0 : Int32), v)) ((2147483647 - (0 : Int32).toInt).toNat + 1) a0 (0 : Int32) u32)))
set_option maxHeartbeats 4000000 in
set_option maxRecDepth 100000 in
theorem c_X8_drift (l : Launch) (w : Wp) (g : Nat → Nat → Int32) (v : St) (k0 : Nat) (a0 : Int32) (a1 : Int32) (a2 : Int32) (hq : Inj w) (hw : WF (wk w) g v) (h_k0 : oM w k0) : CTi w l yX8_drift (wsy yX8_drift prog_10_method_82_code 7 (some .int)) (rmL 4) [.ref (wq w k0), .int a0, .int a1, .int a2] v (fun (r : Int32) (u : St) => (WF (wk w) g u ∧ True) ∧ ((r, u) = F_X8_drift k0 a0 a1 a2 v) ∧ (∀ k j : Nat, ¬ (k = k0 + 2 ∨ (k = k0 ∧ 19 ≤ j ∧ j ≤ 22)) → u.1 k j = v.1 k j)) := by
  generalize hpost : (fun (r : Int32) (u : St) => (WF (wk w) g u ∧ True) ∧ ((r, u) = F_X8_drift k0 a0 a1 a2 v) ∧ (∀ k j : Nat, ¬ (k = k0 + 2 ∨ (k = k0 ∧ 19 ≤ j ∧ j ≤ 22)) → u.1 k j = v.1 k j)) = post
  refine CTi.of prog_10_method_82_code 7 (some .int) "StarWalkModel" (by decide +kernel) rfl hq hw (Nat.le_of_ble_eq_true rfl) ?_
  intro pg en s m ar bl me cd ls E I hr hlk hl
  have hx := E.1.1
  have hb := E.1.2.1
  have hl : lv_has ls 7 [(0, .ref (wq w k0)), (1, .int a0), (2, .int a1), (3, .int a2)] := hl
  obtain ⟨res, hres⟩ : ∃ z, z = F_X8_drift k0 a0 a1 a2 v := ⟨_, rfl⟩
  have hF := hres.symm
  unfold F_X8_drift at hF
  replace hres : res = F_X8_drift k0 a0 a1 a2 v := hres
  have rz0 : ∀ k j : Nat, ¬ (k = k0 + 2 ∨ (k = k0 ∧ 19 ≤ j ∧ j ≤ 22)) → v.1 k j = v.1 k j := fun _ _ _ => rfl
  obtain ⟨P_31, eP_31, hF⟩ := xl_e hF
  have L_31 : ∀ (n : Nat), ∀ (H : Heap) (lo : List Loc) (v_31 : St), Wo w g s.heap v_31 H lo → ∀ (y31_4 : Int32) (y31_5 : Int32), (0 ≤ y31_5.toInt ∧ y31_5.toInt ≤ 31) → (1 ≤ a1.toInt ∧ a1.toInt ≤ 30) → (0 ≤ a2.toInt ∧ a2.toInt ≤ 1) → (∀ k j : Nat, ¬ (k = k0 + 2 ∨ (k = k0 ∧ 19 ≤ j ∧ j ≤ 22)) → v_31.1 k j = v.1 k j) → (lp P_31 (fun _ _ _ => ((0 : Int32), v)) n y31_4 y31_5 v_31 = res) → (2147483647 - y31_5.toInt).toNat < n → ∀ (ls : Array Slot), lv_has ls 7 [(0, .ref (wq w k0)), (2, .int a1), (3, .int a2), (4, .int y31_4), (5, .int y31_5)] → W pg l en (rmL 4) s m ar bl me cd H lo 0 0 (Zi w bl ar s post) (F0 m 31 ls []) := by
    intro n
    induction n with
    | zero => intro H lo v_31 I y31_4 y31_5 hy31_5 hE31_0 hE31_1 rB31_Z hF hm; exact absurd hm (Nat.not_lt_zero _)
    | succ n ih_31 =>
      intro H lo v_31 I y31_4 y31_5 hy31_5 hE31_0 hE31_1 rB31_Z hF hm ls hl
      replace hF := lpa3 eP_31 hF
      obtain ⟨J_79, eJ_79, hF⟩ := xl_e hF
      have B_79 : ∀ (H : Heap) (lo : List Loc), Wo w g s.heap v_31 H lo → ∀ (y79_4 : Int32) (z79_1 : Int32), (0 ≤ z79_1.toInt ∧ z79_1.toInt ≤ 6) → (1 ≤ a1.toInt ∧ a1.toInt ≤ 30) → (0 ≤ a2.toInt ∧ a2.toInt ≤ 1) → (0 ≤ y31_5.toInt ∧ y31_5.toInt ≤ 30) → (∀ k j : Nat, ¬ (k = k0 + 2 ∨ (k = k0 ∧ 19 ≤ j ∧ j ≤ 22)) → v_31.1 k j = v.1 k j) → (J_79 y79_4 z79_1 = res) → ∀ (ls : Array Slot), lv_has ls 7 [(0, .ref (wq w k0)), (2, .int a1), (3, .int a2), (4, .int y79_4), (5, .int y31_5)] → W pg l en (rmL 4) s m ar bl me cd H lo 0 0 (Zi w bl ar s post) (F0 m 79 ls [.int z79_1, .ref (wq w k0)]) := by
        intro H lo  I y79_4 z79_1 hz79_1 hE79_0 hE79_1 hE79_2 rB79_Z hF ls hl
        replace hF := ap2 eJ_79 hF
        refine lv_iload hx hb dX8_drift_79 (lv_at hl 4 rfl) ?_
        refine lv_bipush (v := 10) hx hb dX8_drift_81 (by decide) ?_
        refine lv_irem hx hb dX8_drift_83 (by decide) ?_
        refine lv_topi (fun x1 ex1 => ?_)
        replace hF := xl_i (ex1) hF
        have hx1 := rmI (x := y31_5) (y := (10 : Int32)) (a := y31_5.toInt) (b := 10) rfl rfl (by omega) (by omega)
        rw [← ex1] at hx1
        refine cVi E I (c_X8_stepsOn l w g v_31 k0 z79_1 x1 E.2.2.1 I.2.2 h_k0 (by omega) ) (cwV 2 E.1.2.2.2.2 (gWs (C := "StarWalkModel") mw_5_223 mw_5_225 mw_s_53 mw_1_9 mw_5_226) rfl rfl rfl (by decide +kernel) ⟨by decide, by decide⟩) h_k0.1.1 ((ce_o h_k0.1.2).trans rfl) rfl rfl hl.1 rfl (Nat.le_of_ble_eq_true rfl) dX8_drift_84 ⟨Nat.le_refl _, Nat.le_refl _⟩ (fun r2 u3 H lo hp hPS => ?_)
        obtain ⟨hp, hex, hfr⟩ := hp
        replace hF := xm_i hex hF
        obtain ⟨hwf, p4⟩ := hp
        have I : Wo w g s.heap u3 H lo := ⟨hPS.1, hPS.2, hwf⟩
        have rzu3 : ∀ k j : Nat, ¬ (k = k0 + 2 ∨ (k = k0 ∧ 19 ≤ j ∧ j ≤ 22)) → u3.1 k j = v.1 k j := fun k j h => (hfr k j (fun z => h (by rcases z with z | z <;> omega))).trans (rB79_Z k j h)
        refine lv_pop hx hb dX8_drift_87 rfl ?_
        obtain ⟨x5, ex5⟩ : ∃ z : Int32, z = y31_5 + 1 := ⟨_, rfl⟩
        replace hF := xl_i (ex5) hF
        have hx5 : x5.toInt = y31_5.toInt + (1) := by rw [ex5]; exact adI (a := y31_5.toInt) (b := 1) rfl rfl (by omega) (by omega)
        refine lv_iinc (v := x5) (lv' := [(5, .int x5), (0, .ref (wq w k0)), (2, .int a1), (3, .int a2), (4, .int y79_4)]) hx hb dX8_drift_88 hl (k := 4) rfl (by rw [ex5]; rfl) (by decide) rfl (fun ls hl => ?_)
        refine lv_goto (tgt := 31) hx hb dX8_drift_91 (by decide) ?_
        exact ih_31 _ _ u3 I y79_4 x5 (by omega) (by omega) (by omega) rzu3 hF (by omega) ls (lv_sub hl [1, 2, 3, 4, 0] rfl)
      refine lv_iload hx hb dX8_drift_31 (lv_at hl 4 rfl) ?_
      refine lv_iload_n hx hb dX8_drift_33 rfl (lv_at hl 1 rfl) ?_
      refine bi_ge E (a := y31_5.toInt) (b := a1.toInt) rfl rfl (tgt := 94) dX8_drift_34 (by decide) (fun c6 => ?_) (fun c6 => ?_)
      ·
        replace hF := if_l c6 hF
        refine lv_iload_n hx hb dX8_drift_94 rfl (lv_at hl 2 rfl) ?_
        refine bz_ne E (a := a2.toInt) rfl (tgt := 108) dX8_drift_95 (by decide) (fun c7 => ?_) (fun c7 => ?_)
        ·
          replace hF := if_f c7 hF
          refine lv_sipush (v := 1000) hx hb dX8_drift_108 (by decide) ?_
          refine lv_aload_n hx hb dX8_drift_111 rfl (lv_at hl 0 rfl) ?_
          refine g_StarWalkModel_at E I h_k0.1 mw_4_171 dX8_drift_112 ?_
          refine lv_bipush (v := 31) hx hb dX8_drift_115 (by decide) ?_
          refine ga_31 E I h_k0.2.2.1 (by decide) dX8_drift_117 ?_
          refine lv_topi (fun x8 ex8 => ?_)
          replace hF := xl_i (ex8) hF
          refine lv_iadd hx hb dX8_drift_118 ?_
          refine lv_topi (fun x9 ex9 => ?_)
          replace hF := xl_i (ex9) hF
          exact rI E I hr hlk rfl (by rw [← hpost]; exact ⟨⟨I.2.2, trivial⟩, hF.trans hres, rB31_Z⟩) dX8_drift_119
        ·
          replace hF := if_t c7 hF
          refine lv_aload_n hx hb dX8_drift_98 rfl (lv_at hl 0 rfl) ?_
          refine g_StarWalkModel_at E I h_k0.1 mw_4_171 dX8_drift_99 ?_
          refine lv_bipush (v := 30) hx hb dX8_drift_102 (by decide) ?_
          refine ga_31 E I h_k0.2.2.1 (by decide) dX8_drift_104 ?_
          refine lv_topi (fun x10 ex10 => ?_)
          replace hF := xl_i (ex10) hF
          refine lv_goto (tgt := 119) hx hb dX8_drift_105 (by decide) ?_
          exact rI E I hr hlk rfl (by rw [← hpost]; exact ⟨⟨I.2.2, trivial⟩, hF.trans hres, rB31_Z⟩) dX8_drift_119
      ·
        replace hF := if_t c6 hF
        refine lv_iload hx hb dX8_drift_37 (lv_at hl 3 rfl) ?_
        refine lv_ldcw (own := "StarWalkModel") hx hb E.1.2.2.2.1 (Ew E mw_6_103 rfl) dX8_drift_39 ?_
        refine lv_imul hx hb dX8_drift_42 ?_
        refine lv_topi (fun x11 ex11 => ?_)
        replace hF := xl_i (ex11) hF
        refine lv_sipush (v := 12345) hx hb dX8_drift_43 (by decide) ?_
        refine lv_iadd hx hb dX8_drift_46 ?_
        refine lv_topi (fun x12 ex12 => ?_)
        replace hF := xl_i (ex12) hF
        refine lv_istore (lv' := [(4, .int x12), (0, .ref (wq w k0)), (2, .int a1), (3, .int a2), (5, .int y31_5)]) hx hb dX8_drift_47 hl (by decide) rfl (fun ls hl => ?_)
        refine lv_iload hx hb dX8_drift_49 (lv_at hl 0 rfl) ?_
        refine lv_bipush (v := 16) hx hb dX8_drift_51 (by decide) ?_
        refine lv_ishr hx hb dX8_drift_53 ?_
        refine lv_topi (fun x13 ex13 => ?_)
        replace hF := xl_i (ex13) hF
        refine lv_sipush (v := 32767) hx hb dX8_drift_54 (by decide) ?_
        refine lv_iand hx hb dX8_drift_57 ?_
        refine lv_topi (fun x14 ex14 => ?_)
        replace hF := xl_i (ex14) hF
        have hx14 := anI (x := x13) (y := (32767 : Int32)) (b := 32767) rfl (by decide)
        rw [← ex14] at hx14
        refine lv_bipush (v := 7) hx hb dX8_drift_58 (by decide) ?_
        refine lv_irem hx hb dX8_drift_60 (by decide) ?_
        refine lv_topi (fun x15 ex15 => ?_)
        replace hF := xl_i (ex15) hF
        have hx15 := rmI (x := x14) (y := (7 : Int32)) (a := x14.toInt) (b := 7) rfl rfl (by omega) (by omega)
        rw [← ex15] at hx15
        refine lv_istore (lv' := [(6, .int x15), (4, .int x12), (0, .ref (wq w k0)), (2, .int a1), (3, .int a2), (5, .int y31_5)]) hx hb dX8_drift_61 hl (by decide) rfl (fun ls hl => ?_)
        refine lv_aload_n hx hb dX8_drift_63 rfl (lv_at hl 2 rfl) ?_
        refine lv_aload_n hx hb dX8_drift_64 rfl (lv_at hl 2 rfl) ?_
        refine lv_iload hx hb dX8_drift_65 (lv_at hl 0 rfl) ?_
        refine cVi E I (c_X8_isAim l w g v_31 k0 x15 E.2.2.1 I.2.2 h_k0  ) (cwV 1 E.1.2.2.2.2 (gWs (C := "StarWalkModel") mw_5_183 mw_5_185 mw_s_48 mw_1_9 mw_5_186) rfl rfl rfl (by decide +kernel) ⟨by decide, by decide⟩) h_k0.1.1 ((ce_o h_k0.1.2).trans rfl) rfl rfl hl.1 rfl (Nat.le_of_ble_eq_true rfl) dX8_drift_67 ⟨Nat.le_refl _, Nat.le_refl _⟩ (fun r16 u17 H lo hp hPS => ?_)
        obtain ⟨hp, hex, hfr⟩ := hp
        replace hF := xl_i hex hF
        obtain ⟨hu, p18⟩ := hp
        rw [hu] at hPS
        have I : Wo w g s.heap v_31 H lo := ⟨hPS.1, hPS.2, I.2.2⟩
        refine bz_eq E (a := r16.toInt) rfl (tgt := 78) dX8_drift_70 (by decide) (fun c19 => ?_) (fun c19 => ?_)
        ·
          replace hF := if_t c19 hF
          refine lv_iconst (v := 5) hx hb dX8_drift_78 (by decide) ?_
          exact B_79 _ _ I x12 (5 : Int32) (by decide) (by omega) (by omega) (by omega) rB31_Z hF ls (lv_sub hl [2, 3, 4, 1, 5] rfl)
        ·
          replace hF := if_f c19 hF
          refine lv_iload hx hb dX8_drift_73 (lv_at hl 0 rfl) ?_
          refine lv_goto (tgt := 79) hx hb dX8_drift_75 (by decide) ?_
          exact B_79 _ _ I x12 x15 (by omega) (by omega) (by omega) (by omega) rB31_Z hF ls (lv_sub hl [2, 3, 4, 1, 5] rfl)
  refine lv_iload_n hx hb dX8_drift_0 rfl (lv_at hl 2 rfl) ?_
  refine lv_i2l (v := a1.toInt64) hx hb dX8_drift_1 rfl ?_
  refine lv_lconst (v := 1) hx hb dX8_drift_2 (by decide) ?_
  refine lv_ldc2 (own := "StarWalkModel") hx hb E.1.2.2.2.1 (Ew E mw_6_102 rfl) dX8_drift_3 ?_
  refine cSi E I (c_X8_in l w g v a1.toInt64 (1 : Int64) (30 : Int64) E.2.2.1 I.2.2   ) (va_cwS 3 E.1.2.2.2.2 (gSs mw_5_29 mw_5_30 mw_1_9 mw_5_31) rfl rfl rfl (by decide +kernel) ⟨by decide, by decide⟩) rfl hl.1 rfl (Nat.le_of_ble_eq_true rfl) dX8_drift_6 ⟨Nat.le_refl _, Nat.le_refl _⟩ (fun r21 u22 H lo hp hPS => ?_)
  have iz23 := i64_of a1
  have iz24 : (1 : Int64).toInt = 1 := rfl
  have iz25 : (30 : Int64).toInt = 30 := rfl
  obtain ⟨hp, hex, hfr⟩ := hp
  replace hF := xl_i hex hF
  obtain ⟨hu, p26⟩ := hp
  rw [hu] at hPS
  have I : Wo w g s.heap v H lo := ⟨hPS.1, hPS.2, I.2.2⟩
  refine bz_eq E (a := r21.toInt) rfl (tgt := 19) dX8_drift_9 (by decide) (fun c27 => ?_) (fun c27 => ?_)
  ·
    replace hF := if_t c27 hF
    refine lv_iconst (v := (-1)) hx hb dX8_drift_19 (by decide) ?_
    exact rI E I hr hlk rfl (by rw [← hpost]; exact ⟨⟨I.2.2, trivial⟩, hF.trans hres, rz0⟩) dX8_drift_20
  ·
    replace hF := if_f c27 hF
    refine lv_iload_n hx hb dX8_drift_12 rfl (lv_at hl 3 rfl) ?_
    refine cSi E I (c_X8_isPart l w g v a2 E.2.2.1 I.2.2   ) (va_cwS 1 E.1.2.2.2.2 (gSs mw_6_13 mw_6_14 mw_1_9 mw_6_15) rfl rfl rfl (by decide +kernel) ⟨by decide, by decide⟩) rfl hl.1 rfl (Nat.le_of_ble_eq_true rfl) dX8_drift_13 ⟨Nat.le_refl _, Nat.le_refl _⟩ (fun r28 u29 H lo hp hPS => ?_)
    obtain ⟨hp, hex, hfr⟩ := hp
    replace hF := xl_i hex hF
    obtain ⟨hu, p30⟩ := hp
    rw [hu] at hPS
    have I : Wo w g s.heap v H lo := ⟨hPS.1, hPS.2, I.2.2⟩
    refine bz_ne E (a := r28.toInt) rfl (tgt := 21) dX8_drift_16 (by decide) (fun c31 => ?_) (fun c31 => ?_)
    ·
      replace hF := if_f c31 hF
      refine lv_iload_n hx hb dX8_drift_21 rfl (lv_at hl 1 rfl) ?_
      refine lv_istore (lv' := [(4, .int a0), (0, .ref (wq w k0)), (1, .int a0), (2, .int a1), (3, .int a2)]) hx hb dX8_drift_22 hl (by decide) rfl (fun ls hl => ?_)
      refine lv_aload_n hx hb dX8_drift_24 rfl (lv_at hl 1 rfl) ?_
      refine cVv E I (c_X8_starts l w g v k0 E.2.2.1 I.2.2 h_k0  ) (cwV 0 E.1.2.2.2.2 (gWs (C := "StarWalkModel") mw_5_108 mw_5_110 mw_s_42 mw_1_9 mw_5_111) rfl rfl rfl (by decide +kernel) ⟨by decide, by decide⟩) h_k0.1.1 ((ce_o h_k0.1.2).trans rfl) rfl rfl hl.1 rfl (Nat.le_of_ble_eq_true rfl) dX8_drift_25 ⟨Nat.le_refl _, Nat.le_refl _⟩ (fun u32 H lo hp hPS => ?_)
      obtain ⟨hp, hex, hfr⟩ := hp
      replace hF := xl_i hex hF
      obtain ⟨hwf, p33⟩ := hp
      have I : Wo w g s.heap u32 H lo := ⟨hPS.1, hPS.2, hwf⟩
      have rzu32 : ∀ k j : Nat, ¬ (k = k0 + 2 ∨ (k = k0 ∧ 19 ≤ j ∧ j ≤ 22)) → u32.1 k j = v.1 k j := fun k j h => (hfr k j (fun z => h (by omega))).trans (rz0 k j h)
      refine lv_iconst (v := 0) hx hb dX8_drift_28 (by decide) ?_
      refine lv_istore (lv' := [(5, .int 0), (4, .int a0), (0, .ref (wq w k0)), (1, .int a0), (2, .int a1), (3, .int a2)]) hx hb dX8_drift_29 hl (by decide) rfl (fun ls hl => ?_)
      exact L_31 ((2147483647 - (0 : Int32).toInt).toNat + 1) _ _ u32 I a0 (0 : Int32) (by decide) (by omega) (by omega) rzu32 hF (Nat.lt_succ_self _) ls (lv_sub hl [2, 4, 5, 1, 0] rfl)
    ·
      replace hF := if_t c31 hF
      refine lv_iconst (v := (-1)) hx hb dX8_drift_19 (by decide) ?_
      exact rI E I hr hlk rfl (by rw [← hpost]; exact ⟨⟨I.2.2, trivial⟩, hF.trans hres, rz0⟩) dX8_drift_20
def F_X8_copies (k0 : Nat) (a0 : Int32) (a1 : Int32) (v : St) : St :=
xl (fun (self_2 : Int32 → St → St) (y2_3 : Int32) (v_2 : St) =>
if y2_3.toInt < 54 then (
xl (a0 + y2_3) fun x2 =>
xl (a1 + y2_3) fun x3 =>
xl (v_2.1 (k0 + 1) x3.toNatClampNeg) fun x4 =>
xl (up1 v_2 (k0 + 1) x2.toNatClampNeg x4) fun v5 =>
xl (y2_3 + 1) fun x6 =>
(self_2 x6 v5)) else (
v_2)) fun P_2 =>
(lp P_2 (fun _ _ => v) ((2147483647 - (0 : Int32).toInt).toNat + 1) (0 : Int32) v)
set_option maxHeartbeats 4000000 in
set_option maxRecDepth 100000 in
theorem c_X8_copies (l : Launch) (w : Wp) (g : Nat → Nat → Int32) (v : St) (k0 : Nat) (a0 : Int32) (a1 : Int32) (hq : Inj w) (hw : WF (wk w) g v) (h_k0 : oM w k0) (h_a0 : 0 ≤ a0.toInt ∧ a0.toInt ≤ 108) (h_a1 : 0 ≤ a1.toInt ∧ a1.toInt ≤ 108) (h1 : a0.toInt % 54 = 0) (h2 : a1.toInt % 54 = 0) : CTv w l yX8_copies (wsy yX8_copies prog_10_method_83_code 4 none) (rmL 1) [.ref (wq w k0), .int a0, .int a1] v (fun (u : St) => (WF (wk w) g u ∧ True) ∧ (u = F_X8_copies k0 a0 a1 v) ∧ (∀ k j : Nat, ¬ (k = k0 + 1) → u.1 k j = v.1 k j)) := by
  generalize hpost : (fun (u : St) => (WF (wk w) g u ∧ True) ∧ (u = F_X8_copies k0 a0 a1 v) ∧ (∀ k j : Nat, ¬ (k = k0 + 1) → u.1 k j = v.1 k j)) = post
  refine CTv.of prog_10_method_83_code 4 none "StarWalkModel" (by decide +kernel) rfl hq hw (Nat.le_of_ble_eq_true rfl) ?_
  intro pg en s m ar bl me cd ls E I hr hlk hl
  have hx := E.1.1
  have hb := E.1.2.1
  have hl : lv_has ls 4 [(0, .ref (wq w k0)), (1, .int a0), (2, .int a1)] := hl
  obtain ⟨res, hres⟩ : ∃ z, z = F_X8_copies k0 a0 a1 v := ⟨_, rfl⟩
  have hF := hres.symm
  unfold F_X8_copies at hF
  replace hres : res = F_X8_copies k0 a0 a1 v := hres
  have rz0 : ∀ k j : Nat, ¬ (k = k0 + 1) → v.1 k j = v.1 k j := fun _ _ _ => rfl
  obtain ⟨P_2, eP_2, hF⟩ := xl_e hF
  have L_2 : ∀ (n : Nat), ∀ (H : Heap) (lo : List Loc) (v_2 : St), Wo w g s.heap v_2 H lo → ∀ (y2_3 : Int32), (0 ≤ y2_3.toInt ∧ y2_3.toInt ≤ 54) → (0 ≤ a0.toInt ∧ a0.toInt ≤ 108) → (0 ≤ a1.toInt ∧ a1.toInt ≤ 108) → (∀ k j : Nat, ¬ (k = k0 + 1) → v_2.1 k j = v.1 k j) → (lp P_2 (fun _ _ => v) n y2_3 v_2 = res) → (2147483647 - y2_3.toInt).toNat < n → ∀ (ls : Array Slot), lv_has ls 4 [(0, .ref (wq w k0)), (1, .int a0), (2, .int a1), (3, .int y2_3)] → W pg l en (rmL 1) s m ar bl me cd H lo 0 0 (Zv w bl ar s post) (F0 m 2 ls []) := by
    intro n
    induction n with
    | zero => intro H lo v_2 I y2_3 hy2_3 hE2_0 hE2_1 rB2_Z hF hm; exact absurd hm (Nat.not_lt_zero _)
    | succ n ih_2 =>
      intro H lo v_2 I y2_3 hy2_3 hE2_0 hE2_1 rB2_Z hF hm ls hl
      replace hF := lpa2 eP_2 hF
      refine lv_iload_n hx hb dX8_copies_2 rfl (lv_at hl 3 rfl) ?_
      refine lv_bipush (v := 54) hx hb dX8_copies_3 (by decide) ?_
      refine bi_ge E (a := y2_3.toInt) (b := 54) rfl rfl (tgt := 30) dX8_copies_5 (by decide) (fun c1 => ?_) (fun c1 => ?_)
      ·
        replace hF := if_l c1 hF
        exact rV E I hr hlk (by rw [← hpost]; exact ⟨⟨I.2.2, trivial⟩, hF.trans hres, rB2_Z⟩) dX8_copies_30
      ·
        replace hF := if_t c1 hF
        refine lv_aload_n hx hb dX8_copies_8 rfl (lv_at hl 0 rfl) ?_
        refine g_StarWalkModel_st E I h_k0.1 mw_4_170 dX8_copies_9 ?_
        refine lv_iload_n hx hb dX8_copies_12 rfl (lv_at hl 1 rfl) ?_
        refine lv_iload_n hx hb dX8_copies_13 rfl (lv_at hl 3 rfl) ?_
        refine lv_iadd hx hb dX8_copies_14 ?_
        refine lv_topi (fun x2 ex2 => ?_)
        replace hF := xl_i (ex2) hF
        have hx2 : x2.toInt = a0.toInt + y2_3.toInt := by rw [ex2]; exact adI (a := a0.toInt) (b := y2_3.toInt) rfl rfl (by omega) (by omega)
        refine lv_aload_n hx hb dX8_copies_15 rfl (lv_at hl 0 rfl) ?_
        refine g_StarWalkModel_st E I h_k0.1 mw_4_170 dX8_copies_16 ?_
        refine lv_iload_n hx hb dX8_copies_19 rfl (lv_at hl 2 rfl) ?_
        refine lv_iload_n hx hb dX8_copies_20 rfl (lv_at hl 3 rfl) ?_
        refine lv_iadd hx hb dX8_copies_21 ?_
        refine lv_topi (fun x3 ex3 => ?_)
        replace hF := xl_i (ex3) hF
        have hx3 : x3.toInt = a1.toInt + y2_3.toInt := by rw [ex3]; exact adI (a := a1.toInt) (b := y2_3.toInt) rfl rfl (by omega) (by omega)
        refine ga_30 E I h_k0.2.1 (by omega) dX8_copies_22 ?_
        refine lv_topi (fun x4 ex4 => ?_)
        replace hF := xl_i (ex4) hF
        have hx4 := ra_30 I h_k0.2.1 x3.toNatClampNeg
        rw [← ex4] at hx4
        have cix4 := cnI (x := x3) (by omega)
        simp only [okk] at hx4
        refine pa_30 E I h_k0.2.1 (by omega) (by have ci := cnI (x := x2) (by omega); have em : x2.toNatClampNeg % 54 = x3.toNatClampNeg % 54 := (by clear hx4; omega); simp only [okk]; rw [em]; exact hx4) dX8_copies_23 (fun H lo I => ?_)
        generalize ev5 : up1 v_2 (k0 + 1) x2.toNatClampNeg x4 = v5 at I
        replace hF := xl_i (ev5.symm) hF
        have rzv5 : ∀ k j : Nat, ¬ (k = k0 + 1) → v5.1 k j = v.1 k j := fun k j h => fz_u ev5 (by have czx2 := cnI (x := x2) (by omega); omega) (rB2_Z k j h)
        obtain ⟨x6, ex6⟩ : ∃ z : Int32, z = y2_3 + 1 := ⟨_, rfl⟩
        replace hF := xl_i (ex6) hF
        have hx6 : x6.toInt = y2_3.toInt + (1) := by rw [ex6]; exact adI (a := y2_3.toInt) (b := 1) rfl rfl (by omega) (by omega)
        refine lv_iinc (v := x6) (lv' := [(3, .int x6), (0, .ref (wq w k0)), (1, .int a0), (2, .int a1)]) hx hb dX8_copies_24 hl (k := 3) rfl (by rw [ex6]; rfl) (by decide) rfl (fun ls hl => ?_)
        refine lv_goto (tgt := 2) hx hb dX8_copies_27 (by decide) ?_
        clear hx4
        exact ih_2 _ _ v5 I x6 (by omega) (by omega) (by omega) rzv5 hF (by omega) ls (lv_sub hl [1, 2, 3, 0] rfl)
  refine lv_iconst (v := 0) hx hb dX8_copies_0 (by decide) ?_
  refine lv_istore_n (lv' := [(3, .int 0), (0, .ref (wq w k0)), (1, .int a0), (2, .int a1)]) hx hb dX8_copies_1 rfl hl (by decide) rfl (fun ls hl => ?_)
  exact L_2 ((2147483647 - (0 : Int32).toInt).toNat + 1) _ _ v I (0 : Int32) (by decide) (by omega) (by omega) rz0 hF (Nat.lt_succ_self _) ls (lv_sub hl [1, 2, 3, 0] rfl)
def F_X8_keep (k0 : Nat) (a0 : Int32) (v : St) : Int32 × St :=
xl (F_X8_in a0.toInt64 (0 : Int64) (1 : Int64) v) fun r2 =>
if r2.toInt = 0 then (
((-1 : Int32), v)) else (
xl (v.1 (k0 + 3) a0.toNatClampNeg) fun x9 =>
xl (F_X8_flag x9 v) fun r10 =>
xl (up1 v (k0 + 3) a0.toNatClampNeg (vp_nar .boolean (1 : Int32))) fun v13 =>
xl (a0 + (1 : Int32)) fun x14 =>
xl ((54 : Int32) * x14) fun x15 =>
xl (F_X8_copies k0 x15 (0 : Int32) v13) fun u16 =>
(r10, u16))
set_option maxHeartbeats 4000000 in
set_option maxRecDepth 100000 in
theorem c_X8_keep (l : Launch) (w : Wp) (g : Nat → Nat → Int32) (v : St) (k0 : Nat) (a0 : Int32) (hq : Inj w) (hw : WF (wk w) g v) (h_k0 : oM w k0) : CTi w l yX8_keep (wsy yX8_keep prog_10_method_84_code 3 (some .int)) (rmL 2) [.ref (wq w k0), .int a0] v (fun (r : Int32) (u : St) => (WF (wk w) g u ∧ True) ∧ ((r, u) = F_X8_keep k0 a0 v) ∧ (∀ k j : Nat, ¬ (k = k0 + 1 ∨ k = k0 + 3) → u.1 k j = v.1 k j)) := by
  generalize hpost : (fun (r : Int32) (u : St) => (WF (wk w) g u ∧ True) ∧ ((r, u) = F_X8_keep k0 a0 v) ∧ (∀ k j : Nat, ¬ (k = k0 + 1 ∨ k = k0 + 3) → u.1 k j = v.1 k j)) = post
  refine CTi.of prog_10_method_84_code 3 (some .int) "StarWalkModel" (by decide +kernel) rfl hq hw (Nat.le_of_ble_eq_true rfl) ?_
  intro pg en s m ar bl me cd ls E I hr hlk hl
  have hx := E.1.1
  have hb := E.1.2.1
  have hl : lv_has ls 3 [(0, .ref (wq w k0)), (1, .int a0)] := hl
  obtain ⟨res, hres⟩ : ∃ z, z = F_X8_keep k0 a0 v := ⟨_, rfl⟩
  have hF := hres.symm
  unfold F_X8_keep at hF
  replace hres : res = F_X8_keep k0 a0 v := hres
  have rz0 : ∀ k j : Nat, ¬ (k = k0 + 1 ∨ k = k0 + 3) → v.1 k j = v.1 k j := fun _ _ _ => rfl
  refine lv_iload_n hx hb dX8_keep_0 rfl (lv_at hl 1 rfl) ?_
  refine lv_i2l (v := a0.toInt64) hx hb dX8_keep_1 rfl ?_
  refine lv_lconst (v := 0) hx hb dX8_keep_2 (by decide) ?_
  refine lv_lconst (v := 1) hx hb dX8_keep_3 (by decide) ?_
  refine cSi E I (c_X8_in l w g v a0.toInt64 (0 : Int64) (1 : Int64) E.2.2.1 I.2.2   ) (va_cwS 3 E.1.2.2.2.2 (gSs mw_5_29 mw_5_30 mw_1_9 mw_5_31) rfl rfl rfl (by decide +kernel) ⟨by decide, by decide⟩) rfl hl.1 rfl (Nat.le_of_ble_eq_true rfl) dX8_keep_4 ⟨Nat.le_refl _, Nat.le_refl _⟩ (fun r2 u3 H lo hp hPS => ?_)
  have iz4 := i64_of a0
  have iz5 : (0 : Int64).toInt = 0 := rfl
  have iz6 : (1 : Int64).toInt = 1 := rfl
  obtain ⟨hp, hex, hfr⟩ := hp
  replace hF := xl_i hex hF
  obtain ⟨hu, p7⟩ := hp
  rw [hu] at hPS
  have I : Wo w g s.heap v H lo := ⟨hPS.1, hPS.2, I.2.2⟩
  refine bz_ne E (a := r2.toInt) rfl (tgt := 12) dX8_keep_7 (by decide) (fun c8 => ?_) (fun c8 => ?_)
  ·
    replace hF := if_f c8 hF
    refine lv_aload_n hx hb dX8_keep_12 rfl (lv_at hl 0 rfl) ?_
    refine g_StarWalkModel_isKept E I h_k0.1 mw_4_172 dX8_keep_13 ?_
    refine lv_iload_n hx hb dX8_keep_16 rfl (lv_at hl 1 rfl) ?_
    refine ga_32 E I h_k0.2.2.2.1 (by omega) dX8_keep_17 ?_
    refine lv_topi (fun x9 ex9 => ?_)
    replace hF := xl_i (ex9) hF
    refine cSi E I (c_X8_flag l w g v x9 E.2.2.1 I.2.2   ) (va_cwS 1 E.1.2.2.2.2 (gSs mw_5_119 mw_5_120 mw_1_9 mw_5_121) rfl rfl rfl (by decide +kernel) ⟨by decide, by decide⟩) rfl hl.1 rfl (Nat.le_of_ble_eq_true rfl) dX8_keep_18 ⟨Nat.le_refl _, Nat.le_refl _⟩ (fun r10 u11 H lo hp hPS => ?_)
    obtain ⟨hp, hex, hfr⟩ := hp
    replace hF := xl_i hex hF
    obtain ⟨hu, p12⟩ := hp
    rw [hu] at hPS
    have I : Wo w g s.heap v H lo := ⟨hPS.1, hPS.2, I.2.2⟩
    refine lv_istore_n (lv' := [(2, .int r10), (0, .ref (wq w k0)), (1, .int a0)]) hx hb dX8_keep_21 rfl hl (by decide) rfl (fun ls hl => ?_)
    refine lv_aload_n hx hb dX8_keep_22 rfl (lv_at hl 1 rfl) ?_
    refine g_StarWalkModel_isKept E I h_k0.1 mw_4_172 dX8_keep_23 ?_
    refine lv_iload_n hx hb dX8_keep_26 rfl (lv_at hl 2 rfl) ?_
    refine lv_iconst (v := 1) hx hb dX8_keep_27 (by decide) ?_
    refine pa_32 E I h_k0.2.2.2.1 (by omega) dX8_keep_28 (fun H lo I => ?_)
    generalize ev13 : up1 v (k0 + 3) a0.toNatClampNeg (vp_nar .boolean (1 : Int32)) = v13 at I
    replace hF := xl_i (ev13.symm) hF
    have rzv13 : ∀ k j : Nat, ¬ (k = k0 + 1 ∨ k = k0 + 3) → v13.1 k j = v.1 k j := fun k j h => fz_u ev13 (by have cza0 := cnI (x := a0) (by omega); omega) (rz0 k j h)
    refine lv_aload_n hx hb dX8_keep_29 rfl (lv_at hl 1 rfl) ?_
    refine lv_bipush (v := 54) hx hb dX8_keep_30 (by decide) ?_
    refine lv_iload_n hx hb dX8_keep_32 rfl (lv_at hl 2 rfl) ?_
    refine lv_iconst (v := 1) hx hb dX8_keep_33 (by decide) ?_
    refine lv_iadd hx hb dX8_keep_34 ?_
    refine lv_topi (fun x14 ex14 => ?_)
    replace hF := xl_i (ex14) hF
    have hx14 : x14.toInt = a0.toInt + 1 := by rw [ex14]; exact adI (a := a0.toInt) (b := 1) rfl rfl (by omega) (by omega)
    refine lv_imul hx hb dX8_keep_35 ?_
    refine lv_topi (fun x15 ex15 => ?_)
    replace hF := xl_i (ex15) hF
    have hx15 : x15.toInt = 54 * x14.toInt := by rw [ex15]; exact mlI (a := 54) (b := x14.toInt) rfl rfl (by omega) (by omega)
    refine lv_iconst (v := 0) hx hb dX8_keep_36 (by decide) ?_
    refine cVv E I (c_X8_copies l w g v13 k0 x15 (0 : Int32) E.2.2.1 I.2.2 h_k0 (by omega) (by decide) (by omega) (by decide)) (cwV 2 E.1.2.2.2.2 (gWs (C := "StarWalkModel") mw_6_108 mw_6_110 mw_s_62 mw_1_9 mw_6_111) rfl rfl rfl (by decide +kernel) ⟨by decide, by decide⟩) h_k0.1.1 ((ce_o h_k0.1.2).trans rfl) rfl rfl hl.1 rfl (Nat.le_of_ble_eq_true rfl) dX8_keep_37 ⟨Nat.le_refl _, Nat.le_refl _⟩ (fun u16 H lo hp hPS => ?_)
    obtain ⟨hp, hex, hfr⟩ := hp
    replace hF := xl_i hex hF
    obtain ⟨hwf, p17⟩ := hp
    have I : Wo w g s.heap u16 H lo := ⟨hPS.1, hPS.2, hwf⟩
    have rzu16 : ∀ k j : Nat, ¬ (k = k0 + 1 ∨ k = k0 + 3) → u16.1 k j = v.1 k j := fun k j h => (hfr k j (fun z => h (by omega))).trans (rzv13 k j h)
    refine lv_iload_n hx hb dX8_keep_40 rfl (lv_at hl 0 rfl) ?_
    exact rI E I hr hlk rfl (by rw [← hpost]; exact ⟨⟨I.2.2, trivial⟩, hF.trans hres, rzu16⟩) dX8_keep_41
  ·
    replace hF := if_t c8 hF
    refine lv_iconst (v := (-1)) hx hb dX8_keep_10 (by decide) ?_
    exact rI E I hr hlk rfl (by rw [← hpost]; exact ⟨⟨I.2.2, trivial⟩, hF.trans hres, rz0⟩) dX8_keep_11
def F_X8_back (k0 : Nat) (a0 : Int32) (v : St) : Int32 × St :=
xl (F_X8_in a0.toInt64 (0 : Int64) (1 : Int64) v) fun r2 =>
if r2.toInt = 0 then (
((-1 : Int32), v)) else (
xl (v.1 (k0 + 3) a0.toNatClampNeg) fun x9 =>
if x9.toInt = 0 then (
((-2 : Int32), v)) else (
xl (a0 + (1 : Int32)) fun x11 =>
xl ((54 : Int32) * x11) fun x12 =>
xl (F_X8_copies k0 (0 : Int32) x12 v) fun u13 =>
xl (u13.1 (k0 + 1) (29 : Int32).toNatClampNeg) fun x15 =>
(x15, u13)))
set_option maxHeartbeats 4000000 in
set_option maxRecDepth 100000 in
theorem c_X8_back (l : Launch) (w : Wp) (g : Nat → Nat → Int32) (v : St) (k0 : Nat) (a0 : Int32) (hq : Inj w) (hw : WF (wk w) g v) (h_k0 : oM w k0) : CTi w l yX8_back (wsy yX8_back prog_10_method_85_code 2 (some .int)) (rmL 2) [.ref (wq w k0), .int a0] v (fun (r : Int32) (u : St) => (WF (wk w) g u ∧ True) ∧ ((r, u) = F_X8_back k0 a0 v) ∧ (∀ k j : Nat, ¬ (k = k0 + 1 ∨ k = k0 + 3) → u.1 k j = v.1 k j)) := by
  generalize hpost : (fun (r : Int32) (u : St) => (WF (wk w) g u ∧ True) ∧ ((r, u) = F_X8_back k0 a0 v) ∧ (∀ k j : Nat, ¬ (k = k0 + 1 ∨ k = k0 + 3) → u.1 k j = v.1 k j)) = post
  refine CTi.of prog_10_method_85_code 2 (some .int) "StarWalkModel" (by decide +kernel) rfl hq hw (Nat.le_of_ble_eq_true rfl) ?_
  intro pg en s m ar bl me cd ls E I hr hlk hl
  have hx := E.1.1
  have hb := E.1.2.1
  have hl : lv_has ls 2 [(0, .ref (wq w k0)), (1, .int a0)] := hl
  obtain ⟨res, hres⟩ : ∃ z, z = F_X8_back k0 a0 v := ⟨_, rfl⟩
  have hF := hres.symm
  unfold F_X8_back at hF
  replace hres : res = F_X8_back k0 a0 v := hres
  have rz0 : ∀ k j : Nat, ¬ (k = k0 + 1 ∨ k = k0 + 3) → v.1 k j = v.1 k j := fun _ _ _ => rfl
  refine lv_iload_n hx hb dX8_back_0 rfl (lv_at hl 1 rfl) ?_
  refine lv_i2l (v := a0.toInt64) hx hb dX8_back_1 rfl ?_
  refine lv_lconst (v := 0) hx hb dX8_back_2 (by decide) ?_
  refine lv_lconst (v := 1) hx hb dX8_back_3 (by decide) ?_
  refine cSi E I (c_X8_in l w g v a0.toInt64 (0 : Int64) (1 : Int64) E.2.2.1 I.2.2   ) (va_cwS 3 E.1.2.2.2.2 (gSs mw_5_29 mw_5_30 mw_1_9 mw_5_31) rfl rfl rfl (by decide +kernel) ⟨by decide, by decide⟩) rfl hl.1 rfl (Nat.le_of_ble_eq_true rfl) dX8_back_4 ⟨Nat.le_refl _, Nat.le_refl _⟩ (fun r2 u3 H lo hp hPS => ?_)
  have iz4 := i64_of a0
  have iz5 : (0 : Int64).toInt = 0 := rfl
  have iz6 : (1 : Int64).toInt = 1 := rfl
  obtain ⟨hp, hex, hfr⟩ := hp
  replace hF := xl_i hex hF
  obtain ⟨hu, p7⟩ := hp
  rw [hu] at hPS
  have I : Wo w g s.heap v H lo := ⟨hPS.1, hPS.2, I.2.2⟩
  refine bz_ne E (a := r2.toInt) rfl (tgt := 12) dX8_back_7 (by decide) (fun c8 => ?_) (fun c8 => ?_)
  ·
    replace hF := if_f c8 hF
    refine lv_aload_n hx hb dX8_back_12 rfl (lv_at hl 0 rfl) ?_
    refine g_StarWalkModel_isKept E I h_k0.1 mw_4_172 dX8_back_13 ?_
    refine lv_iload_n hx hb dX8_back_16 rfl (lv_at hl 1 rfl) ?_
    refine ga_32 E I h_k0.2.2.2.1 (by omega) dX8_back_17 ?_
    refine lv_topi (fun x9 ex9 => ?_)
    replace hF := xl_i (ex9) hF
    refine bz_ne E (a := x9.toInt) rfl (tgt := 24) dX8_back_18 (by decide) (fun c10 => ?_) (fun c10 => ?_)
    ·
      replace hF := if_f c10 hF
      refine lv_aload_n hx hb dX8_back_24 rfl (lv_at hl 0 rfl) ?_
      refine lv_iconst (v := 0) hx hb dX8_back_25 (by decide) ?_
      refine lv_bipush (v := 54) hx hb dX8_back_26 (by decide) ?_
      refine lv_iload_n hx hb dX8_back_28 rfl (lv_at hl 1 rfl) ?_
      refine lv_iconst (v := 1) hx hb dX8_back_29 (by decide) ?_
      refine lv_iadd hx hb dX8_back_30 ?_
      refine lv_topi (fun x11 ex11 => ?_)
      replace hF := xl_i (ex11) hF
      have hx11 : x11.toInt = a0.toInt + 1 := by rw [ex11]; exact adI (a := a0.toInt) (b := 1) rfl rfl (by omega) (by omega)
      refine lv_imul hx hb dX8_back_31 ?_
      refine lv_topi (fun x12 ex12 => ?_)
      replace hF := xl_i (ex12) hF
      have hx12 : x12.toInt = 54 * x11.toInt := by rw [ex12]; exact mlI (a := 54) (b := x11.toInt) rfl rfl (by omega) (by omega)
      refine cVv E I (c_X8_copies l w g v k0 (0 : Int32) x12 E.2.2.1 I.2.2 h_k0 (by decide) (by omega) (by decide) (by omega)) (cwV 2 E.1.2.2.2.2 (gWs (C := "StarWalkModel") mw_6_108 mw_6_110 mw_s_62 mw_1_9 mw_6_111) rfl rfl rfl (by decide +kernel) ⟨by decide, by decide⟩) h_k0.1.1 ((ce_o h_k0.1.2).trans rfl) rfl rfl hl.1 rfl (Nat.le_of_ble_eq_true rfl) dX8_back_32 ⟨Nat.le_refl _, Nat.le_refl _⟩ (fun u13 H lo hp hPS => ?_)
      obtain ⟨hp, hex, hfr⟩ := hp
      replace hF := xl_i hex hF
      obtain ⟨hwf, p14⟩ := hp
      have I : Wo w g s.heap u13 H lo := ⟨hPS.1, hPS.2, hwf⟩
      have rzu13 : ∀ k j : Nat, ¬ (k = k0 + 1 ∨ k = k0 + 3) → u13.1 k j = v.1 k j := fun k j h => (hfr k j (fun z => h (by omega))).trans (rz0 k j h)
      refine lv_aload_n hx hb dX8_back_35 rfl (lv_at hl 0 rfl) ?_
      refine g_StarWalkModel_st E I h_k0.1 mw_4_170 dX8_back_36 ?_
      refine lv_bipush (v := 29) hx hb dX8_back_39 (by decide) ?_
      refine ga_30 E I h_k0.2.1 (by decide) dX8_back_41 ?_
      refine lv_topi (fun x15 ex15 => ?_)
      replace hF := xl_i (ex15) hF
      have hx15 : 0 ≤ x15.toInt ∧ x15.toInt ≤ 10 := by have h := ra_30 I h_k0.2.1 29; rw [ex15]; exact h.2.1 rfl
      exact rI E I hr hlk rfl (by rw [← hpost]; exact ⟨⟨I.2.2, trivial⟩, hF.trans hres, rzu13⟩) dX8_back_42
    ·
      replace hF := if_t c10 hF
      refine lv_bipush (v := (-2)) hx hb dX8_back_21 (by decide) ?_
      exact rI E I hr hlk rfl (by rw [← hpost]; exact ⟨⟨I.2.2, trivial⟩, hF.trans hres, rz0⟩) dX8_back_23
  ·
    replace hF := if_t c8 hF
    refine lv_iconst (v := (-1)) hx hb dX8_back_10 (by decide) ?_
    exact rI E I hr hlk rfl (by rw [← hpost]; exact ⟨⟨I.2.2, trivial⟩, hF.trans hres, rz0⟩) dX8_back_11
def F_X8_isSheet (a0 : Int32) (a1 : Int32) (v : St) : Int32 :=
xl (F_X8_in a0.toInt64 (0 : Int64) (3 : Int64) v) fun r2 =>
if r2.toInt = 0 then (
(0 : Int32)) else (
xl (F_X8_in a1.toInt64 (0 : Int64) (2 : Int64) v) fun r10 =>
if r10.toInt = 0 then (
(0 : Int32)) else (
(1 : Int32)))
set_option maxHeartbeats 4000000 in
set_option maxRecDepth 100000 in
theorem c_X8_isSheet (l : Launch) (w : Wp) (g : Nat → Nat → Int32) (v : St) (a0 : Int32) (a1 : Int32) (hq : Inj w) (hw : WF (wk w) g v) : CTi w l yX8_isSheet (wsy yX8_isSheet prog_10_method_86_code 2 (some .boolean)) (rmL 2) [.int a0, .int a1] v (fun (r : Int32) (u : St) => (u = v ∧ 0 ≤ r.toInt ∧ r.toInt ≤ 1 ∧ (¬ r.toInt = 0 ↔ 0 ≤ a0.toInt ∧ a0.toInt ≤ 3 ∧ 0 ≤ a1.toInt ∧ a1.toInt ≤ 2)) ∧ (r = F_X8_isSheet a0 a1 v) ∧ True) := by
  generalize hpost : (fun (r : Int32) (u : St) => (u = v ∧ 0 ≤ r.toInt ∧ r.toInt ≤ 1 ∧ (¬ r.toInt = 0 ↔ 0 ≤ a0.toInt ∧ a0.toInt ≤ 3 ∧ 0 ≤ a1.toInt ∧ a1.toInt ≤ 2)) ∧ (r = F_X8_isSheet a0 a1 v) ∧ True) = post
  refine CTi.of prog_10_method_86_code 2 (some .boolean) "StarWalkModel" (by decide +kernel) rfl hq hw (Nat.le_of_ble_eq_true rfl) ?_
  intro pg en s m ar bl me cd ls E I hr hlk hl
  have hx := E.1.1
  have hb := E.1.2.1
  have hl : lv_has ls 2 [(0, .int a0), (1, .int a1)] := hl
  obtain ⟨res, hres⟩ : ∃ z, z = F_X8_isSheet a0 a1 v := ⟨_, rfl⟩
  have hF := hres.symm
  unfold F_X8_isSheet at hF
  replace hres : res = F_X8_isSheet a0 a1 v := hres
  refine lv_iload_n hx hb dX8_isSheet_0 rfl (lv_at hl 0 rfl) ?_
  refine lv_i2l (v := a0.toInt64) hx hb dX8_isSheet_1 rfl ?_
  refine lv_lconst (v := 0) hx hb dX8_isSheet_2 (by decide) ?_
  refine lv_ldc2 (own := "StarWalkModel") hx hb E.1.2.2.2.1 (Ew E mw_5_130 rfl) dX8_isSheet_3 ?_
  refine cSi E I (c_X8_in l w g v a0.toInt64 (0 : Int64) (3 : Int64) E.2.2.1 I.2.2   ) (va_cwS 3 E.1.2.2.2.2 (gSs mw_5_29 mw_5_30 mw_1_9 mw_5_31) rfl rfl rfl (by decide +kernel) ⟨by decide, by decide⟩) rfl hl.1 rfl (Nat.le_of_ble_eq_true rfl) dX8_isSheet_6 ⟨Nat.le_refl _, Nat.le_refl _⟩ (fun r2 u3 H lo hp hPS => ?_)
  have iz4 := i64_of a0
  have iz5 : (0 : Int64).toInt = 0 := rfl
  have iz6 : (3 : Int64).toInt = 3 := rfl
  obtain ⟨hp, hex, hfr⟩ := hp
  replace hF := xl_i hex hF
  obtain ⟨hu, p7⟩ := hp
  rw [hu] at hPS
  have I : Wo w g s.heap v H lo := ⟨hPS.1, hPS.2, I.2.2⟩
  refine bz_eq E (a := r2.toInt) rfl (tgt := 28) dX8_isSheet_9 (by decide) (fun c8 => ?_) (fun c8 => ?_)
  ·
    replace hF := if_t c8 hF
    refine lv_iconst (v := 0) hx hb dX8_isSheet_28 (by decide) ?_
    exact rI E I hr hlk rfl (by rw [← hpost]; exact ⟨⟨rfl, by have eL : (0 : Int32).toInt = 0 := rfl; omega⟩, hF.trans hres, trivial⟩) dX8_isSheet_29
  ·
    replace hF := if_f c8 hF
    refine lv_iload_n hx hb dX8_isSheet_12 rfl (lv_at hl 1 rfl) ?_
    refine lv_i2l (v := a1.toInt64) hx hb dX8_isSheet_13 rfl ?_
    refine lv_lconst (v := 0) hx hb dX8_isSheet_14 (by decide) ?_
    refine lv_ldc2 (own := "StarWalkModel") hx hb E.1.2.2.2.1 (Ew E mw_6_123 rfl) dX8_isSheet_15 ?_
    refine cSi E I (c_X8_in l w g v a1.toInt64 (0 : Int64) (2 : Int64) E.2.2.1 I.2.2   ) (va_cwS 3 E.1.2.2.2.2 (gSs mw_5_29 mw_5_30 mw_1_9 mw_5_31) rfl rfl rfl (by decide +kernel) ⟨by decide, by decide⟩) rfl hl.1 rfl (Nat.le_of_ble_eq_true rfl) dX8_isSheet_18 ⟨Nat.le_refl _, Nat.le_refl _⟩ (fun r10 u11 H lo hp hPS => ?_)
    have iz12 := i64_of a1
    have iz13 : (0 : Int64).toInt = 0 := rfl
    have iz14 : (2 : Int64).toInt = 2 := rfl
    obtain ⟨hp, hex, hfr⟩ := hp
    replace hF := xl_i hex hF
    obtain ⟨hu, p15⟩ := hp
    rw [hu] at hPS
    have I : Wo w g s.heap v H lo := ⟨hPS.1, hPS.2, I.2.2⟩
    refine bz_eq E (a := r10.toInt) rfl (tgt := 28) dX8_isSheet_21 (by decide) (fun c16 => ?_) (fun c16 => ?_)
    ·
      replace hF := if_t c16 hF
      refine lv_iconst (v := 0) hx hb dX8_isSheet_28 (by decide) ?_
      exact rI E I hr hlk rfl (by rw [← hpost]; exact ⟨⟨rfl, by have eL : (0 : Int32).toInt = 0 := rfl; omega⟩, hF.trans hres, trivial⟩) dX8_isSheet_29
    ·
      replace hF := if_f c16 hF
      refine lv_iconst (v := 1) hx hb dX8_isSheet_24 (by decide) ?_
      refine lv_goto (tgt := 29) hx hb dX8_isSheet_25 (by decide) ?_
      exact rI E I hr hlk rfl (by rw [← hpost]; exact ⟨⟨rfl, by have eL : (1 : Int32).toInt = 1 := rfl; omega⟩, hF.trans hres, trivial⟩) dX8_isSheet_29
def F_X8_sheet (k0 : Nat) (a0 : Int32) (a1 : Int32) (a2 : Int32) (v : St) : Int32 × St :=
xl (fun (self_40 : Int32 → St → Int32 × St) (y40_4 : Int32) (v_40 : St) =>
if y40_4.toInt < 40 then (
xl ((40 : Int32) * a0) fun x2 =>
xl (x2 + y40_4) fun x3 =>
xl (up1 v_40 (k0 + 8) x3.toNatClampNeg (0 : Int32)) fun v4 =>
xl (y40_4 + 1) fun x5 =>
(self_40 x5 v4)) else (
((1 : Int32), v_40))) fun P_40 =>
xl (F_X8_isSheet a0 a1 v) fun r6 =>
if r6.toInt = 0 then (
((-1 : Int32), v)) else (
if 40 < a2.toInt then (
((-1 : Int32), v)) else (
if a2.toInt < 0 then (
((-14 : Int32), v)) else (
xl (up1 v (k0 + 6) a0.toNatClampNeg a1) fun v12 =>
xl (up1 v12 (k0 + 7) a0.toNatClampNeg a2) fun v13 =>
(lp P_40 (fun _ _ => ((0 : Int32), v)) ((2147483647 - (0 : Int32).toInt).toNat + 1) (0 : Int32) v13))))
set_option maxHeartbeats 4000000 in
set_option maxRecDepth 100000 in
theorem c_X8_sheet (l : Launch) (w : Wp) (g : Nat → Nat → Int32) (v : St) (k0 : Nat) (a0 : Int32) (a1 : Int32) (a2 : Int32) (hq : Inj w) (hw : WF (wk w) g v) (h_k0 : oM w k0) : CTi w l yX8_sheet (wsy yX8_sheet prog_10_method_87_code 5 (some .int)) (rmL 3) [.ref (wq w k0), .int a0, .int a1, .int a2] v (fun (r : Int32) (u : St) => (WF (wk w) g u ∧ True) ∧ ((r, u) = F_X8_sheet k0 a0 a1 a2 v) ∧ (∀ k j : Nat, ¬ (k = k0 + 6 ∨ k = k0 + 7 ∨ k = k0 + 8) → u.1 k j = v.1 k j)) := by
  generalize hpost : (fun (r : Int32) (u : St) => (WF (wk w) g u ∧ True) ∧ ((r, u) = F_X8_sheet k0 a0 a1 a2 v) ∧ (∀ k j : Nat, ¬ (k = k0 + 6 ∨ k = k0 + 7 ∨ k = k0 + 8) → u.1 k j = v.1 k j)) = post
  refine CTi.of prog_10_method_87_code 5 (some .int) "StarWalkModel" (by decide +kernel) rfl hq hw (Nat.le_of_ble_eq_true rfl) ?_
  intro pg en s m ar bl me cd ls E I hr hlk hl
  have hx := E.1.1
  have hb := E.1.2.1
  have hl : lv_has ls 5 [(0, .ref (wq w k0)), (1, .int a0), (2, .int a1), (3, .int a2)] := hl
  obtain ⟨res, hres⟩ : ∃ z, z = F_X8_sheet k0 a0 a1 a2 v := ⟨_, rfl⟩
  have hF := hres.symm
  unfold F_X8_sheet at hF
  replace hres : res = F_X8_sheet k0 a0 a1 a2 v := hres
  have rz0 : ∀ k j : Nat, ¬ (k = k0 + 6 ∨ k = k0 + 7 ∨ k = k0 + 8) → v.1 k j = v.1 k j := fun _ _ _ => rfl
  obtain ⟨P_40, eP_40, hF⟩ := xl_e hF
  have L_40 : ∀ (n : Nat), ∀ (H : Heap) (lo : List Loc) (v_40 : St), Wo w g s.heap v_40 H lo → ∀ (y40_4 : Int32), (0 ≤ y40_4.toInt ∧ y40_4.toInt ≤ 40) → (0 ≤ a0.toInt ∧ a0.toInt ≤ 3) → (∀ k j : Nat, ¬ (k = k0 + 6 ∨ k = k0 + 7 ∨ k = k0 + 8) → v_40.1 k j = v.1 k j) → (0 ≤ a0.toInt ∧ a0.toInt ≤ 3 ∧ 0 ≤ a1.toInt ∧ a1.toInt ≤ 2 ∧ 0 ≤ a2.toInt ∧ a2.toInt ≤ 40) → (lp P_40 (fun _ _ => ((0 : Int32), v)) n y40_4 v_40 = res) → (2147483647 - y40_4.toInt).toNat < n → ∀ (ls : Array Slot), lv_has ls 5 [(0, .ref (wq w k0)), (1, .int a0), (4, .int y40_4)] → W pg l en (rmL 3) s m ar bl me cd H lo 0 0 (Zi w bl ar s post) (F0 m 40 ls []) := by
    intro n
    induction n with
    | zero => intro H lo v_40 I y40_4 hy40_4 hE40_0 rB40_Z hC40_3 hF hm; exact absurd hm (Nat.not_lt_zero _)
    | succ n ih_40 =>
      intro H lo v_40 I y40_4 hy40_4 hE40_0 rB40_Z hC40_3 hF hm ls hl
      replace hF := lpa2 eP_40 hF
      refine lv_iload hx hb dX8_sheet_40 (lv_at hl 2 rfl) ?_
      refine lv_bipush (v := 40) hx hb dX8_sheet_42 (by decide) ?_
      refine bi_ge E (a := y40_4.toInt) (b := 40) rfl rfl (tgt := 66) dX8_sheet_44 (by decide) (fun c1 => ?_) (fun c1 => ?_)
      ·
        replace hF := if_l c1 hF
        refine lv_iconst (v := 1) hx hb dX8_sheet_66 (by decide) ?_
        exact rI E I hr hlk rfl (by rw [← hpost]; exact ⟨⟨I.2.2, trivial⟩, hF.trans hres, rB40_Z⟩) dX8_sheet_67
      ·
        replace hF := if_t c1 hF
        refine lv_aload_n hx hb dX8_sheet_47 rfl (lv_at hl 0 rfl) ?_
        refine g_StarWalkModel_cells E I h_k0.1 mw_4_198 dX8_sheet_48 ?_
        refine lv_bipush (v := 40) hx hb dX8_sheet_51 (by decide) ?_
        refine lv_iload_n hx hb dX8_sheet_53 rfl (lv_at hl 1 rfl) ?_
        refine lv_imul hx hb dX8_sheet_54 ?_
        refine lv_topi (fun x2 ex2 => ?_)
        replace hF := xl_i (ex2) hF
        have hx2 : x2.toInt = 40 * a0.toInt := by rw [ex2]; exact mlI (a := 40) (b := a0.toInt) rfl rfl (by omega) (by omega)
        refine lv_iload hx hb dX8_sheet_55 (lv_at hl 2 rfl) ?_
        refine lv_iadd hx hb dX8_sheet_57 ?_
        refine lv_topi (fun x3 ex3 => ?_)
        replace hF := xl_i (ex3) hF
        have hx3 : x3.toInt = x2.toInt + y40_4.toInt := by rw [ex3]; exact adI (a := x2.toInt) (b := y40_4.toInt) rfl rfl (by omega) (by omega)
        refine lv_iconst (v := 0) hx hb dX8_sheet_58 (by decide) ?_
        refine pa_37 E I h_k0.2.2.2.2.2.2.2.2.1 (by omega) dX8_sheet_59 (fun H lo I => ?_)
        generalize ev4 : up1 v_40 (k0 + 8) x3.toNatClampNeg (0 : Int32) = v4 at I
        replace hF := xl_i (ev4.symm) hF
        have rzv4 : ∀ k j : Nat, ¬ (k = k0 + 6 ∨ k = k0 + 7 ∨ k = k0 + 8) → v4.1 k j = v.1 k j := fun k j h => fz_u ev4 (by have czx3 := cnI (x := x3) (by omega); omega) (rB40_Z k j h)
        obtain ⟨x5, ex5⟩ : ∃ z : Int32, z = y40_4 + 1 := ⟨_, rfl⟩
        replace hF := xl_i (ex5) hF
        have hx5 : x5.toInt = y40_4.toInt + (1) := by rw [ex5]; exact adI (a := y40_4.toInt) (b := 1) rfl rfl (by omega) (by omega)
        refine lv_iinc (v := x5) (lv' := [(4, .int x5), (0, .ref (wq w k0)), (1, .int a0)]) hx hb dX8_sheet_60 hl (k := 2) rfl (by rw [ex5]; rfl) (by decide) rfl (fun ls hl => ?_)
        refine lv_goto (tgt := 40) hx hb dX8_sheet_63 (by decide) ?_
        exact ih_40 _ _ v4 I x5 (by omega) (by omega) rzv4 (by omega) hF (by omega) ls (lv_sub hl [1, 2, 0] rfl)
  refine lv_iload_n hx hb dX8_sheet_0 rfl (lv_at hl 1 rfl) ?_
  refine lv_iload_n hx hb dX8_sheet_1 rfl (lv_at hl 2 rfl) ?_
  refine cSi E I (c_X8_isSheet l w g v a0 a1 E.2.2.1 I.2.2   ) (va_cwS 2 E.1.2.2.2.2 (gSs mw_6_120 mw_6_121 mw_1_9 mw_6_122) rfl rfl rfl (by decide +kernel) ⟨by decide, by decide⟩) rfl hl.1 rfl (Nat.le_of_ble_eq_true rfl) dX8_sheet_2 ⟨Nat.le_refl _, Nat.le_refl _⟩ (fun r6 u7 H lo hp hPS => ?_)
  obtain ⟨hp, hex, hfr⟩ := hp
  replace hF := xl_i hex hF
  obtain ⟨hu, p8⟩ := hp
  rw [hu] at hPS
  have I : Wo w g s.heap v H lo := ⟨hPS.1, hPS.2, I.2.2⟩
  refine bz_eq E (a := r6.toInt) rfl (tgt := 14) dX8_sheet_5 (by decide) (fun c9 => ?_) (fun c9 => ?_)
  ·
    replace hF := if_t c9 hF
    refine lv_iconst (v := (-1)) hx hb dX8_sheet_14 (by decide) ?_
    exact rI E I hr hlk rfl (by rw [← hpost]; exact ⟨⟨I.2.2, trivial⟩, hF.trans hres, rz0⟩) dX8_sheet_15
  ·
    replace hF := if_f c9 hF
    refine lv_iload_n hx hb dX8_sheet_8 rfl (lv_at hl 3 rfl) ?_
    refine lv_bipush (v := 40) hx hb dX8_sheet_9 (by decide) ?_
    refine bi_le E (a := a2.toInt) (b := 40) rfl rfl (tgt := 16) dX8_sheet_11 (by decide) (fun c10 => ?_) (fun c10 => ?_)
    ·
      replace hF := if_l c10 hF
      refine lv_iload_n hx hb dX8_sheet_16 rfl (lv_at hl 3 rfl) ?_
      refine bz_ge E (a := a2.toInt) rfl (tgt := 23) dX8_sheet_17 (by decide) (fun c11 => ?_) (fun c11 => ?_)
      ·
        replace hF := if_l c11 hF
        refine lv_aload_n hx hb dX8_sheet_23 rfl (lv_at hl 0 rfl) ?_
        refine g_StarWalkModel_lanes E I h_k0.1 mw_4_196 dX8_sheet_24 ?_
        refine lv_iload_n hx hb dX8_sheet_27 rfl (lv_at hl 1 rfl) ?_
        refine lv_iload_n hx hb dX8_sheet_28 rfl (lv_at hl 2 rfl) ?_
        refine pa_35 E I h_k0.2.2.2.2.2.2.1 (by omega) dX8_sheet_29 (fun H lo I => ?_)
        generalize ev12 : up1 v (k0 + 6) a0.toNatClampNeg a1 = v12 at I
        replace hF := xl_i (ev12.symm) hF
        have rzv12 : ∀ k j : Nat, ¬ (k = k0 + 6 ∨ k = k0 + 7 ∨ k = k0 + 8) → v12.1 k j = v.1 k j := fun k j h => fz_u ev12 (by have cza0 := cnI (x := a0) (by omega); omega) (rz0 k j h)
        refine lv_aload_n hx hb dX8_sheet_30 rfl (lv_at hl 0 rfl) ?_
        refine g_StarWalkModel_sizes E I h_k0.1 mw_4_197 dX8_sheet_31 ?_
        refine lv_iload_n hx hb dX8_sheet_34 rfl (lv_at hl 1 rfl) ?_
        refine lv_iload_n hx hb dX8_sheet_35 rfl (lv_at hl 3 rfl) ?_
        refine pa_36 E I h_k0.2.2.2.2.2.2.2.1 (by omega) (by have ci := cnI (x := a0) (by omega); simp only [okk]; omega) dX8_sheet_36 (fun H lo I => ?_)
        generalize ev13 : up1 v12 (k0 + 7) a0.toNatClampNeg a2 = v13 at I
        replace hF := xl_i (ev13.symm) hF
        have rzv13 : ∀ k j : Nat, ¬ (k = k0 + 6 ∨ k = k0 + 7 ∨ k = k0 + 8) → v13.1 k j = v.1 k j := fun k j h => fz_u ev13 (by have cza0 := cnI (x := a0) (by omega); omega) (rzv12 k j h)
        refine lv_iconst (v := 0) hx hb dX8_sheet_37 (by decide) ?_
        refine lv_istore (lv' := [(4, .int 0), (0, .ref (wq w k0)), (1, .int a0), (2, .int a1), (3, .int a2)]) hx hb dX8_sheet_38 hl (by decide) rfl (fun ls hl => ?_)
        exact L_40 ((2147483647 - (0 : Int32).toInt).toNat + 1) _ _ v13 I (0 : Int32) (by decide) (by omega) rzv13 (by omega) hF (Nat.lt_succ_self _) ls (lv_sub hl [1, 2, 0] rfl)
      ·
        replace hF := if_t c11 hF
        refine lv_bipush (v := (-14)) hx hb dX8_sheet_20 (by decide) ?_
        exact rI E I hr hlk rfl (by rw [← hpost]; exact ⟨⟨I.2.2, trivial⟩, hF.trans hres, rz0⟩) dX8_sheet_22
    ·
      replace hF := if_t c10 hF
      refine lv_iconst (v := (-1)) hx hb dX8_sheet_14 (by decide) ?_
      exact rI E I hr hlk rfl (by rw [← hpost]; exact ⟨⟨I.2.2, trivial⟩, hF.trans hres, rz0⟩) dX8_sheet_15
def F_X8_lay (k0 : Nat) (a0 : Int32) (a1 : Int32) (a2 : Int32) (v : St) : Int32 × St :=
xl (F_X8_isSheet a0 (0 : Int32) v) fun r1 =>
if r1.toInt = 0 then (
((-1 : Int32), v)) else (
xl (v.1 (k0 + 6) a0.toNatClampNeg) fun x6 =>
if x6.toInt = (-4) then (
((-11 : Int32), v)) else (
xl (v.1 (k0 + 7) a0.toNatClampNeg) fun x9 =>
xl (x9 - (1 : Int32)) fun x10 =>
xl (F_X8_in a1.toInt64 (0 : Int64) x10.toInt64 v) fun r12 =>
if r12.toInt = 0 then (
((-12 : Int32), v)) else (
xl ((40 : Int32) * a0) fun x19 =>
xl (x19 + a1) fun x20 =>
xl (v.1 (k0 + 6) a0.toNatClampNeg) fun x21 =>
if x21.toInt = 0 then (
xl (a2.toInt8.toInt32) fun x28 =>
xl (up1 v (k0 + 8) x20.toNatClampNeg x28) fun v29 =>
((1 : Int32), v29)) else (
xl (v.1 (k0 + 6) a0.toNatClampNeg) fun x23 =>
if x23.toInt = 1 then (
xl (a2.toInt16.toInt32) fun x26 =>
xl (up1 v (k0 + 8) x20.toNatClampNeg x26) fun v27 =>
((1 : Int32), v27)) else (
xl (up1 v (k0 + 8) x20.toNatClampNeg a2) fun v25 =>
((1 : Int32), v25))))))
set_option maxHeartbeats 4000000 in
set_option maxRecDepth 100000 in
theorem c_X8_lay (l : Launch) (w : Wp) (g : Nat → Nat → Int32) (v : St) (k0 : Nat) (a0 : Int32) (a1 : Int32) (a2 : Int32) (hq : Inj w) (hw : WF (wk w) g v) (h_k0 : oM w k0) : CTi w l yX8_lay (wsy yX8_lay prog_10_method_88_code 4 (some .int)) (rmL 3) [.ref (wq w k0), .int a0, .int a1, .int a2] v (fun (r : Int32) (u : St) => (WF (wk w) g u ∧ True) ∧ ((r, u) = F_X8_lay k0 a0 a1 a2 v) ∧ (∀ k j : Nat, ¬ (k = k0 + 8) → u.1 k j = v.1 k j)) := by
  generalize hpost : (fun (r : Int32) (u : St) => (WF (wk w) g u ∧ True) ∧ ((r, u) = F_X8_lay k0 a0 a1 a2 v) ∧ (∀ k j : Nat, ¬ (k = k0 + 8) → u.1 k j = v.1 k j)) = post
  refine CTi.of prog_10_method_88_code 4 (some .int) "StarWalkModel" (by decide +kernel) rfl hq hw (Nat.le_of_ble_eq_true rfl) ?_
  intro pg en s m ar bl me cd ls E I hr hlk hl
  have hx := E.1.1
  have hb := E.1.2.1
  have hl : lv_has ls 4 [(0, .ref (wq w k0)), (1, .int a0), (2, .int a1), (3, .int a2)] := hl
  obtain ⟨res, hres⟩ : ∃ z, z = F_X8_lay k0 a0 a1 a2 v := ⟨_, rfl⟩
  have hF := hres.symm
  unfold F_X8_lay at hF
  replace hres : res = F_X8_lay k0 a0 a1 a2 v := hres
  have rz0 : ∀ k j : Nat, ¬ (k = k0 + 8) → v.1 k j = v.1 k j := fun _ _ _ => rfl
  refine lv_iload_n hx hb dX8_lay_0 rfl (lv_at hl 1 rfl) ?_
  refine lv_iconst (v := 0) hx hb dX8_lay_1 (by decide) ?_
  refine cSi E I (c_X8_isSheet l w g v a0 (0 : Int32) E.2.2.1 I.2.2   ) (va_cwS 2 E.1.2.2.2.2 (gSs mw_6_120 mw_6_121 mw_1_9 mw_6_122) rfl rfl rfl (by decide +kernel) ⟨by decide, by decide⟩) rfl hl.1 rfl (Nat.le_of_ble_eq_true rfl) dX8_lay_2 ⟨Nat.le_refl _, Nat.le_refl _⟩ (fun r1 u2 H lo hp hPS => ?_)
  have iz3 : (0 : Int32).toInt = 0 := rfl
  obtain ⟨hp, hex, hfr⟩ := hp
  replace hF := xl_i hex hF
  obtain ⟨hu, p4⟩ := hp
  rw [hu] at hPS
  have I : Wo w g s.heap v H lo := ⟨hPS.1, hPS.2, I.2.2⟩
  refine bz_ne E (a := r1.toInt) rfl (tgt := 10) dX8_lay_5 (by decide) (fun c5 => ?_) (fun c5 => ?_)
  ·
    replace hF := if_f c5 hF
    refine lv_aload_n hx hb dX8_lay_10 rfl (lv_at hl 0 rfl) ?_
    refine g_StarWalkModel_lanes E I h_k0.1 mw_4_196 dX8_lay_11 ?_
    refine lv_iload_n hx hb dX8_lay_14 rfl (lv_at hl 1 rfl) ?_
    refine ga_35 E I h_k0.2.2.2.2.2.2.1 (by omega) dX8_lay_15 ?_
    refine lv_topi (fun x6 ex6 => ?_)
    replace hF := xl_i (ex6) hF
    refine lv_bipush (v := (-4)) hx hb dX8_lay_16 (by decide) ?_
    refine bi_ne E (a := x6.toInt) (b := (-4)) rfl rfl (tgt := 24) dX8_lay_18 (by decide) (fun c7 => ?_) (fun c7 => ?_)
    ·
      replace hF := if_f c7 hF
      refine lv_iload_n hx hb dX8_lay_24 rfl (lv_at hl 2 rfl) ?_
      refine lv_i2l (v := a1.toInt64) hx hb dX8_lay_25 rfl ?_
      refine lv_lconst (v := 0) hx hb dX8_lay_26 (by decide) ?_
      refine lv_aload_n hx hb dX8_lay_27 rfl (lv_at hl 0 rfl) ?_
      refine g_StarWalkModel_sizes E I h_k0.1 mw_4_197 dX8_lay_28 ?_
      refine lv_iload_n hx hb dX8_lay_31 rfl (lv_at hl 1 rfl) ?_
      refine ga_36 E I h_k0.2.2.2.2.2.2.2.1 (by omega) dX8_lay_32 ?_
      refine lv_topi (fun x9 ex9 => ?_)
      replace hF := xl_i (ex9) hF
      have hx9 := ra_36 I h_k0.2.2.2.2.2.2.2.1 a0.toNatClampNeg
      rw [← ex9] at hx9
      have hx9 : 0 ≤ x9.toInt ∧ x9.toInt ≤ 40 := by
        have ci := cnI (x := a0) (by omega)
        simp only [okk] at hx9
        omega
      refine lv_iconst (v := 1) hx hb dX8_lay_33 (by decide) ?_
      refine lv_isub hx hb dX8_lay_34 ?_
      refine lv_topi (fun x10 ex10 => ?_)
      replace hF := xl_i (ex10) hF
      have hx10 : x10.toInt = x9.toInt - 1 := by rw [ex10]; exact sbI (a := x9.toInt) (b := 1) rfl rfl (by omega) (by omega)
      refine lv_i2l (v := x10.toInt64) hx hb dX8_lay_35 rfl ?_
      refine cSi E I (c_X8_in l w g v a1.toInt64 (0 : Int64) x10.toInt64 E.2.2.1 I.2.2   ) (va_cwS 3 E.1.2.2.2.2 (gSs mw_5_29 mw_5_30 mw_1_9 mw_5_31) rfl rfl rfl (by decide +kernel) ⟨by decide, by decide⟩) rfl hl.1 rfl (Nat.le_of_ble_eq_true rfl) dX8_lay_36 ⟨Nat.le_refl _, Nat.le_refl _⟩ (fun r12 u13 H lo hp hPS => ?_)
      have iz14 := i64_of a1
      have iz15 : (0 : Int64).toInt = 0 := rfl
      have iz16 := i64_of x10
      obtain ⟨hp, hex, hfr⟩ := hp
      replace hF := xl_i hex hF
      obtain ⟨hu, p17⟩ := hp
      rw [hu] at hPS
      have I : Wo w g s.heap v H lo := ⟨hPS.1, hPS.2, I.2.2⟩
      refine bz_ne E (a := r12.toInt) rfl (tgt := 45) dX8_lay_39 (by decide) (fun c18 => ?_) (fun c18 => ?_)
      ·
        replace hF := if_f c18 hF
        refine lv_aload_n hx hb dX8_lay_45 rfl (lv_at hl 0 rfl) ?_
        refine g_StarWalkModel_cells E I h_k0.1 mw_4_198 dX8_lay_46 ?_
        refine lv_bipush (v := 40) hx hb dX8_lay_49 (by decide) ?_
        refine lv_iload_n hx hb dX8_lay_51 rfl (lv_at hl 1 rfl) ?_
        refine lv_imul hx hb dX8_lay_52 ?_
        refine lv_topi (fun x19 ex19 => ?_)
        replace hF := xl_i (ex19) hF
        have hx19 : x19.toInt = 40 * a0.toInt := by rw [ex19]; exact mlI (a := 40) (b := a0.toInt) rfl rfl (by omega) (by omega)
        refine lv_iload_n hx hb dX8_lay_53 rfl (lv_at hl 2 rfl) ?_
        refine lv_iadd hx hb dX8_lay_54 ?_
        refine lv_topi (fun x20 ex20 => ?_)
        replace hF := xl_i (ex20) hF
        have hx20 : x20.toInt = x19.toInt + a1.toInt := by rw [ex20]; exact adI (a := x19.toInt) (b := a1.toInt) rfl rfl (by omega) (by omega)
        refine lv_aload_n hx hb dX8_lay_55 rfl (lv_at hl 0 rfl) ?_
        refine g_StarWalkModel_lanes E I h_k0.1 mw_4_196 dX8_lay_56 ?_
        refine lv_iload_n hx hb dX8_lay_59 rfl (lv_at hl 1 rfl) ?_
        refine ga_35 E I h_k0.2.2.2.2.2.2.1 (by omega) dX8_lay_60 ?_
        refine lv_topi (fun x21 ex21 => ?_)
        replace hF := xl_i (ex21) hF
        refine bz_ne E (a := x21.toInt) rfl (tgt := 69) dX8_lay_61 (by decide) (fun c22 => ?_) (fun c22 => ?_)
        ·
          replace hF := if_f c22 hF
          refine lv_aload_n hx hb dX8_lay_69 rfl (lv_at hl 0 rfl) ?_
          refine g_StarWalkModel_lanes E I h_k0.1 mw_4_196 dX8_lay_70 ?_
          refine lv_iload_n hx hb dX8_lay_73 rfl (lv_at hl 1 rfl) ?_
          refine ga_35 E I h_k0.2.2.2.2.2.2.1 (by omega) dX8_lay_74 ?_
          refine lv_topi (fun x23 ex23 => ?_)
          replace hF := xl_i (ex23) hF
          refine lv_iconst (v := 1) hx hb dX8_lay_75 (by decide) ?_
          refine bi_ne E (a := x23.toInt) (b := 1) rfl rfl (tgt := 84) dX8_lay_76 (by decide) (fun c24 => ?_) (fun c24 => ?_)
          ·
            replace hF := if_f c24 hF
            refine lv_iload_n hx hb dX8_lay_84 rfl (lv_at hl 3 rfl) ?_
            refine pa_37 E I h_k0.2.2.2.2.2.2.2.2.1 (by omega) dX8_lay_85 (fun H lo I => ?_)
            generalize ev25 : up1 v (k0 + 8) x20.toNatClampNeg a2 = v25 at I
            replace hF := xl_i (ev25.symm) hF
            have rzv25 : ∀ k j : Nat, ¬ (k = k0 + 8) → v25.1 k j = v.1 k j := fun k j h => fz_u ev25 (by have czx20 := cnI (x := x20) (by omega); omega) (rz0 k j h)
            refine lv_iconst (v := 1) hx hb dX8_lay_86 (by decide) ?_
            exact rI E I hr hlk rfl (by rw [← hpost]; exact ⟨⟨I.2.2, trivial⟩, hF.trans hres, rzv25⟩) dX8_lay_87
          ·
            replace hF := if_t c24 hF
            refine lv_iload_n hx hb dX8_lay_79 rfl (lv_at hl 3 rfl) ?_
            refine lv_i2s (v := _) hx hb dX8_lay_80 rfl ?_
            refine lv_topi (fun x26 ex26 => ?_)
            replace hF := xl_i (ex26) hF
            refine lv_goto (tgt := 85) hx hb dX8_lay_81 (by decide) ?_
            refine pa_37 E I h_k0.2.2.2.2.2.2.2.2.1 (by omega) dX8_lay_85 (fun H lo I => ?_)
            generalize ev27 : up1 v (k0 + 8) x20.toNatClampNeg x26 = v27 at I
            replace hF := xl_i (ev27.symm) hF
            have rzv27 : ∀ k j : Nat, ¬ (k = k0 + 8) → v27.1 k j = v.1 k j := fun k j h => fz_u ev27 (by have czx20 := cnI (x := x20) (by omega); omega) (rz0 k j h)
            refine lv_iconst (v := 1) hx hb dX8_lay_86 (by decide) ?_
            exact rI E I hr hlk rfl (by rw [← hpost]; exact ⟨⟨I.2.2, trivial⟩, hF.trans hres, rzv27⟩) dX8_lay_87
        ·
          replace hF := if_t c22 hF
          refine lv_iload_n hx hb dX8_lay_64 rfl (lv_at hl 3 rfl) ?_
          refine lv_i2b (v := _) hx hb dX8_lay_65 rfl ?_
          refine lv_topi (fun x28 ex28 => ?_)
          replace hF := xl_i (ex28) hF
          refine lv_goto (tgt := 85) hx hb dX8_lay_66 (by decide) ?_
          refine pa_37 E I h_k0.2.2.2.2.2.2.2.2.1 (by omega) dX8_lay_85 (fun H lo I => ?_)
          generalize ev29 : up1 v (k0 + 8) x20.toNatClampNeg x28 = v29 at I
          replace hF := xl_i (ev29.symm) hF
          have rzv29 : ∀ k j : Nat, ¬ (k = k0 + 8) → v29.1 k j = v.1 k j := fun k j h => fz_u ev29 (by have czx20 := cnI (x := x20) (by omega); omega) (rz0 k j h)
          refine lv_iconst (v := 1) hx hb dX8_lay_86 (by decide) ?_
          exact rI E I hr hlk rfl (by rw [← hpost]; exact ⟨⟨I.2.2, trivial⟩, hF.trans hres, rzv29⟩) dX8_lay_87
      ·
        replace hF := if_t c18 hF
        refine lv_bipush (v := (-12)) hx hb dX8_lay_42 (by decide) ?_
        exact rI E I hr hlk rfl (by rw [← hpost]; exact ⟨⟨I.2.2, trivial⟩, hF.trans hres, rz0⟩) dX8_lay_44
    ·
      replace hF := if_t c7 hF
      refine lv_bipush (v := (-11)) hx hb dX8_lay_21 (by decide) ?_
      exact rI E I hr hlk rfl (by rw [← hpost]; exact ⟨⟨I.2.2, trivial⟩, hF.trans hres, rz0⟩) dX8_lay_23
  ·
    replace hF := if_t c5 hF
    refine lv_iconst (v := (-1)) hx hb dX8_lay_8 (by decide) ?_
    exact rI E I hr hlk rfl (by rw [← hpost]; exact ⟨⟨I.2.2, trivial⟩, hF.trans hres, rz0⟩) dX8_lay_9
def F_X8_torn (k0 : Nat) (v : St) : Int32 :=
xl (v.1 k0 29) fun x1 =>
x1
set_option maxHeartbeats 4000000 in
set_option maxRecDepth 100000 in
theorem c_X8_torn (l : Launch) (w : Wp) (g : Nat → Nat → Int32) (v : St) (k0 : Nat) (hq : Inj w) (hw : WF (wk w) g v) (h_k0 : oM w k0) : CTi w l yX8_torn (wsy yX8_torn prog_10_method_90_code 1 (some .int)) (rmL 1) [.ref (wq w k0)] v (fun (r : Int32) (u : St) => (u = v ∧ True) ∧ (r = F_X8_torn k0 v) ∧ True) := by
  generalize hpost : (fun (r : Int32) (u : St) => (u = v ∧ True) ∧ (r = F_X8_torn k0 v) ∧ True) = post
  refine CTi.of prog_10_method_90_code 1 (some .int) "StarWalkModel" (by decide +kernel) rfl hq hw (Nat.le_of_ble_eq_true rfl) ?_
  intro pg en s m ar bl me cd ls E I hr hlk hl
  have hx := E.1.1
  have hb := E.1.2.1
  have hl : lv_has ls 1 [(0, .ref (wq w k0))] := hl
  obtain ⟨res, hres⟩ : ∃ z, z = F_X8_torn k0 v := ⟨_, rfl⟩
  have hF := hres.symm
  unfold F_X8_torn at hF
  replace hres : res = F_X8_torn k0 v := hres
  refine lv_aload_n hx hb dX8_torn_0 rfl (lv_at hl 0 rfl) ?_
  refine g_StarWalkModel_torn E I h_k0.1 mw_4_199 dX8_torn_1 ?_
  refine lv_topi (fun x1 ex1 => ?_)
  replace hF := xl_i (ex1) hF
  exact rI E I hr hlk rfl (by rw [← hpost]; exact ⟨⟨rfl, trivial⟩, hF.trans hres, trivial⟩) dX8_torn_4
def F_X8_count (k0 : Nat) (a0 : Int32) (v : St) : Int32 :=
if a0.toInt = 0 then (
xl (F_X8_known k0 v) fun r2 =>
xl (F_X8_bitsOf r2 v) fun r5 =>
r5) else (
if a0.toInt = 1 then (
xl (v.1 (k0 + 1) (41 : Int32).toNatClampNeg) fun x9 =>
x9) else (
if a0.toInt = 2 then (
xl (v.1 (k0 + 3) (0 : Int32).toNatClampNeg) fun x11 =>
xl (F_X8_flag x11 v) fun r12 =>
xl (v.1 (k0 + 3) (1 : Int32).toNatClampNeg) fun x15 =>
xl (F_X8_flag x15 v) fun r16 =>
xl (r12 + r16) fun x19 =>
x19) else (
if a0.toInt = 3 then (
xl (v.1 k0 12) fun x21 =>
x21) else (
if a0.toInt = 4 then (
xl (v.1 (k0 + 6) (0 : Int32).toNatClampNeg) fun x23 =>
if x23.toInt = (-4) then (
(-4 : Int32)) else (
xl (v.1 (k0 + 7) (0 : Int32).toNatClampNeg) fun x25 =>
x25)) else (
(-1 : Int32))))))
set_option maxHeartbeats 4000000 in
set_option maxRecDepth 100000 in
theorem c_X8_count (l : Launch) (w : Wp) (g : Nat → Nat → Int32) (v : St) (k0 : Nat) (a0 : Int32) (hq : Inj w) (hw : WF (wk w) g v) (h_k0 : oM w k0) : CTi w l yX8_count (wsy yX8_count prog_10_method_91_code 2 (some .int)) (rmL 2) [.ref (wq w k0), .int a0] v (fun (r : Int32) (u : St) => (u = v ∧ True) ∧ (r = F_X8_count k0 a0 v) ∧ True) := by
  generalize hpost : (fun (r : Int32) (u : St) => (u = v ∧ True) ∧ (r = F_X8_count k0 a0 v) ∧ True) = post
  refine CTi.of prog_10_method_91_code 2 (some .int) "StarWalkModel" (by decide +kernel) rfl hq hw (Nat.le_of_ble_eq_true rfl) ?_
  intro pg en s m ar bl me cd ls E I hr hlk hl
  have hx := E.1.1
  have hb := E.1.2.1
  have hl : lv_has ls 2 [(0, .ref (wq w k0)), (1, .int a0)] := hl
  obtain ⟨res, hres⟩ : ∃ z, z = F_X8_count k0 a0 v := ⟨_, rfl⟩
  have hF := hres.symm
  unfold F_X8_count at hF
  replace hres : res = F_X8_count k0 a0 v := hres
  refine lv_iload_n hx hb dX8_count_0 rfl (lv_at hl 1 rfl) ?_
  by_cases c1 : a0.toInt = 0
  ·
    replace hF := if_t c1 hF
    refine lv_tableIn hx hb dX8_count_1 (by omega) (by omega) (by rw [c1]; rfl) (tgt := 36) (by decide) ?_
    refine lv_aload_n hx hb dX8_count_36 rfl (lv_at hl 0 rfl) ?_
    refine cVi E I (c_X8_known l w g v k0 E.2.2.1 I.2.2 h_k0  ) (cwV 0 E.1.2.2.2.2 (gWs (C := "StarWalkModel") mw_6_34 mw_6_36 mw_s_58 mw_1_9 mw_6_37) rfl rfl rfl (by decide +kernel) ⟨by decide, by decide⟩) h_k0.1.1 ((ce_o h_k0.1.2).trans rfl) rfl rfl hl.1 rfl (Nat.le_of_ble_eq_true rfl) dX8_count_37 ⟨Nat.le_refl _, Nat.le_refl _⟩ (fun r2 u3 H lo hp hPS => ?_)
    obtain ⟨hp, hex, hfr⟩ := hp
    replace hF := xl_i hex hF
    obtain ⟨hu, p4⟩ := hp
    rw [hu] at hPS
    have I : Wo w g s.heap v H lo := ⟨hPS.1, hPS.2, I.2.2⟩
    refine cSi E I (c_X8_bitsOf l w g v r2 E.2.2.1 I.2.2   ) (va_cwS 1 E.1.2.2.2.2 (gSs mw_6_38 mw_6_39 mw_1_9 mw_6_40) rfl rfl rfl (by decide +kernel) ⟨by decide, by decide⟩) rfl hl.1 rfl (Nat.le_of_ble_eq_true rfl) dX8_count_40 ⟨Nat.le_refl _, Nat.le_refl _⟩ (fun r5 u6 H lo hp hPS => ?_)
    obtain ⟨hp, hex, hfr⟩ := hp
    replace hF := xl_i hex hF
    obtain ⟨hu, p7⟩ := hp
    rw [hu] at hPS
    have I : Wo w g s.heap v H lo := ⟨hPS.1, hPS.2, I.2.2⟩
    exact rI E I hr hlk rfl (by rw [← hpost]; exact ⟨⟨rfl, trivial⟩, hF.trans hres, trivial⟩) dX8_count_43
  replace hF := if_f c1 hF
  by_cases c8 : a0.toInt = 1
  ·
    replace hF := if_t c8 hF
    refine lv_tableIn hx hb dX8_count_1 (by omega) (by omega) (by rw [c8]; rfl) (tgt := 44) (by decide) ?_
    refine lv_aload_n hx hb dX8_count_44 rfl (lv_at hl 0 rfl) ?_
    refine g_StarWalkModel_st E I h_k0.1 mw_4_170 dX8_count_45 ?_
    refine lv_bipush (v := 41) hx hb dX8_count_48 (by decide) ?_
    refine ga_30 E I h_k0.2.1 (by decide) dX8_count_50 ?_
    refine lv_topi (fun x9 ex9 => ?_)
    replace hF := xl_i (ex9) hF
    have hx9 : 0 ≤ x9.toInt ∧ x9.toInt ≤ 6 := by have h := ra_30 I h_k0.2.1 41; rw [ex9]; exact h.2.2.2.2 rfl
    exact rI E I hr hlk rfl (by rw [← hpost]; exact ⟨⟨rfl, trivial⟩, hF.trans hres, trivial⟩) dX8_count_51
  replace hF := if_f c8 hF
  by_cases c10 : a0.toInt = 2
  ·
    replace hF := if_t c10 hF
    refine lv_tableIn hx hb dX8_count_1 (by omega) (by omega) (by rw [c10]; rfl) (tgt := 52) (by decide) ?_
    refine lv_aload_n hx hb dX8_count_52 rfl (lv_at hl 0 rfl) ?_
    refine g_StarWalkModel_isKept E I h_k0.1 mw_4_172 dX8_count_53 ?_
    refine lv_iconst (v := 0) hx hb dX8_count_56 (by decide) ?_
    refine ga_32 E I h_k0.2.2.2.1 (by decide) dX8_count_57 ?_
    refine lv_topi (fun x11 ex11 => ?_)
    replace hF := xl_i (ex11) hF
    refine cSi E I (c_X8_flag l w g v x11 E.2.2.1 I.2.2   ) (va_cwS 1 E.1.2.2.2.2 (gSs mw_5_119 mw_5_120 mw_1_9 mw_5_121) rfl rfl rfl (by decide +kernel) ⟨by decide, by decide⟩) rfl hl.1 rfl (Nat.le_of_ble_eq_true rfl) dX8_count_58 ⟨Nat.le_refl _, Nat.le_refl _⟩ (fun r12 u13 H lo hp hPS => ?_)
    obtain ⟨hp, hex, hfr⟩ := hp
    replace hF := xl_i hex hF
    obtain ⟨hu, p14⟩ := hp
    rw [hu] at hPS
    have I : Wo w g s.heap v H lo := ⟨hPS.1, hPS.2, I.2.2⟩
    refine lv_aload_n hx hb dX8_count_61 rfl (lv_at hl 0 rfl) ?_
    refine g_StarWalkModel_isKept E I h_k0.1 mw_4_172 dX8_count_62 ?_
    refine lv_iconst (v := 1) hx hb dX8_count_65 (by decide) ?_
    refine ga_32 E I h_k0.2.2.2.1 (by decide) dX8_count_66 ?_
    refine lv_topi (fun x15 ex15 => ?_)
    replace hF := xl_i (ex15) hF
    refine cSi E I (c_X8_flag l w g v x15 E.2.2.1 I.2.2   ) (va_cwS 1 E.1.2.2.2.2 (gSs mw_5_119 mw_5_120 mw_1_9 mw_5_121) rfl rfl rfl (by decide +kernel) ⟨by decide, by decide⟩) rfl hl.1 rfl (Nat.le_of_ble_eq_true rfl) dX8_count_67 ⟨Nat.le_refl _, Nat.le_refl _⟩ (fun r16 u17 H lo hp hPS => ?_)
    obtain ⟨hp, hex, hfr⟩ := hp
    replace hF := xl_i hex hF
    obtain ⟨hu, p18⟩ := hp
    rw [hu] at hPS
    have I : Wo w g s.heap v H lo := ⟨hPS.1, hPS.2, I.2.2⟩
    refine lv_iadd hx hb dX8_count_70 ?_
    refine lv_topi (fun x19 ex19 => ?_)
    replace hF := xl_i (ex19) hF
    have hx19 : x19.toInt = r12.toInt + r16.toInt := by rw [ex19]; exact adI (a := r12.toInt) (b := r16.toInt) rfl rfl (by omega) (by omega)
    exact rI E I hr hlk rfl (by rw [← hpost]; exact ⟨⟨rfl, trivial⟩, hF.trans hres, trivial⟩) dX8_count_71
  replace hF := if_f c10 hF
  by_cases c20 : a0.toInt = 3
  ·
    replace hF := if_t c20 hF
    refine lv_tableIn hx hb dX8_count_1 (by omega) (by omega) (by rw [c20]; rfl) (tgt := 72) (by decide) ?_
    refine lv_aload_n hx hb dX8_count_72 rfl (lv_at hl 0 rfl) ?_
    refine g_StarWalkModel_taped E I h_k0.1 mw_4_182 dX8_count_73 ?_
    refine lv_topi (fun x21 ex21 => ?_)
    replace hF := xl_i (ex21) hF
    have hx21 := r_StarWalkModel_taped I h_k0.1
    rw [← ex21] at hx21
    exact rI E I hr hlk rfl (by rw [← hpost]; exact ⟨⟨rfl, trivial⟩, hF.trans hres, trivial⟩) dX8_count_76
  replace hF := if_f c20 hF
  by_cases c22 : a0.toInt = 4
  ·
    replace hF := if_t c22 hF
    refine lv_tableIn hx hb dX8_count_1 (by omega) (by omega) (by rw [c22]; rfl) (tgt := 77) (by decide) ?_
    refine lv_aload_n hx hb dX8_count_77 rfl (lv_at hl 0 rfl) ?_
    refine g_StarWalkModel_lanes E I h_k0.1 mw_4_196 dX8_count_78 ?_
    refine lv_iconst (v := 0) hx hb dX8_count_81 (by decide) ?_
    refine ga_35 E I h_k0.2.2.2.2.2.2.1 (by decide) dX8_count_82 ?_
    refine lv_topi (fun x23 ex23 => ?_)
    replace hF := xl_i (ex23) hF
    refine lv_bipush (v := (-4)) hx hb dX8_count_83 (by decide) ?_
    refine bi_ne E (a := x23.toInt) (b := (-4)) rfl rfl (tgt := 93) dX8_count_85 (by decide) (fun c24 => ?_) (fun c24 => ?_)
    ·
      replace hF := if_f c24 hF
      refine lv_aload_n hx hb dX8_count_93 rfl (lv_at hl 0 rfl) ?_
      refine g_StarWalkModel_sizes E I h_k0.1 mw_4_197 dX8_count_94 ?_
      refine lv_iconst (v := 0) hx hb dX8_count_97 (by decide) ?_
      refine ga_36 E I h_k0.2.2.2.2.2.2.2.1 (by decide) dX8_count_98 ?_
      refine lv_topi (fun x25 ex25 => ?_)
      replace hF := xl_i (ex25) hF
      have hx25 : 0 ≤ x25.toInt ∧ x25.toInt ≤ 40 := by have h := ra_36 I h_k0.2.2.2.2.2.2.2.1 0; rw [ex25]; exact h
      exact rI E I hr hlk rfl (by rw [← hpost]; exact ⟨⟨rfl, trivial⟩, hF.trans hres, trivial⟩) dX8_count_99
    ·
      replace hF := if_t c24 hF
      refine lv_bipush (v := (-4)) hx hb dX8_count_88 (by decide) ?_
      refine lv_goto (tgt := 99) hx hb dX8_count_90 (by decide) ?_
      exact rI E I hr hlk rfl (by rw [← hpost]; exact ⟨⟨rfl, trivial⟩, hF.trans hres, trivial⟩) dX8_count_99
  replace hF := if_f c22 hF
  refine lv_tableOut hx hb dX8_count_1 (by omega) (tgt := 100) (by decide) ?_
  refine lv_iconst (v := (-1)) hx hb dX8_count_100 (by decide) ?_
  exact rI E I hr hlk rfl (by rw [← hpost]; exact ⟨⟨rfl, trivial⟩, hF.trans hres, trivial⟩) dX8_count_101
