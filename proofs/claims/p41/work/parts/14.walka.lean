def F_X7_feed (k0 : Nat) (a0 : Int32) (v : St) : Int32 × St :=
if a0.toInt < 0 then (
((-1 : Int32), v)) else (
if 127 < a0.toInt then (
((-1 : Int32), v)) else (
xm (F_X5_addByte (k0 + 1) a0 v) fun r3 u4 =>
if r3.toInt = 0 then (
((-3 : Int32), u4)) else (
xl (u4.1 (k0 + 1) 1) fun x7 =>
(x7, u4))))
set_option maxHeartbeats 4000000 in
set_option maxRecDepth 100000 in
theorem c_X7_feed (l : Launch) (w : Wp) (g : Nat → Nat → Int32) (v : St) (k0 : Nat) (a0 : Int32) (hq : Inj w) (hw : WF (wk w) g v) (h_k0 : oW w k0) : CTi w l yX7_feed (wsy yX7_feed prog_1_method_2_code 2 (some .int)) (rmL 2) [.ref (wq w k0), .int a0] v (fun (r : Int32) (u : St) => (WF (wk w) g u ∧ True) ∧ ((r, u) = F_X7_feed k0 a0 v) ∧ (∀ k j : Nat, ¬ ((k = k0 + 1 ∧ j = 1) ∨ k = k0 + 2) → u.1 k j = v.1 k j)) := by
  generalize hpost : (fun (r : Int32) (u : St) => (WF (wk w) g u ∧ True) ∧ ((r, u) = F_X7_feed k0 a0 v) ∧ (∀ k j : Nat, ¬ ((k = k0 + 1 ∧ j = 1) ∨ k = k0 + 2) → u.1 k j = v.1 k j)) = post
  refine CTi.of prog_1_method_2_code 2 (some .int) "StarWalk" (by decide +kernel) rfl hq hw (Nat.le_of_ble_eq_true rfl) ?_
  intro pg en s m ar bl me cd ls E I hr hlk hl
  have hx := E.1.1
  have hb := E.1.2.1
  have hl : lv_has ls 2 [(0, .ref (wq w k0)), (1, .int a0)] := hl
  obtain ⟨res, hres⟩ : ∃ z, z = F_X7_feed k0 a0 v := ⟨_, rfl⟩
  have hF := hres.symm
  unfold F_X7_feed at hF
  replace hres : res = F_X7_feed k0 a0 v := hres
  have rz0 : ∀ k j : Nat, ¬ ((k = k0 + 1 ∧ j = 1) ∨ k = k0 + 2) → v.1 k j = v.1 k j := fun _ _ _ => rfl
  refine lv_iload_n hx hb dX7_feed_0 rfl (lv_at hl 1 rfl) ?_
  refine bz_lt E (a := a0.toInt) rfl (tgt := 10) dX7_feed_1 (by decide) (fun c1 => ?_) (fun c1 => ?_)
  ·
    replace hF := if_t c1 hF
    refine lv_iconst (v := (-1)) hx hb dX7_feed_10 (by decide) ?_
    exact rI E I hr hlk rfl (by rw [← hpost]; exact ⟨⟨I.2.2, trivial⟩, hF.trans hres, rz0⟩) dX7_feed_11
  ·
    replace hF := if_l c1 hF
    refine lv_iload_n hx hb dX7_feed_4 rfl (lv_at hl 1 rfl) ?_
    refine lv_bipush (v := 127) hx hb dX7_feed_5 (by decide) ?_
    refine bi_le E (a := a0.toInt) (b := 127) rfl rfl (tgt := 12) dX7_feed_7 (by decide) (fun c2 => ?_) (fun c2 => ?_)
    ·
      replace hF := if_l c2 hF
      refine lv_aload_n hx hb dX7_feed_12 rfl (lv_at hl 0 rfl) ?_
      refine g_StarWalk_tape E I h_k0.1 mw_2_68 dX7_feed_13 ?_
      refine lv_iload_n hx hb dX7_feed_16 rfl (lv_at hl 1 rfl) ?_
      refine cVi E I (c_X5_addByte l w g v (k0 + 1) a0 E.2.2.1 I.2.2 h_k0.2.1  ) (cwV 1 E.1.2.2.2.2 (gWs (C := "StarWalk$Tape") mw_2_106 mw_2_107 mw_2_108 mw_1_2 mw_2_109) rfl rfl rfl (by decide +kernel) ⟨by decide, by decide⟩) h_k0.2.1.1.1 ((ce_o h_k0.2.1.1.2).trans rfl) rfl rfl hl.1 rfl (Nat.le_of_ble_eq_true rfl) dX7_feed_17 ⟨Nat.le_refl _, Nat.le_refl _⟩ (fun r3 u4 H lo hp hPS => ?_)
      obtain ⟨hp, hex, hfr⟩ := hp
      replace hF := xm_i hex hF
      obtain ⟨hwf, p5⟩ := hp
      have I : Wo w g s.heap u4 H lo := ⟨hPS.1, hPS.2, hwf⟩
      have rzu4 : ∀ k j : Nat, ¬ ((k = k0 + 1 ∧ j = 1) ∨ k = k0 + 2) → u4.1 k j = v.1 k j := fun k j h => (hfr k j (fun z => h (by rcases z with z | z <;> omega))).trans (rz0 k j h)
      refine bz_eq E (a := r3.toInt) rfl (tgt := 33) dX7_feed_20 (by decide) (fun c6 => ?_) (fun c6 => ?_)
      ·
        replace hF := if_t c6 hF
        refine lv_bipush (v := (-3)) hx hb dX7_feed_33 (by decide) ?_
        exact rI E I hr hlk rfl (by rw [← hpost]; exact ⟨⟨I.2.2, trivial⟩, hF.trans hres, rzu4⟩) dX7_feed_35
      ·
        replace hF := if_f c6 hF
        refine lv_aload_n hx hb dX7_feed_23 rfl (lv_at hl 0 rfl) ?_
        refine g_StarWalk_tape E I h_k0.1 mw_2_68 dX7_feed_24 ?_
        refine g_Tape_length E I h_k0.2.1.1 mw_1_171 dX7_feed_27 ?_
        refine lv_topi (fun x7 ex7 => ?_)
        replace hF := xl_i (ex7) hF
        have hx7 := r_Tape_length I h_k0.2.1.1
        rw [← ex7] at hx7
        refine lv_goto (tgt := 35) hx hb dX7_feed_30 (by decide) ?_
        exact rI E I hr hlk rfl (by rw [← hpost]; exact ⟨⟨I.2.2, trivial⟩, hF.trans hres, rzu4⟩) dX7_feed_35
    ·
      replace hF := if_t c2 hF
      refine lv_iconst (v := (-1)) hx hb dX7_feed_10 (by decide) ?_
      exact rI E I hr hlk rfl (by rw [← hpost]; exact ⟨⟨I.2.2, trivial⟩, hF.trans hres, rz0⟩) dX7_feed_11
def F_X7_end (k0 : Nat) (a0 : Int32) (v : St) : Int32 × St :=
if a0.toInt < 0 then (
((-1 : Int32), v)) else (
xl (v.1 (k0 + 1) 1) fun x2 =>
if x2.toInt < a0.toInt then (
((-1 : Int32), v)) else (
xl (v.1 (k0 + 1) 1) fun x4 =>
xl (up1 v (k0 + 1) 1 a0) fun v5 =>
(x4, v5)))
set_option maxHeartbeats 4000000 in
set_option maxRecDepth 100000 in
theorem c_X7_end (l : Launch) (w : Wp) (g : Nat → Nat → Int32) (v : St) (k0 : Nat) (a0 : Int32) (hq : Inj w) (hw : WF (wk w) g v) (h_k0 : oW w k0) : CTi w l yX7_end (wsy yX7_end prog_1_method_3_code 3 (some .int)) (rmL 1) [.ref (wq w k0), .int a0] v (fun (r : Int32) (u : St) => (WF (wk w) g u ∧ True) ∧ ((r, u) = F_X7_end k0 a0 v) ∧ (∀ k j : Nat, ¬ (k = k0 + 1 ∧ j = 1) → u.1 k j = v.1 k j)) := by
  generalize hpost : (fun (r : Int32) (u : St) => (WF (wk w) g u ∧ True) ∧ ((r, u) = F_X7_end k0 a0 v) ∧ (∀ k j : Nat, ¬ (k = k0 + 1 ∧ j = 1) → u.1 k j = v.1 k j)) = post
  refine CTi.of prog_1_method_3_code 3 (some .int) "StarWalk" (by decide +kernel) rfl hq hw (Nat.le_of_ble_eq_true rfl) ?_
  intro pg en s m ar bl me cd ls E I hr hlk hl
  have hx := E.1.1
  have hb := E.1.2.1
  have hl : lv_has ls 3 [(0, .ref (wq w k0)), (1, .int a0)] := hl
  obtain ⟨res, hres⟩ : ∃ z, z = F_X7_end k0 a0 v := ⟨_, rfl⟩
  have hF := hres.symm
  unfold F_X7_end at hF
  replace hres : res = F_X7_end k0 a0 v := hres
  have rz0 : ∀ k j : Nat, ¬ (k = k0 + 1 ∧ j = 1) → v.1 k j = v.1 k j := fun _ _ _ => rfl
  refine lv_iload_n hx hb dX7_end_0 rfl (lv_at hl 1 rfl) ?_
  refine bz_lt E (a := a0.toInt) rfl (tgt := 15) dX7_end_1 (by decide) (fun c1 => ?_) (fun c1 => ?_)
  ·
    replace hF := if_t c1 hF
    refine lv_iconst (v := (-1)) hx hb dX7_end_15 (by decide) ?_
    exact rI E I hr hlk rfl (by rw [← hpost]; exact ⟨⟨I.2.2, trivial⟩, hF.trans hres, rz0⟩) dX7_end_16
  ·
    replace hF := if_l c1 hF
    refine lv_iload_n hx hb dX7_end_4 rfl (lv_at hl 1 rfl) ?_
    refine lv_aload_n hx hb dX7_end_5 rfl (lv_at hl 0 rfl) ?_
    refine g_StarWalk_tape E I h_k0.1 mw_2_68 dX7_end_6 ?_
    refine g_Tape_length E I h_k0.2.1.1 mw_1_171 dX7_end_9 ?_
    refine lv_topi (fun x2 ex2 => ?_)
    replace hF := xl_i (ex2) hF
    have hx2 := r_Tape_length I h_k0.2.1.1
    rw [← ex2] at hx2
    refine bi_le E (a := a0.toInt) (b := x2.toInt) rfl rfl (tgt := 17) dX7_end_12 (by decide) (fun c3 => ?_) (fun c3 => ?_)
    ·
      have rga0 := i32_rng a0
      replace hF := if_l c3 hF
      refine lv_aload_n hx hb dX7_end_17 rfl (lv_at hl 0 rfl) ?_
      refine g_StarWalk_tape E I h_k0.1 mw_2_68 dX7_end_18 ?_
      refine g_Tape_length E I h_k0.2.1.1 mw_1_171 dX7_end_21 ?_
      refine lv_topi (fun x4 ex4 => ?_)
      replace hF := xl_i (ex4) hF
      have hx4 := r_Tape_length I h_k0.2.1.1
      rw [← ex4] at hx4
      refine lv_istore_n (lv' := [(2, .int x4), (0, .ref (wq w k0)), (1, .int a0)]) hx hb dX7_end_24 rfl hl (by decide) rfl (fun ls hl => ?_)
      refine lv_aload_n hx hb dX7_end_25 rfl (lv_at hl 1 rfl) ?_
      refine g_StarWalk_tape E I h_k0.1 mw_2_68 dX7_end_26 ?_
      refine lv_iload_n hx hb dX7_end_29 rfl (lv_at hl 2 rfl) ?_
      refine p_Tape_length E I h_k0.2.1.1 mw_1_171 (by omega) dX7_end_30 (fun H lo I => ?_)
      generalize ev5 : up1 v (k0 + 1) 1 a0 = v5 at I
      replace hF := xl_i (ev5.symm) hF
      have rzv5 : ∀ k j : Nat, ¬ (k = k0 + 1 ∧ j = 1) → v5.1 k j = v.1 k j := fun k j h => fz_u ev5 (by omega) (rz0 k j h)
      refine lv_iload_n hx hb dX7_end_33 rfl (lv_at hl 0 rfl) ?_
      exact rI E I hr hlk rfl (by rw [← hpost]; exact ⟨⟨I.2.2, trivial⟩, hF.trans hres, rzv5⟩) dX7_end_34
    ·
      have rga0 := i32_rng a0
      replace hF := if_t c3 hF
      refine lv_iconst (v := (-1)) hx hb dX7_end_15 (by decide) ?_
      exact rI E I hr hlk rfl (by rw [← hpost]; exact ⟨⟨I.2.2, trivial⟩, hF.trans hres, rz0⟩) dX7_end_16
def F_X7_fault (k0 : Nat) (v : St) : Int32 :=
xl (v.1 k0 9) fun x1 =>
x1
set_option maxHeartbeats 4000000 in
set_option maxRecDepth 100000 in
theorem c_X7_fault (l : Launch) (w : Wp) (g : Nat → Nat → Int32) (v : St) (k0 : Nat) (hq : Inj w) (hw : WF (wk w) g v) (h_k0 : oW w k0) : CTi w l yX7_fault (wsy yX7_fault prog_1_method_5_code 1 (some .int)) (rmL 1) [.ref (wq w k0)] v (fun (r : Int32) (u : St) => (u = v ∧ True) ∧ (r = F_X7_fault k0 v) ∧ True) := by
  generalize hpost : (fun (r : Int32) (u : St) => (u = v ∧ True) ∧ (r = F_X7_fault k0 v) ∧ True) = post
  refine CTi.of prog_1_method_5_code 1 (some .int) "StarWalk" (by decide +kernel) rfl hq hw (Nat.le_of_ble_eq_true rfl) ?_
  intro pg en s m ar bl me cd ls E I hr hlk hl
  have hx := E.1.1
  have hb := E.1.2.1
  have hl : lv_has ls 1 [(0, .ref (wq w k0))] := hl
  obtain ⟨res, hres⟩ : ∃ z, z = F_X7_fault k0 v := ⟨_, rfl⟩
  have hF := hres.symm
  unfold F_X7_fault at hF
  replace hres : res = F_X7_fault k0 v := hres
  refine lv_aload_n hx hb dX7_fault_0 rfl (lv_at hl 0 rfl) ?_
  refine g_StarWalk_latestFault E I h_k0.1 mw_2_77 dX7_fault_1 ?_
  refine lv_topi (fun x1 ex1 => ?_)
  replace hF := xl_i (ex1) hF
  exact rI E I hr hlk rfl (by rw [← hpost]; exact ⟨⟨rfl, trivial⟩, hF.trans hres, trivial⟩) dX7_fault_4
def F_X7_rule (k0 : Nat) (a0 : Int32) (v : St) : Int32 :=
if a0.toInt = 0 then (
xl (v.1 (k0 + 12) 3) fun x2 =>
x2) else (
if a0.toInt = 1 then (
xl (v.1 (k0 + 12) 6) fun x4 =>
x4) else (
if a0.toInt = 2 then (
xl (v.1 (k0 + 12) 7) fun x6 =>
x6) else (
if a0.toInt = 3 then (
xl (v.1 (k0 + 12) 8) fun x8 =>
x8) else (
if a0.toInt = 4 then (
xl (v.1 (k0 + 12) 9) fun x10 =>
x10) else (
if a0.toInt = 5 then (
xl (v.1 (k0 + 12) 10) fun x12 =>
x12) else (
if a0.toInt = 6 then (
xl (v.1 (k0 + 12 + 5) 3) fun x14 =>
x14) else (
if a0.toInt = 7 then (
xl (v.1 (k0 + 12) 11) fun x16 =>
x16) else (
if a0.toInt = 8 then (
xl (v.1 (k0 + 12 + 5) 0) fun x18 =>
x18) else (
if a0.toInt = 9 then (
xl (v.1 (k0 + 12 + 5) 1) fun x20 =>
x20) else (
if a0.toInt = 10 then (
xl (v.1 (k0 + 12 + 5) 2) fun x22 =>
xl ((1000 : Int32) + x22) fun x23 =>
x23) else (
if a0.toInt = 11 then (
xl (F_X0_isAtWell (k0 + 12) (k0 + 12 + 5) v) fun r25 =>
xl (F_X7_oneIf r25 v) fun r28 =>
r28) else (
if a0.toInt = 12 then (
xl (v.1 (k0 + 12) 14) fun x32 =>
x32) else (
(-1 : Int32))))))))))))))
set_option maxHeartbeats 4000000 in
set_option maxRecDepth 100000 in
theorem c_X7_rule (l : Launch) (w : Wp) (g : Nat → Nat → Int32) (v : St) (k0 : Nat) (a0 : Int32) (hq : Inj w) (hw : WF (wk w) g v) (h_k0 : oW w k0) : CTi w l yX7_rule (wsy yX7_rule prog_1_method_6_code 2 (some .int)) (rmL 3) [.ref (wq w k0), .int a0] v (fun (r : Int32) (u : St) => (u = v ∧ True) ∧ (r = F_X7_rule k0 a0 v) ∧ True) := by
  generalize hpost : (fun (r : Int32) (u : St) => (u = v ∧ True) ∧ (r = F_X7_rule k0 a0 v) ∧ True) = post
  refine CTi.of prog_1_method_6_code 2 (some .int) "StarWalk" (by decide +kernel) rfl hq hw (Nat.le_of_ble_eq_true rfl) ?_
  intro pg en s m ar bl me cd ls E I hr hlk hl
  have hx := E.1.1
  have hb := E.1.2.1
  have hl : lv_has ls 2 [(0, .ref (wq w k0)), (1, .int a0)] := hl
  obtain ⟨res, hres⟩ : ∃ z, z = F_X7_rule k0 a0 v := ⟨_, rfl⟩
  have hF := hres.symm
  unfold F_X7_rule at hF
  replace hres : res = F_X7_rule k0 a0 v := hres
  refine lv_iload_n hx hb dX7_rule_0 rfl (lv_at hl 1 rfl) ?_
  by_cases c1 : a0.toInt = 0
  ·
    replace hF := if_t c1 hF
    refine lv_tableIn hx hb dX7_rule_1 (by omega) (by omega) (by rw [c1]; rfl) (tgt := 68) (by decide) ?_
    refine lv_aload_n hx hb dX7_rule_68 rfl (lv_at hl 0 rfl) ?_
    refine g_StarWalk_now E I h_k0.1 mw_2_69 dX7_rule_69 ?_
    refine g_Night_stars E I h_k0.2.2.1.1 mw_1_85 dX7_rule_72 ?_
    refine lv_topi (fun x2 ex2 => ?_)
    replace hF := xl_i (ex2) hF
    have hx2 := r_Night_stars I h_k0.2.2.1.1
    rw [← ex2] at hx2
    exact rI E I hr hlk rfl (by rw [← hpost]; exact ⟨⟨rfl, trivial⟩, hF.trans hres, trivial⟩) dX7_rule_75
  replace hF := if_f c1 hF
  by_cases c3 : a0.toInt = 1
  ·
    replace hF := if_t c3 hF
    refine lv_tableIn hx hb dX7_rule_1 (by omega) (by omega) (by rw [c3]; rfl) (tgt := 76) (by decide) ?_
    refine lv_aload_n hx hb dX7_rule_76 rfl (lv_at hl 0 rfl) ?_
    refine g_StarWalk_now E I h_k0.1 mw_2_69 dX7_rule_77 ?_
    refine g_Night_walkers E I h_k0.2.2.1.1 mw_1_92 dX7_rule_80 ?_
    refine lv_topi (fun x4 ex4 => ?_)
    replace hF := xl_i (ex4) hF
    have hx4 := r_Night_walkers I h_k0.2.2.1.1
    rw [← ex4] at hx4
    exact rI E I hr hlk rfl (by rw [← hpost]; exact ⟨⟨rfl, trivial⟩, hF.trans hres, trivial⟩) dX7_rule_83
  replace hF := if_f c3 hF
  by_cases c5 : a0.toInt = 2
  ·
    replace hF := if_t c5 hF
    refine lv_tableIn hx hb dX7_rule_1 (by omega) (by omega) (by rw [c5]; rfl) (tgt := 84) (by decide) ?_
    refine lv_aload_n hx hb dX7_rule_84 rfl (lv_at hl 0 rfl) ?_
    refine g_StarWalk_now E I h_k0.1 mw_2_69 dX7_rule_85 ?_
    refine g_Night_inFront E I h_k0.2.2.1.1 mw_1_95 dX7_rule_88 ?_
    refine lv_topi (fun x6 ex6 => ?_)
    replace hF := xl_i (ex6) hF
    exact rI E I hr hlk rfl (by rw [← hpost]; exact ⟨⟨rfl, trivial⟩, hF.trans hres, trivial⟩) dX7_rule_91
  replace hF := if_f c5 hF
  by_cases c7 : a0.toInt = 3
  ·
    replace hF := if_t c7 hF
    refine lv_tableIn hx hb dX7_rule_1 (by omega) (by omega) (by rw [c7]; rfl) (tgt := 92) (by decide) ?_
    refine lv_aload_n hx hb dX7_rule_92 rfl (lv_at hl 0 rfl) ?_
    refine g_StarWalk_now E I h_k0.1 mw_2_69 dX7_rule_93 ?_
    refine g_Night_wellMiles E I h_k0.2.2.1.1 mw_1_97 dX7_rule_96 ?_
    refine lv_topi (fun x8 ex8 => ?_)
    replace hF := xl_i (ex8) hF
    exact rI E I hr hlk rfl (by rw [← hpost]; exact ⟨⟨rfl, trivial⟩, hF.trans hres, trivial⟩) dX7_rule_99
  replace hF := if_f c7 hF
  by_cases c9 : a0.toInt = 4
  ·
    replace hF := if_t c9 hF
    refine lv_tableIn hx hb dX7_rule_1 (by omega) (by omega) (by rw [c9]; rfl) (tgt := 100) (by decide) ?_
    refine lv_aload_n hx hb dX7_rule_100 rfl (lv_at hl 0 rfl) ?_
    refine g_StarWalk_now E I h_k0.1 mw_2_69 dX7_rule_101 ?_
    refine g_Night_broad E I h_k0.2.2.1.1 mw_1_100 dX7_rule_104 ?_
    refine lv_topi (fun x10 ex10 => ?_)
    replace hF := xl_i (ex10) hF
    exact rI E I hr hlk rfl (by rw [← hpost]; exact ⟨⟨rfl, trivial⟩, hF.trans hres, trivial⟩) dX7_rule_107
  replace hF := if_f c9 hF
  by_cases c11 : a0.toInt = 5
  ·
    replace hF := if_t c11 hF
    refine lv_tableIn hx hb dX7_rule_1 (by omega) (by omega) (by rw [c11]; rfl) (tgt := 108) (by decide) ?_
    refine lv_aload_n hx hb dX7_rule_108 rfl (lv_at hl 0 rfl) ?_
    refine g_StarWalk_now E I h_k0.1 mw_2_69 dX7_rule_109 ?_
    refine g_Night_till E I h_k0.2.2.1.1 mw_1_103 dX7_rule_112 ?_
    refine lv_topi (fun x12 ex12 => ?_)
    replace hF := xl_i (ex12) hF
    exact rI E I hr hlk rfl (by rw [← hpost]; exact ⟨⟨rfl, trivial⟩, hF.trans hres, trivial⟩) dX7_rule_115
  replace hF := if_f c11 hF
  by_cases c13 : a0.toInt = 6
  ·
    replace hF := if_t c13 hF
    refine lv_tableIn hx hb dX7_rule_1 (by omega) (by omega) (by rw [c13]; rfl) (tgt := 116) (by decide) ?_
    refine lv_aload_n hx hb dX7_rule_116 rfl (lv_at hl 0 rfl) ?_
    refine g_StarWalk_now E I h_k0.1 mw_2_69 dX7_rule_117 ?_
    refine g_Night_place E I h_k0.2.2.1.1 mw_1_113 dX7_rule_120 ?_
    refine g_Place_water E I h_k0.2.2.1.2.2.2.2.2.1 mw_1_60 dX7_rule_123 ?_
    refine lv_topi (fun x14 ex14 => ?_)
    replace hF := xl_i (ex14) hF
    exact rI E I hr hlk rfl (by rw [← hpost]; exact ⟨⟨rfl, trivial⟩, hF.trans hres, trivial⟩) dX7_rule_126
  replace hF := if_f c13 hF
  by_cases c15 : a0.toInt = 7
  ·
    replace hF := if_t c15 hF
    refine lv_tableIn hx hb dX7_rule_1 (by omega) (by omega) (by rw [c15]; rfl) (tgt := 127) (by decide) ?_
    refine lv_aload_n hx hb dX7_rule_127 rfl (lv_at hl 0 rfl) ?_
    refine g_StarWalk_now E I h_k0.1 mw_2_69 dX7_rule_128 ?_
    refine g_Night_clouds E I h_k0.2.2.1.1 mw_1_107 dX7_rule_131 ?_
    refine lv_topi (fun x16 ex16 => ?_)
    replace hF := xl_i (ex16) hF
    exact rI E I hr hlk rfl (by rw [← hpost]; exact ⟨⟨rfl, trivial⟩, hF.trans hres, trivial⟩) dX7_rule_134
  replace hF := if_f c15 hF
  by_cases c17 : a0.toInt = 8
  ·
    replace hF := if_t c17 hF
    refine lv_tableIn hx hb dX7_rule_1 (by omega) (by omega) (by rw [c17]; rfl) (tgt := 135) (by decide) ?_
    refine lv_aload_n hx hb dX7_rule_135 rfl (lv_at hl 0 rfl) ?_
    refine g_StarWalk_now E I h_k0.1 mw_2_69 dX7_rule_136 ?_
    refine g_Night_place E I h_k0.2.2.1.1 mw_1_113 dX7_rule_139 ?_
    refine g_Place_hour E I h_k0.2.2.1.2.2.2.2.2.1 mw_1_47 dX7_rule_142 ?_
    refine lv_topi (fun x18 ex18 => ?_)
    replace hF := xl_i (ex18) hF
    exact rI E I hr hlk rfl (by rw [← hpost]; exact ⟨⟨rfl, trivial⟩, hF.trans hres, trivial⟩) dX7_rule_145
  replace hF := if_f c17 hF
  by_cases c19 : a0.toInt = 9
  ·
    replace hF := if_t c19 hF
    refine lv_tableIn hx hb dX7_rule_1 (by omega) (by omega) (by rw [c19]; rfl) (tgt := 146) (by decide) ?_
    refine lv_aload_n hx hb dX7_rule_146 rfl (lv_at hl 0 rfl) ?_
    refine g_StarWalk_now E I h_k0.1 mw_2_69 dX7_rule_147 ?_
    refine g_Night_place E I h_k0.2.2.1.1 mw_1_113 dX7_rule_150 ?_
    refine g_Place_miles E I h_k0.2.2.1.2.2.2.2.2.1 mw_1_52 dX7_rule_153 ?_
    refine lv_topi (fun x20 ex20 => ?_)
    replace hF := xl_i (ex20) hF
    exact rI E I hr hlk rfl (by rw [← hpost]; exact ⟨⟨rfl, trivial⟩, hF.trans hres, trivial⟩) dX7_rule_156
  replace hF := if_f c19 hF
  by_cases c21 : a0.toInt = 10
  ·
    replace hF := if_t c21 hF
    refine lv_tableIn hx hb dX7_rule_1 (by omega) (by omega) (by rw [c21]; rfl) (tgt := 157) (by decide) ?_
    refine lv_sipush (v := 1000) hx hb dX7_rule_157 (by decide) ?_
    refine lv_aload_n hx hb dX7_rule_160 rfl (lv_at hl 0 rfl) ?_
    refine g_StarWalk_now E I h_k0.1 mw_2_69 dX7_rule_161 ?_
    refine g_Night_place E I h_k0.2.2.1.1 mw_1_113 dX7_rule_164 ?_
    refine g_Place_side E I h_k0.2.2.1.2.2.2.2.2.1 mw_1_57 dX7_rule_167 ?_
    refine lv_topi (fun x22 ex22 => ?_)
    replace hF := xl_i (ex22) hF
    refine lv_iadd hx hb dX7_rule_170 ?_
    refine lv_topi (fun x23 ex23 => ?_)
    replace hF := xl_i (ex23) hF
    exact rI E I hr hlk rfl (by rw [← hpost]; exact ⟨⟨rfl, trivial⟩, hF.trans hres, trivial⟩) dX7_rule_171
  replace hF := if_f c21 hF
  by_cases c24 : a0.toInt = 11
  ·
    replace hF := if_t c24 hF
    refine lv_tableIn hx hb dX7_rule_1 (by omega) (by omega) (by rw [c24]; rfl) (tgt := 172) (by decide) ?_
    refine lv_aload_n hx hb dX7_rule_172 rfl (lv_at hl 0 rfl) ?_
    refine g_StarWalk_now E I h_k0.1 mw_2_69 dX7_rule_173 ?_
    refine lv_aload_n hx hb dX7_rule_176 rfl (lv_at hl 0 rfl) ?_
    refine g_StarWalk_now E I h_k0.1 mw_2_69 dX7_rule_177 ?_
    refine g_Night_place E I h_k0.2.2.1.1 mw_1_113 dX7_rule_180 ?_
    refine cVi E I (c_X0_isAtWell l w g v (k0 + 12) (k0 + 12 + 5) E.2.2.1 I.2.2 h_k0.2.2.1 h_k0.2.2.1.2.2.2.2.2.1  ) (cwV 1 E.1.2.2.2.2 (gWs (C := "StarWalk$Night") mw_3_75 mw_3_76 mw_3_77 mw_1_3 mw_3_78) rfl rfl rfl (by decide +kernel) ⟨by decide, by decide⟩) h_k0.2.2.1.1.1 ((ce_o h_k0.2.2.1.1.2).trans rfl) rfl rfl hl.1 rfl (Nat.le_of_ble_eq_true rfl) dX7_rule_183 ⟨Nat.le_refl _, Nat.le_refl _⟩ (fun r25 u26 H lo hp hPS => ?_)
    obtain ⟨hp, hex, hfr⟩ := hp
    replace hF := xl_i hex hF
    obtain ⟨hu, p27⟩ := hp
    rw [hu] at hPS
    have I : Wo w g s.heap v H lo := ⟨hPS.1, hPS.2, I.2.2⟩
    refine cSi E I (c_X7_oneIf l w g v r25 E.2.2.1 I.2.2   ) (va_cwS 1 E.1.2.2.2.2 (gSs mw_3_86 mw_3_87 mw_1_1 mw_3_88) rfl rfl rfl (by decide +kernel) ⟨by decide, by decide⟩) rfl hl.1 rfl (Nat.le_of_ble_eq_true rfl) dX7_rule_186 ⟨Nat.le_refl _, Nat.le_refl _⟩ (fun r28 u29 H lo hp hPS => ?_)
    obtain ⟨hp, hex, hfr⟩ := hp
    replace hF := xl_i hex hF
    obtain ⟨hu, p30⟩ := hp
    rw [hu] at hPS
    have I : Wo w g s.heap v H lo := ⟨hPS.1, hPS.2, I.2.2⟩
    exact rI E I hr hlk rfl (by rw [← hpost]; exact ⟨⟨rfl, trivial⟩, hF.trans hres, trivial⟩) dX7_rule_189
  replace hF := if_f c24 hF
  by_cases c31 : a0.toInt = 12
  ·
    replace hF := if_t c31 hF
    refine lv_tableIn hx hb dX7_rule_1 (by omega) (by omega) (by rw [c31]; rfl) (tgt := 190) (by decide) ?_
    refine lv_aload_n hx hb dX7_rule_190 rfl (lv_at hl 0 rfl) ?_
    refine g_StarWalk_now E I h_k0.1 mw_2_69 dX7_rule_191 ?_
    refine g_Night_planned E I h_k0.2.2.1.1 mw_1_122 dX7_rule_194 ?_
    refine lv_topi (fun x32 ex32 => ?_)
    replace hF := xl_i (ex32) hF
    have hx32 := r_Night_planned I h_k0.2.2.1.1
    rw [← ex32] at hx32
    exact rI E I hr hlk rfl (by rw [← hpost]; exact ⟨⟨rfl, trivial⟩, hF.trans hres, trivial⟩) dX7_rule_197
  replace hF := if_f c31 hF
  refine lv_tableOut hx hb dX7_rule_1 (by omega) (tgt := 198) (by decide) ?_
  refine lv_iconst (v := (-1)) hx hb dX7_rule_198 (by decide) ?_
  exact rI E I hr hlk rfl (by rw [← hpost]; exact ⟨⟨rfl, trivial⟩, hF.trans hres, trivial⟩) dX7_rule_199
def F_X7_star (k0 : Nat) (a0 : Int32) (a1 : Int32) (v : St) : Int32 :=
xl (F_X0_hasStar (k0 + 12) a0 v) fun r1 =>
if r1.toInt = 0 then (
(-1 : Int32)) else (
if a1.toInt = 0 then (
xl (v.1 (k0 + 12 + 1) a0.toNatClampNeg) fun x6 =>
x6) else (
if a1.toInt = 1 then (
xl (v.1 (k0 + 12 + 2) a0.toNatClampNeg) fun x8 =>
x8) else (
if a1.toInt = 2 then (
xl (v.1 (k0 + 12 + 3) a0.toNatClampNeg) fun x10 =>
x10) else (
if a1.toInt = 3 then (
xl (F_X0_isKnown (k0 + 12) a0 v) fun r12 =>
xl (F_X7_oneIf r12 v) fun r15 =>
r15) else (
(-1 : Int32))))))
set_option maxHeartbeats 4000000 in
set_option maxRecDepth 100000 in
theorem c_X7_star (l : Launch) (w : Wp) (g : Nat → Nat → Int32) (v : St) (k0 : Nat) (a0 : Int32) (a1 : Int32) (hq : Inj w) (hw : WF (wk w) g v) (h_k0 : oW w k0) : CTi w l yX7_star (wsy yX7_star prog_1_method_7_code 3 (some .int)) (rmL 2) [.ref (wq w k0), .int a0, .int a1] v (fun (r : Int32) (u : St) => (u = v ∧ True) ∧ (r = F_X7_star k0 a0 a1 v) ∧ True) := by
  generalize hpost : (fun (r : Int32) (u : St) => (u = v ∧ True) ∧ (r = F_X7_star k0 a0 a1 v) ∧ True) = post
  refine CTi.of prog_1_method_7_code 3 (some .int) "StarWalk" (by decide +kernel) rfl hq hw (Nat.le_of_ble_eq_true rfl) ?_
  intro pg en s m ar bl me cd ls E I hr hlk hl
  have hx := E.1.1
  have hb := E.1.2.1
  have hl : lv_has ls 3 [(0, .ref (wq w k0)), (1, .int a0), (2, .int a1)] := hl
  obtain ⟨res, hres⟩ : ∃ z, z = F_X7_star k0 a0 a1 v := ⟨_, rfl⟩
  have hF := hres.symm
  unfold F_X7_star at hF
  replace hres : res = F_X7_star k0 a0 a1 v := hres
  refine lv_aload_n hx hb dX7_star_0 rfl (lv_at hl 0 rfl) ?_
  refine g_StarWalk_now E I h_k0.1 mw_2_69 dX7_star_1 ?_
  refine lv_iload_n hx hb dX7_star_4 rfl (lv_at hl 1 rfl) ?_
  refine cVi E I (c_X0_hasStar l w g v (k0 + 12) a0 E.2.2.1 I.2.2 h_k0.2.2.1  ) (cwV 1 E.1.2.2.2.2 (gWs (C := "StarWalk$Night") mw_3_93 mw_3_53 mw_3_54 mw_1_3 mw_3_55) rfl rfl rfl (by decide +kernel) ⟨by decide, by decide⟩) h_k0.2.2.1.1.1 ((ce_o h_k0.2.2.1.1.2).trans rfl) rfl rfl hl.1 rfl (Nat.le_of_ble_eq_true rfl) dX7_star_5 ⟨Nat.le_refl _, Nat.le_refl _⟩ (fun r1 u2 H lo hp hPS => ?_)
  obtain ⟨hp, hex, hfr⟩ := hp
  replace hF := xl_i hex hF
  obtain ⟨hu, p3⟩ := hp
  rw [hu] at hPS
  have I : Wo w g s.heap v H lo := ⟨hPS.1, hPS.2, I.2.2⟩
  refine bz_ne E (a := r1.toInt) rfl (tgt := 13) dX7_star_8 (by decide) (fun c4 => ?_) (fun c4 => ?_)
  ·
    replace hF := if_f c4 hF
    refine lv_iload_n hx hb dX7_star_13 rfl (lv_at hl 2 rfl) ?_
    by_cases c5 : a1.toInt = 0
    ·
      replace hF := if_t c5 hF
      refine lv_tableIn hx hb dX7_star_14 (by omega) (by omega) (by rw [c5]; rfl) (tgt := 44) (by decide) ?_
      refine lv_aload_n hx hb dX7_star_44 rfl (lv_at hl 0 rfl) ?_
      refine g_StarWalk_now E I h_k0.1 mw_2_69 dX7_star_45 ?_
      refine g_Night_from E I h_k0.2.2.1.1 mw_1_78 dX7_star_48 ?_
      refine lv_iload_n hx hb dX7_star_51 rfl (lv_at hl 1 rfl) ?_
      refine ga_10 E I h_k0.2.2.1.2.1 (by omega) dX7_star_52 ?_
      refine lv_topi (fun x6 ex6 => ?_)
      replace hF := xl_i (ex6) hF
      exact rI E I hr hlk rfl (by rw [← hpost]; exact ⟨⟨rfl, trivial⟩, hF.trans hres, trivial⟩) dX7_star_53
    replace hF := if_f c5 hF
    by_cases c7 : a1.toInt = 1
    ·
      replace hF := if_t c7 hF
      refine lv_tableIn hx hb dX7_star_14 (by omega) (by omega) (by rw [c7]; rfl) (tgt := 54) (by decide) ?_
      refine lv_aload_n hx hb dX7_star_54 rfl (lv_at hl 0 rfl) ?_
      refine g_StarWalk_now E I h_k0.1 mw_2_69 dX7_star_55 ?_
      refine g_Night_to E I h_k0.2.2.1.1 mw_1_80 dX7_star_58 ?_
      refine lv_iload_n hx hb dX7_star_61 rfl (lv_at hl 1 rfl) ?_
      refine ga_10 E I h_k0.2.2.1.2.2.1 (by omega) dX7_star_62 ?_
      refine lv_topi (fun x8 ex8 => ?_)
      replace hF := xl_i (ex8) hF
      exact rI E I hr hlk rfl (by rw [← hpost]; exact ⟨⟨rfl, trivial⟩, hF.trans hres, trivial⟩) dX7_star_63
    replace hF := if_f c7 hF
    by_cases c9 : a1.toInt = 2
    ·
      replace hF := if_t c9 hF
      refine lv_tableIn hx hb dX7_star_14 (by omega) (by omega) (by rw [c9]; rfl) (tgt := 64) (by decide) ?_
      refine lv_aload_n hx hb dX7_star_64 rfl (lv_at hl 0 rfl) ?_
      refine g_StarWalk_now E I h_k0.1 mw_2_69 dX7_star_65 ?_
      refine g_Night_off E I h_k0.2.2.1.1 mw_1_82 dX7_star_68 ?_
      refine lv_iload_n hx hb dX7_star_71 rfl (lv_at hl 1 rfl) ?_
      refine ga_10 E I h_k0.2.2.1.2.2.2.1 (by omega) dX7_star_72 ?_
      refine lv_topi (fun x10 ex10 => ?_)
      replace hF := xl_i (ex10) hF
      exact rI E I hr hlk rfl (by rw [← hpost]; exact ⟨⟨rfl, trivial⟩, hF.trans hres, trivial⟩) dX7_star_73
    replace hF := if_f c9 hF
    by_cases c11 : a1.toInt = 3
    ·
      replace hF := if_t c11 hF
      refine lv_tableIn hx hb dX7_star_14 (by omega) (by omega) (by rw [c11]; rfl) (tgt := 74) (by decide) ?_
      refine lv_aload_n hx hb dX7_star_74 rfl (lv_at hl 0 rfl) ?_
      refine g_StarWalk_now E I h_k0.1 mw_2_69 dX7_star_75 ?_
      refine lv_iload_n hx hb dX7_star_78 rfl (lv_at hl 1 rfl) ?_
      refine cVi E I (c_X0_isKnown l w g v (k0 + 12) a0 E.2.2.1 I.2.2 h_k0.2.2.1  ) (cwV 1 E.1.2.2.2.2 (gWs (C := "StarWalk$Night") mw_3_94 mw_2_225 mw_2_226 mw_1_3 mw_2_227) rfl rfl rfl (by decide +kernel) ⟨by decide, by decide⟩) h_k0.2.2.1.1.1 ((ce_o h_k0.2.2.1.1.2).trans rfl) rfl rfl hl.1 rfl (Nat.le_of_ble_eq_true rfl) dX7_star_79 ⟨Nat.le_refl _, Nat.le_refl _⟩ (fun r12 u13 H lo hp hPS => ?_)
      obtain ⟨hp, hex, hfr⟩ := hp
      replace hF := xl_i hex hF
      obtain ⟨hu, p14⟩ := hp
      rw [hu] at hPS
      have I : Wo w g s.heap v H lo := ⟨hPS.1, hPS.2, I.2.2⟩
      refine cSi E I (c_X7_oneIf l w g v r12 E.2.2.1 I.2.2   ) (va_cwS 1 E.1.2.2.2.2 (gSs mw_3_86 mw_3_87 mw_1_1 mw_3_88) rfl rfl rfl (by decide +kernel) ⟨by decide, by decide⟩) rfl hl.1 rfl (Nat.le_of_ble_eq_true rfl) dX7_star_82 ⟨Nat.le_refl _, Nat.le_refl _⟩ (fun r15 u16 H lo hp hPS => ?_)
      obtain ⟨hp, hex, hfr⟩ := hp
      replace hF := xl_i hex hF
      obtain ⟨hu, p17⟩ := hp
      rw [hu] at hPS
      have I : Wo w g s.heap v H lo := ⟨hPS.1, hPS.2, I.2.2⟩
      exact rI E I hr hlk rfl (by rw [← hpost]; exact ⟨⟨rfl, trivial⟩, hF.trans hres, trivial⟩) dX7_star_85
    replace hF := if_f c11 hF
    refine lv_tableOut hx hb dX7_star_14 (by omega) (tgt := 86) (by decide) ?_
    refine lv_iconst (v := (-1)) hx hb dX7_star_86 (by decide) ?_
    exact rI E I hr hlk rfl (by rw [← hpost]; exact ⟨⟨rfl, trivial⟩, hF.trans hres, trivial⟩) dX7_star_87
  ·
    replace hF := if_t c4 hF
    refine lv_iconst (v := (-1)) hx hb dX7_star_11 (by decide) ?_
    exact rI E I hr hlk rfl (by rw [← hpost]; exact ⟨⟨rfl, trivial⟩, hF.trans hres, trivial⟩) dX7_star_12
def F_X7_walker (k0 : Nat) (a0 : Int32) (v : St) : Int32 :=
xl (F_X0_hasWalker (k0 + 12) a0 v) fun r1 =>
if r1.toInt = 0 then (
(-1 : Int32)) else (
xl (v.1 (k0 + 12 + 4) a0.toNatClampNeg) fun x5 =>
x5)
set_option maxHeartbeats 4000000 in
set_option maxRecDepth 100000 in
theorem c_X7_walker (l : Launch) (w : Wp) (g : Nat → Nat → Int32) (v : St) (k0 : Nat) (a0 : Int32) (hq : Inj w) (hw : WF (wk w) g v) (h_k0 : oW w k0) : CTi w l yX7_walker (wsy yX7_walker prog_1_method_8_code 2 (some .int)) (rmL 2) [.ref (wq w k0), .int a0] v (fun (r : Int32) (u : St) => (u = v ∧ True) ∧ (r = F_X7_walker k0 a0 v) ∧ True) := by
  generalize hpost : (fun (r : Int32) (u : St) => (u = v ∧ True) ∧ (r = F_X7_walker k0 a0 v) ∧ True) = post
  refine CTi.of prog_1_method_8_code 2 (some .int) "StarWalk" (by decide +kernel) rfl hq hw (Nat.le_of_ble_eq_true rfl) ?_
  intro pg en s m ar bl me cd ls E I hr hlk hl
  have hx := E.1.1
  have hb := E.1.2.1
  have hl : lv_has ls 2 [(0, .ref (wq w k0)), (1, .int a0)] := hl
  obtain ⟨res, hres⟩ : ∃ z, z = F_X7_walker k0 a0 v := ⟨_, rfl⟩
  have hF := hres.symm
  unfold F_X7_walker at hF
  replace hres : res = F_X7_walker k0 a0 v := hres
  refine lv_aload_n hx hb dX7_walker_0 rfl (lv_at hl 0 rfl) ?_
  refine g_StarWalk_now E I h_k0.1 mw_2_69 dX7_walker_1 ?_
  refine lv_iload_n hx hb dX7_walker_4 rfl (lv_at hl 1 rfl) ?_
  refine cVi E I (c_X0_hasWalker l w g v (k0 + 12) a0 E.2.2.1 I.2.2 h_k0.2.2.1  ) (cwV 1 E.1.2.2.2.2 (gWs (C := "StarWalk$Night") mw_3_99 mw_3_100 mw_3_101 mw_1_3 mw_3_102) rfl rfl rfl (by decide +kernel) ⟨by decide, by decide⟩) h_k0.2.2.1.1.1 ((ce_o h_k0.2.2.1.1.2).trans rfl) rfl rfl hl.1 rfl (Nat.le_of_ble_eq_true rfl) dX7_walker_5 ⟨Nat.le_refl _, Nat.le_refl _⟩ (fun r1 u2 H lo hp hPS => ?_)
  obtain ⟨hp, hex, hfr⟩ := hp
  replace hF := xl_i hex hF
  obtain ⟨hu, p3⟩ := hp
  rw [hu] at hPS
  have I : Wo w g s.heap v H lo := ⟨hPS.1, hPS.2, I.2.2⟩
  refine bz_eq E (a := r1.toInt) rfl (tgt := 23) dX7_walker_8 (by decide) (fun c4 => ?_) (fun c4 => ?_)
  ·
    replace hF := if_t c4 hF
    refine lv_iconst (v := (-1)) hx hb dX7_walker_23 (by decide) ?_
    exact rI E I hr hlk rfl (by rw [← hpost]; exact ⟨⟨rfl, trivial⟩, hF.trans hres, trivial⟩) dX7_walker_24
  ·
    replace hF := if_f c4 hF
    refine lv_aload_n hx hb dX7_walker_11 rfl (lv_at hl 0 rfl) ?_
    refine g_StarWalk_now E I h_k0.1 mw_2_69 dX7_walker_12 ?_
    refine g_Night_kinds E I h_k0.2.2.1.1 mw_1_90 dX7_walker_15 ?_
    refine lv_iload_n hx hb dX7_walker_18 rfl (lv_at hl 1 rfl) ?_
    refine ga_11 E I h_k0.2.2.1.2.2.2.2.1 (by omega) dX7_walker_19 ?_
    refine lv_topi (fun x5 ex5 => ?_)
    replace hF := xl_i (ex5) hF
    refine lv_goto (tgt := 24) hx hb dX7_walker_20 (by decide) ?_
    exact rI E I hr hlk rfl (by rw [← hpost]; exact ⟨⟨rfl, trivial⟩, hF.trans hres, trivial⟩) dX7_walker_24
def F_X7_plan (k0 : Nat) (a0 : Int32) (v : St) : Int32 :=
xl (F_X0_hasPlanned (k0 + 12) a0 v) fun r1 =>
if r1.toInt = 0 then (
(-1 : Int32)) else (
xl (v.1 (k0 + 12 + 6) a0.toNatClampNeg) fun x5 =>
x5)
set_option maxHeartbeats 4000000 in
set_option maxRecDepth 100000 in
theorem c_X7_plan (l : Launch) (w : Wp) (g : Nat → Nat → Int32) (v : St) (k0 : Nat) (a0 : Int32) (hq : Inj w) (hw : WF (wk w) g v) (h_k0 : oW w k0) : CTi w l yX7_plan (wsy yX7_plan prog_1_method_9_code 2 (some .int)) (rmL 2) [.ref (wq w k0), .int a0] v (fun (r : Int32) (u : St) => (u = v ∧ True) ∧ (r = F_X7_plan k0 a0 v) ∧ True) := by
  generalize hpost : (fun (r : Int32) (u : St) => (u = v ∧ True) ∧ (r = F_X7_plan k0 a0 v) ∧ True) = post
  refine CTi.of prog_1_method_9_code 2 (some .int) "StarWalk" (by decide +kernel) rfl hq hw (Nat.le_of_ble_eq_true rfl) ?_
  intro pg en s m ar bl me cd ls E I hr hlk hl
  have hx := E.1.1
  have hb := E.1.2.1
  have hl : lv_has ls 2 [(0, .ref (wq w k0)), (1, .int a0)] := hl
  obtain ⟨res, hres⟩ : ∃ z, z = F_X7_plan k0 a0 v := ⟨_, rfl⟩
  have hF := hres.symm
  unfold F_X7_plan at hF
  replace hres : res = F_X7_plan k0 a0 v := hres
  refine lv_aload_n hx hb dX7_plan_0 rfl (lv_at hl 0 rfl) ?_
  refine g_StarWalk_now E I h_k0.1 mw_2_69 dX7_plan_1 ?_
  refine lv_iload_n hx hb dX7_plan_4 rfl (lv_at hl 1 rfl) ?_
  refine cVi E I (c_X0_hasPlanned l w g v (k0 + 12) a0 E.2.2.1 I.2.2 h_k0.2.2.1  ) (cwV 1 E.1.2.2.2.2 (gWs (C := "StarWalk$Night") mw_3_107 mw_3_45 mw_3_46 mw_1_3 mw_3_47) rfl rfl rfl (by decide +kernel) ⟨by decide, by decide⟩) h_k0.2.2.1.1.1 ((ce_o h_k0.2.2.1.1.2).trans rfl) rfl rfl hl.1 rfl (Nat.le_of_ble_eq_true rfl) dX7_plan_5 ⟨Nat.le_refl _, Nat.le_refl _⟩ (fun r1 u2 H lo hp hPS => ?_)
  obtain ⟨hp, hex, hfr⟩ := hp
  replace hF := xl_i hex hF
  obtain ⟨hu, p3⟩ := hp
  rw [hu] at hPS
  have I : Wo w g s.heap v H lo := ⟨hPS.1, hPS.2, I.2.2⟩
  refine bz_eq E (a := r1.toInt) rfl (tgt := 23) dX7_plan_8 (by decide) (fun c4 => ?_) (fun c4 => ?_)
  ·
    replace hF := if_t c4 hF
    refine lv_iconst (v := (-1)) hx hb dX7_plan_23 (by decide) ?_
    exact rI E I hr hlk rfl (by rw [← hpost]; exact ⟨⟨rfl, trivial⟩, hF.trans hres, trivial⟩) dX7_plan_24
  ·
    replace hF := if_f c4 hF
    refine lv_aload_n hx hb dX7_plan_11 rfl (lv_at hl 0 rfl) ?_
    refine g_StarWalk_now E I h_k0.1 mw_2_69 dX7_plan_12 ?_
    refine g_Night_plannedAims E I h_k0.2.2.1.1 mw_1_119 dX7_plan_15 ?_
    refine lv_iload_n hx hb dX7_plan_18 rfl (lv_at hl 1 rfl) ?_
    refine ga_12 E I h_k0.2.2.1.2.2.2.2.2.2.1 (by omega) dX7_plan_19 ?_
    refine lv_topi (fun x5 ex5 => ?_)
    replace hF := xl_i (ex5) hF
    refine lv_goto (tgt := 24) hx hb dX7_plan_20 (by decide) ?_
    exact rI E I hr hlk rfl (by rw [← hpost]; exact ⟨⟨rfl, trivial⟩, hF.trans hres, trivial⟩) dX7_plan_24
def F_X7_mayBeSet (k0 : Nat) (a0 : Int32) (a1 : Int32) (v : St) : Int32 :=
if a0.toInt = 2 then (
xl (F_X0_hasWalker (k0 + 12) a1 v) fun r2 =>
r2) else (
if a0.toInt = 3 then (
if a1.toInt < 1 then (
(0 : Int32)) else (
if 40 < a1.toInt then (
(0 : Int32)) else (
(1 : Int32)))) else (
if a0.toInt = 4 then (
if a1.toInt < 0 then (
(0 : Int32)) else (
if 9 < a1.toInt then (
(0 : Int32)) else (
(1 : Int32)))) else (
if a0.toInt = 5 then (
if a1.toInt < 0 then (
(0 : Int32)) else (
if 10 < a1.toInt then (
(0 : Int32)) else (
(1 : Int32)))) else (
if a1.toInt < 0 then (
(0 : Int32)) else (
if 99 < a1.toInt then (
(0 : Int32)) else (
(1 : Int32)))))))
set_option maxHeartbeats 4000000 in
set_option maxRecDepth 100000 in
theorem c_X7_mayBeSet (l : Launch) (w : Wp) (g : Nat → Nat → Int32) (v : St) (k0 : Nat) (a0 : Int32) (a1 : Int32) (hq : Inj w) (hw : WF (wk w) g v) (h_k0 : oW w k0) : CTi w l yX7_mayBeSet (wsy yX7_mayBeSet prog_1_method_11_code 3 (some .boolean)) (rmL 2) [.ref (wq w k0), .int a0, .int a1] v (fun (r : Int32) (u : St) => (u = v ∧ 0 ≤ r.toInt ∧ r.toInt ≤ 1) ∧ (r = F_X7_mayBeSet k0 a0 a1 v) ∧ True) := by
  generalize hpost : (fun (r : Int32) (u : St) => (u = v ∧ 0 ≤ r.toInt ∧ r.toInt ≤ 1) ∧ (r = F_X7_mayBeSet k0 a0 a1 v) ∧ True) = post
  refine CTi.of prog_1_method_11_code 3 (some .boolean) "StarWalk" (by decide +kernel) rfl hq hw (Nat.le_of_ble_eq_true rfl) ?_
  intro pg en s m ar bl me cd ls E I hr hlk hl
  have hx := E.1.1
  have hb := E.1.2.1
  have hl : lv_has ls 3 [(0, .ref (wq w k0)), (1, .int a0), (2, .int a1)] := hl
  obtain ⟨res, hres⟩ : ∃ z, z = F_X7_mayBeSet k0 a0 a1 v := ⟨_, rfl⟩
  have hF := hres.symm
  unfold F_X7_mayBeSet at hF
  replace hres : res = F_X7_mayBeSet k0 a0 a1 v := hres
  refine lv_iload_n hx hb dX7_mayBeSet_0 rfl (lv_at hl 1 rfl) ?_
  by_cases c1 : a0.toInt = 2
  ·
    replace hF := if_t c1 hF
    refine lv_tableIn hx hb dX7_mayBeSet_1 (by omega) (by omega) (by rw [c1]; rfl) (tgt := 32) (by decide) ?_
    refine lv_aload_n hx hb dX7_mayBeSet_32 rfl (lv_at hl 0 rfl) ?_
    refine g_StarWalk_now E I h_k0.1 mw_2_69 dX7_mayBeSet_33 ?_
    refine lv_iload_n hx hb dX7_mayBeSet_36 rfl (lv_at hl 2 rfl) ?_
    refine cVi E I (c_X0_hasWalker l w g v (k0 + 12) a1 E.2.2.1 I.2.2 h_k0.2.2.1  ) (cwV 1 E.1.2.2.2.2 (gWs (C := "StarWalk$Night") mw_3_99 mw_3_100 mw_3_101 mw_1_3 mw_3_102) rfl rfl rfl (by decide +kernel) ⟨by decide, by decide⟩) h_k0.2.2.1.1.1 ((ce_o h_k0.2.2.1.1.2).trans rfl) rfl rfl hl.1 rfl (Nat.le_of_ble_eq_true rfl) dX7_mayBeSet_37 ⟨Nat.le_refl _, Nat.le_refl _⟩ (fun r2 u3 H lo hp hPS => ?_)
    obtain ⟨hp, hex, hfr⟩ := hp
    replace hF := xl_i hex hF
    obtain ⟨hu, p4⟩ := hp
    rw [hu] at hPS
    have I : Wo w g s.heap v H lo := ⟨hPS.1, hPS.2, I.2.2⟩
    exact rI E I hr hlk (nbI (by omega)) (by rw [← hpost]; exact ⟨⟨rfl, by omega⟩, hF.trans hres, trivial⟩) dX7_mayBeSet_40
  replace hF := if_f c1 hF
  by_cases c5 : a0.toInt = 3
  ·
    replace hF := if_t c5 hF
    refine lv_tableIn hx hb dX7_mayBeSet_1 (by omega) (by omega) (by rw [c5]; rfl) (tgt := 41) (by decide) ?_
    refine lv_iload_n hx hb dX7_mayBeSet_41 rfl (lv_at hl 2 rfl) ?_
    refine lv_iconst (v := 1) hx hb dX7_mayBeSet_42 (by decide) ?_
    refine bi_lt E (a := a1.toInt) (b := 1) rfl rfl (tgt := 56) dX7_mayBeSet_43 (by decide) (fun c6 => ?_) (fun c6 => ?_)
    ·
      replace hF := if_t c6 hF
      refine lv_iconst (v := 0) hx hb dX7_mayBeSet_56 (by decide) ?_
      exact rI E I hr hlk rfl (by rw [← hpost]; exact ⟨⟨rfl, by have eL : (0 : Int32).toInt = 0 := rfl; omega⟩, hF.trans hres, trivial⟩) dX7_mayBeSet_57
    ·
      replace hF := if_l c6 hF
      refine lv_iload_n hx hb dX7_mayBeSet_46 rfl (lv_at hl 2 rfl) ?_
      refine lv_bipush (v := 40) hx hb dX7_mayBeSet_47 (by decide) ?_
      refine bi_gt E (a := a1.toInt) (b := 40) rfl rfl (tgt := 56) dX7_mayBeSet_49 (by decide) (fun c7 => ?_) (fun c7 => ?_)
      ·
        replace hF := if_t c7 hF
        refine lv_iconst (v := 0) hx hb dX7_mayBeSet_56 (by decide) ?_
        exact rI E I hr hlk rfl (by rw [← hpost]; exact ⟨⟨rfl, by have eL : (0 : Int32).toInt = 0 := rfl; omega⟩, hF.trans hres, trivial⟩) dX7_mayBeSet_57
      ·
        replace hF := if_l c7 hF
        refine lv_iconst (v := 1) hx hb dX7_mayBeSet_52 (by decide) ?_
        refine lv_goto (tgt := 57) hx hb dX7_mayBeSet_53 (by decide) ?_
        exact rI E I hr hlk rfl (by rw [← hpost]; exact ⟨⟨rfl, by have eL : (1 : Int32).toInt = 1 := rfl; omega⟩, hF.trans hres, trivial⟩) dX7_mayBeSet_57
  replace hF := if_f c5 hF
  by_cases c8 : a0.toInt = 4
  ·
    replace hF := if_t c8 hF
    refine lv_tableIn hx hb dX7_mayBeSet_1 (by omega) (by omega) (by rw [c8]; rfl) (tgt := 58) (by decide) ?_
    refine lv_iload_n hx hb dX7_mayBeSet_58 rfl (lv_at hl 2 rfl) ?_
    refine bz_lt E (a := a1.toInt) rfl (tgt := 72) dX7_mayBeSet_59 (by decide) (fun c9 => ?_) (fun c9 => ?_)
    ·
      replace hF := if_t c9 hF
      refine lv_iconst (v := 0) hx hb dX7_mayBeSet_72 (by decide) ?_
      exact rI E I hr hlk rfl (by rw [← hpost]; exact ⟨⟨rfl, by have eL : (0 : Int32).toInt = 0 := rfl; omega⟩, hF.trans hres, trivial⟩) dX7_mayBeSet_73
    ·
      replace hF := if_l c9 hF
      refine lv_iload_n hx hb dX7_mayBeSet_62 rfl (lv_at hl 2 rfl) ?_
      refine lv_bipush (v := 9) hx hb dX7_mayBeSet_63 (by decide) ?_
      refine bi_gt E (a := a1.toInt) (b := 9) rfl rfl (tgt := 72) dX7_mayBeSet_65 (by decide) (fun c10 => ?_) (fun c10 => ?_)
      ·
        replace hF := if_t c10 hF
        refine lv_iconst (v := 0) hx hb dX7_mayBeSet_72 (by decide) ?_
        exact rI E I hr hlk rfl (by rw [← hpost]; exact ⟨⟨rfl, by have eL : (0 : Int32).toInt = 0 := rfl; omega⟩, hF.trans hres, trivial⟩) dX7_mayBeSet_73
      ·
        replace hF := if_l c10 hF
        refine lv_iconst (v := 1) hx hb dX7_mayBeSet_68 (by decide) ?_
        refine lv_goto (tgt := 73) hx hb dX7_mayBeSet_69 (by decide) ?_
        exact rI E I hr hlk rfl (by rw [← hpost]; exact ⟨⟨rfl, by have eL : (1 : Int32).toInt = 1 := rfl; omega⟩, hF.trans hres, trivial⟩) dX7_mayBeSet_73
  replace hF := if_f c8 hF
  by_cases c11 : a0.toInt = 5
  ·
    replace hF := if_t c11 hF
    refine lv_tableIn hx hb dX7_mayBeSet_1 (by omega) (by omega) (by rw [c11]; rfl) (tgt := 74) (by decide) ?_
    refine lv_iload_n hx hb dX7_mayBeSet_74 rfl (lv_at hl 2 rfl) ?_
    refine bz_lt E (a := a1.toInt) rfl (tgt := 88) dX7_mayBeSet_75 (by decide) (fun c12 => ?_) (fun c12 => ?_)
    ·
      replace hF := if_t c12 hF
      refine lv_iconst (v := 0) hx hb dX7_mayBeSet_88 (by decide) ?_
      exact rI E I hr hlk rfl (by rw [← hpost]; exact ⟨⟨rfl, by have eL : (0 : Int32).toInt = 0 := rfl; omega⟩, hF.trans hres, trivial⟩) dX7_mayBeSet_89
    ·
      replace hF := if_l c12 hF
      refine lv_iload_n hx hb dX7_mayBeSet_78 rfl (lv_at hl 2 rfl) ?_
      refine lv_bipush (v := 10) hx hb dX7_mayBeSet_79 (by decide) ?_
      refine bi_gt E (a := a1.toInt) (b := 10) rfl rfl (tgt := 88) dX7_mayBeSet_81 (by decide) (fun c13 => ?_) (fun c13 => ?_)
      ·
        replace hF := if_t c13 hF
        refine lv_iconst (v := 0) hx hb dX7_mayBeSet_88 (by decide) ?_
        exact rI E I hr hlk rfl (by rw [← hpost]; exact ⟨⟨rfl, by have eL : (0 : Int32).toInt = 0 := rfl; omega⟩, hF.trans hres, trivial⟩) dX7_mayBeSet_89
      ·
        replace hF := if_l c13 hF
        refine lv_iconst (v := 1) hx hb dX7_mayBeSet_84 (by decide) ?_
        refine lv_goto (tgt := 89) hx hb dX7_mayBeSet_85 (by decide) ?_
        exact rI E I hr hlk rfl (by rw [← hpost]; exact ⟨⟨rfl, by have eL : (1 : Int32).toInt = 1 := rfl; omega⟩, hF.trans hres, trivial⟩) dX7_mayBeSet_89
  replace hF := if_f c11 hF
  refine lv_tableOut hx hb dX7_mayBeSet_1 (by omega) (tgt := 90) (by decide) ?_
  refine lv_iload_n hx hb dX7_mayBeSet_90 rfl (lv_at hl 2 rfl) ?_
  refine bz_lt E (a := a1.toInt) rfl (tgt := 104) dX7_mayBeSet_91 (by decide) (fun c14 => ?_) (fun c14 => ?_)
  ·
    replace hF := if_t c14 hF
    refine lv_iconst (v := 0) hx hb dX7_mayBeSet_104 (by decide) ?_
    exact rI E I hr hlk rfl (by rw [← hpost]; exact ⟨⟨rfl, by have eL : (0 : Int32).toInt = 0 := rfl; omega⟩, hF.trans hres, trivial⟩) dX7_mayBeSet_105
  ·
    replace hF := if_l c14 hF
    refine lv_iload_n hx hb dX7_mayBeSet_94 rfl (lv_at hl 2 rfl) ?_
    refine lv_bipush (v := 99) hx hb dX7_mayBeSet_95 (by decide) ?_
    refine bi_gt E (a := a1.toInt) (b := 99) rfl rfl (tgt := 104) dX7_mayBeSet_97 (by decide) (fun c15 => ?_) (fun c15 => ?_)
    ·
      replace hF := if_t c15 hF
      refine lv_iconst (v := 0) hx hb dX7_mayBeSet_104 (by decide) ?_
      exact rI E I hr hlk rfl (by rw [← hpost]; exact ⟨⟨rfl, by have eL : (0 : Int32).toInt = 0 := rfl; omega⟩, hF.trans hres, trivial⟩) dX7_mayBeSet_105
    ·
      replace hF := if_l c15 hF
      refine lv_iconst (v := 1) hx hb dX7_mayBeSet_100 (by decide) ?_
      refine lv_goto (tgt := 105) hx hb dX7_mayBeSet_101 (by decide) ?_
      exact rI E I hr hlk rfl (by rw [← hpost]; exact ⟨⟨rfl, by have eL : (1 : Int32).toInt = 1 := rfl; omega⟩, hF.trans hres, trivial⟩) dX7_mayBeSet_105
def F_X7_set (k0 : Nat) (a0 : Int32) (a1 : Int32) (v : St) : Int32 × St :=
if a0.toInt < 2 then (
((-1 : Int32), v)) else (
if 6 < a0.toInt then (
((-1 : Int32), v)) else (
xl (F_X7_mayBeSet k0 a0 a1 v) fun r3 =>
if r3.toInt = 0 then (
((-1 : Int32), v)) else (
xl (F_X7_rule k0 a0 v) fun r7 =>
if a0.toInt = 2 then (
xl (up1 v (k0 + 12) 7 a1) fun v11 =>
(r7, v11)) else (
if a0.toInt = 3 then (
xl (up1 v (k0 + 12) 8 a1) fun v13 =>
(r7, v13)) else (
if a0.toInt = 4 then (
xl (up1 v (k0 + 12) 9 a1) fun v15 =>
(r7, v15)) else (
if a0.toInt = 5 then (
xl (up1 v (k0 + 12) 10 a1) fun v17 =>
(r7, v17)) else (
xl (up1 v (k0 + 12 + 5) 3 a1) fun v18 =>
(r7, v18))))))))
set_option maxHeartbeats 4000000 in
set_option maxRecDepth 100000 in
theorem c_X7_set (l : Launch) (w : Wp) (g : Nat → Nat → Int32) (v : St) (k0 : Nat) (a0 : Int32) (a1 : Int32) (hq : Inj w) (hw : WF (wk w) g v) (h_k0 : oW w k0) : CTi w l yX7_set (wsy yX7_set prog_1_method_10_code 4 (some .int)) (rmL 4) [.ref (wq w k0), .int a0, .int a1] v (fun (r : Int32) (u : St) => (WF (wk w) g u ∧ True) ∧ ((r, u) = F_X7_set k0 a0 a1 v) ∧ (∀ k j : Nat, ¬ (k0 + 12 ≤ k ∧ k < k0 + 21) → u.1 k j = v.1 k j)) := by
  generalize hpost : (fun (r : Int32) (u : St) => (WF (wk w) g u ∧ True) ∧ ((r, u) = F_X7_set k0 a0 a1 v) ∧ (∀ k j : Nat, ¬ (k0 + 12 ≤ k ∧ k < k0 + 21) → u.1 k j = v.1 k j)) = post
  refine CTi.of prog_1_method_10_code 4 (some .int) "StarWalk" (by decide +kernel) rfl hq hw (Nat.le_of_ble_eq_true rfl) ?_
  intro pg en s m ar bl me cd ls E I hr hlk hl
  have hx := E.1.1
  have hb := E.1.2.1
  have hl : lv_has ls 4 [(0, .ref (wq w k0)), (1, .int a0), (2, .int a1)] := hl
  obtain ⟨res, hres⟩ : ∃ z, z = F_X7_set k0 a0 a1 v := ⟨_, rfl⟩
  have hF := hres.symm
  unfold F_X7_set at hF
  replace hres : res = F_X7_set k0 a0 a1 v := hres
  have rz0 : ∀ k j : Nat, ¬ (k0 + 12 ≤ k ∧ k < k0 + 21) → v.1 k j = v.1 k j := fun _ _ _ => rfl
  refine lv_iload_n hx hb dX7_set_0 rfl (lv_at hl 1 rfl) ?_
  refine lv_iconst (v := 2) hx hb dX7_set_1 (by decide) ?_
  refine bi_lt E (a := a0.toInt) (b := 2) rfl rfl (tgt := 20) dX7_set_2 (by decide) (fun c1 => ?_) (fun c1 => ?_)
  ·
    replace hF := if_t c1 hF
    refine lv_iconst (v := (-1)) hx hb dX7_set_20 (by decide) ?_
    exact rI E I hr hlk rfl (by rw [← hpost]; exact ⟨⟨I.2.2, trivial⟩, hF.trans hres, rz0⟩) dX7_set_21
  ·
    replace hF := if_l c1 hF
    refine lv_iload_n hx hb dX7_set_5 rfl (lv_at hl 1 rfl) ?_
    refine lv_bipush (v := 6) hx hb dX7_set_6 (by decide) ?_
    refine bi_gt E (a := a0.toInt) (b := 6) rfl rfl (tgt := 20) dX7_set_8 (by decide) (fun c2 => ?_) (fun c2 => ?_)
    ·
      replace hF := if_t c2 hF
      refine lv_iconst (v := (-1)) hx hb dX7_set_20 (by decide) ?_
      exact rI E I hr hlk rfl (by rw [← hpost]; exact ⟨⟨I.2.2, trivial⟩, hF.trans hres, rz0⟩) dX7_set_21
    ·
      replace hF := if_l c2 hF
      refine lv_aload_n hx hb dX7_set_11 rfl (lv_at hl 0 rfl) ?_
      refine lv_iload_n hx hb dX7_set_12 rfl (lv_at hl 1 rfl) ?_
      refine lv_iload_n hx hb dX7_set_13 rfl (lv_at hl 2 rfl) ?_
      refine cVi E I (c_X7_mayBeSet l w g v k0 a0 a1 E.2.2.1 I.2.2 h_k0  ) (cwV 2 E.1.2.2.2.2 (gWs (C := "StarWalk") mw_3_112 mw_3_114 mw_s_19 mw_1_1 mw_3_115) rfl rfl rfl (by decide +kernel) ⟨by decide, by decide⟩) h_k0.1.1 ((ce_o h_k0.1.2).trans rfl) rfl rfl hl.1 rfl (Nat.le_of_ble_eq_true rfl) dX7_set_14 ⟨Nat.le_refl _, Nat.le_refl _⟩ (fun r3 u4 H lo hp hPS => ?_)
      obtain ⟨hp, hex, hfr⟩ := hp
      replace hF := xl_i hex hF
      obtain ⟨hu, p5⟩ := hp
      rw [hu] at hPS
      have I : Wo w g s.heap v H lo := ⟨hPS.1, hPS.2, I.2.2⟩
      refine bz_ne E (a := r3.toInt) rfl (tgt := 22) dX7_set_17 (by decide) (fun c6 => ?_) (fun c6 => ?_)
      ·
        replace hF := if_f c6 hF
        refine lv_aload_n hx hb dX7_set_22 rfl (lv_at hl 0 rfl) ?_
        refine lv_iload_n hx hb dX7_set_23 rfl (lv_at hl 1 rfl) ?_
        refine cVi E I (c_X7_rule l w g v k0 a0 E.2.2.1 I.2.2 h_k0  ) (cwV 1 E.1.2.2.2.2 (gWs (C := "StarWalk") mw_3_116 mw_3_72 mw_3_73 mw_1_1 mw_3_74) rfl rfl rfl (by decide +kernel) ⟨by decide, by decide⟩) h_k0.1.1 ((ce_o h_k0.1.2).trans rfl) rfl rfl hl.1 rfl (Nat.le_of_ble_eq_true rfl) dX7_set_24 ⟨Nat.le_refl _, Nat.le_refl _⟩ (fun r7 u8 H lo hp hPS => ?_)
        obtain ⟨hp, hex, hfr⟩ := hp
        replace hF := xl_i hex hF
        obtain ⟨hu, p9⟩ := hp
        rw [hu] at hPS
        have I : Wo w g s.heap v H lo := ⟨hPS.1, hPS.2, I.2.2⟩
        refine lv_istore_n (lv' := [(3, .int r7), (0, .ref (wq w k0)), (1, .int a0), (2, .int a1)]) hx hb dX7_set_27 rfl hl (by decide) rfl (fun ls hl => ?_)
        refine lv_iload_n hx hb dX7_set_28 rfl (lv_at hl 2 rfl) ?_
        by_cases c10 : a0.toInt = 2
        ·
          replace hF := if_t c10 hF
          refine lv_tableIn hx hb dX7_set_29 (by omega) (by omega) (by rw [c10]; rfl) (tgt := 60) (by decide) ?_
          refine lv_aload_n hx hb dX7_set_60 rfl (lv_at hl 1 rfl) ?_
          refine g_StarWalk_now E I h_k0.1 mw_2_69 dX7_set_61 ?_
          refine lv_iload_n hx hb dX7_set_64 rfl (lv_at hl 3 rfl) ?_
          refine p_Night_inFront E I h_k0.2.2.1.1 mw_1_95 dX7_set_65 (fun H lo I => ?_)
          generalize ev11 : up1 v (k0 + 12) 7 a1 = v11 at I
          replace hF := xl_i (ev11.symm) hF
          have rzv11 : ∀ k j : Nat, ¬ (k0 + 12 ≤ k ∧ k < k0 + 21) → v11.1 k j = v.1 k j := fun k j h => fz_u ev11 (by omega) (rz0 k j h)
          refine lv_goto (tgt := 115) hx hb dX7_set_68 (by decide) ?_
          refine lv_iload_n hx hb dX7_set_115 rfl (lv_at hl 0 rfl) ?_
          exact rI E I hr hlk rfl (by rw [← hpost]; exact ⟨⟨I.2.2, trivial⟩, hF.trans hres, rzv11⟩) dX7_set_116
        replace hF := if_f c10 hF
        by_cases c12 : a0.toInt = 3
        ·
          replace hF := if_t c12 hF
          refine lv_tableIn hx hb dX7_set_29 (by omega) (by omega) (by rw [c12]; rfl) (tgt := 71) (by decide) ?_
          refine lv_aload_n hx hb dX7_set_71 rfl (lv_at hl 1 rfl) ?_
          refine g_StarWalk_now E I h_k0.1 mw_2_69 dX7_set_72 ?_
          refine lv_iload_n hx hb dX7_set_75 rfl (lv_at hl 3 rfl) ?_
          refine p_Night_wellMiles E I h_k0.2.2.1.1 mw_1_97 dX7_set_76 (fun H lo I => ?_)
          generalize ev13 : up1 v (k0 + 12) 8 a1 = v13 at I
          replace hF := xl_i (ev13.symm) hF
          have rzv13 : ∀ k j : Nat, ¬ (k0 + 12 ≤ k ∧ k < k0 + 21) → v13.1 k j = v.1 k j := fun k j h => fz_u ev13 (by omega) (rz0 k j h)
          refine lv_goto (tgt := 115) hx hb dX7_set_79 (by decide) ?_
          refine lv_iload_n hx hb dX7_set_115 rfl (lv_at hl 0 rfl) ?_
          exact rI E I hr hlk rfl (by rw [← hpost]; exact ⟨⟨I.2.2, trivial⟩, hF.trans hres, rzv13⟩) dX7_set_116
        replace hF := if_f c12 hF
        by_cases c14 : a0.toInt = 4
        ·
          replace hF := if_t c14 hF
          refine lv_tableIn hx hb dX7_set_29 (by omega) (by omega) (by rw [c14]; rfl) (tgt := 82) (by decide) ?_
          refine lv_aload_n hx hb dX7_set_82 rfl (lv_at hl 1 rfl) ?_
          refine g_StarWalk_now E I h_k0.1 mw_2_69 dX7_set_83 ?_
          refine lv_iload_n hx hb dX7_set_86 rfl (lv_at hl 3 rfl) ?_
          refine p_Night_broad E I h_k0.2.2.1.1 mw_1_100 dX7_set_87 (fun H lo I => ?_)
          generalize ev15 : up1 v (k0 + 12) 9 a1 = v15 at I
          replace hF := xl_i (ev15.symm) hF
          have rzv15 : ∀ k j : Nat, ¬ (k0 + 12 ≤ k ∧ k < k0 + 21) → v15.1 k j = v.1 k j := fun k j h => fz_u ev15 (by omega) (rz0 k j h)
          refine lv_goto (tgt := 115) hx hb dX7_set_90 (by decide) ?_
          refine lv_iload_n hx hb dX7_set_115 rfl (lv_at hl 0 rfl) ?_
          exact rI E I hr hlk rfl (by rw [← hpost]; exact ⟨⟨I.2.2, trivial⟩, hF.trans hres, rzv15⟩) dX7_set_116
        replace hF := if_f c14 hF
        by_cases c16 : a0.toInt = 5
        ·
          replace hF := if_t c16 hF
          refine lv_tableIn hx hb dX7_set_29 (by omega) (by omega) (by rw [c16]; rfl) (tgt := 93) (by decide) ?_
          refine lv_aload_n hx hb dX7_set_93 rfl (lv_at hl 1 rfl) ?_
          refine g_StarWalk_now E I h_k0.1 mw_2_69 dX7_set_94 ?_
          refine lv_iload_n hx hb dX7_set_97 rfl (lv_at hl 3 rfl) ?_
          refine p_Night_till E I h_k0.2.2.1.1 mw_1_103 dX7_set_98 (fun H lo I => ?_)
          generalize ev17 : up1 v (k0 + 12) 10 a1 = v17 at I
          replace hF := xl_i (ev17.symm) hF
          have rzv17 : ∀ k j : Nat, ¬ (k0 + 12 ≤ k ∧ k < k0 + 21) → v17.1 k j = v.1 k j := fun k j h => fz_u ev17 (by omega) (rz0 k j h)
          refine lv_goto (tgt := 115) hx hb dX7_set_101 (by decide) ?_
          refine lv_iload_n hx hb dX7_set_115 rfl (lv_at hl 0 rfl) ?_
          exact rI E I hr hlk rfl (by rw [← hpost]; exact ⟨⟨I.2.2, trivial⟩, hF.trans hres, rzv17⟩) dX7_set_116
        replace hF := if_f c16 hF
        refine lv_tableOut hx hb dX7_set_29 (by omega) (tgt := 104) (by decide) ?_
        refine lv_aload_n hx hb dX7_set_104 rfl (lv_at hl 1 rfl) ?_
        refine g_StarWalk_now E I h_k0.1 mw_2_69 dX7_set_105 ?_
        refine g_Night_place E I h_k0.2.2.1.1 mw_1_113 dX7_set_108 ?_
        refine lv_iload_n hx hb dX7_set_111 rfl (lv_at hl 3 rfl) ?_
        refine p_Place_water E I h_k0.2.2.1.2.2.2.2.2.1 mw_1_60 dX7_set_112 (fun H lo I => ?_)
        generalize ev18 : up1 v (k0 + 12 + 5) 3 a1 = v18 at I
        replace hF := xl_i (ev18.symm) hF
        have rzv18 : ∀ k j : Nat, ¬ (k0 + 12 ≤ k ∧ k < k0 + 21) → v18.1 k j = v.1 k j := fun k j h => fz_u ev18 (by omega) (rz0 k j h)
        refine lv_iload_n hx hb dX7_set_115 rfl (lv_at hl 0 rfl) ?_
        exact rI E I hr hlk rfl (by rw [← hpost]; exact ⟨⟨I.2.2, trivial⟩, hF.trans hres, rzv18⟩) dX7_set_116
      ·
        replace hF := if_t c6 hF
        refine lv_iconst (v := (-1)) hx hb dX7_set_20 (by decide) ?_
        exact rI E I hr hlk rfl (by rw [← hpost]; exact ⟨⟨I.2.2, trivial⟩, hF.trans hres, rz0⟩) dX7_set_21
def F_X7_cloud (k0 : Nat) (a0 : Int32) (a1 : Int32) (v : St) : Int32 × St :=
xl (F_X7_isHour a0 v) fun r1 =>
if r1.toInt = 0 then (
((-1 : Int32), v)) else (
xl (F_X0_isCloudy (k0 + 12) a0 v) fun r5 =>
xl (F_X7_oneIf r5 v) fun r8 =>
xl (v.1 (k0 + 12) 11) fun x11 =>
xl (F_X7_withBit x11 a0 a1 v) fun r12 =>
xl (up1 v (k0 + 12) 11 r12) fun v15 =>
(r8, v15))
set_option maxHeartbeats 4000000 in
set_option maxRecDepth 100000 in
theorem c_X7_cloud (l : Launch) (w : Wp) (g : Nat → Nat → Int32) (v : St) (k0 : Nat) (a0 : Int32) (a1 : Int32) (hq : Inj w) (hw : WF (wk w) g v) (h_k0 : oW w k0) : CTi w l yX7_cloud (wsy yX7_cloud prog_1_method_12_code 4 (some .int)) (rmL 2) [.ref (wq w k0), .int a0, .int a1] v (fun (r : Int32) (u : St) => (WF (wk w) g u ∧ True) ∧ ((r, u) = F_X7_cloud k0 a0 a1 v) ∧ (∀ k j : Nat, ¬ (k0 + 12 ≤ k ∧ k < k0 + 21) → u.1 k j = v.1 k j)) := by
  generalize hpost : (fun (r : Int32) (u : St) => (WF (wk w) g u ∧ True) ∧ ((r, u) = F_X7_cloud k0 a0 a1 v) ∧ (∀ k j : Nat, ¬ (k0 + 12 ≤ k ∧ k < k0 + 21) → u.1 k j = v.1 k j)) = post
  refine CTi.of prog_1_method_12_code 4 (some .int) "StarWalk" (by decide +kernel) rfl hq hw (Nat.le_of_ble_eq_true rfl) ?_
  intro pg en s m ar bl me cd ls E I hr hlk hl
  have hx := E.1.1
  have hb := E.1.2.1
  have hl : lv_has ls 4 [(0, .ref (wq w k0)), (1, .int a0), (2, .int a1)] := hl
  obtain ⟨res, hres⟩ : ∃ z, z = F_X7_cloud k0 a0 a1 v := ⟨_, rfl⟩
  have hF := hres.symm
  unfold F_X7_cloud at hF
  replace hres : res = F_X7_cloud k0 a0 a1 v := hres
  have rz0 : ∀ k j : Nat, ¬ (k0 + 12 ≤ k ∧ k < k0 + 21) → v.1 k j = v.1 k j := fun _ _ _ => rfl
  refine lv_iload_n hx hb dX7_cloud_0 rfl (lv_at hl 1 rfl) ?_
  refine cSi E I (c_X7_isHour l w g v a0 E.2.2.1 I.2.2   ) (va_cwS 1 E.1.2.2.2.2 (gSs mw_3_121 mw_3_122 mw_1_1 mw_3_123) rfl rfl rfl (by decide +kernel) ⟨by decide, by decide⟩) rfl hl.1 rfl (Nat.le_of_ble_eq_true rfl) dX7_cloud_1 ⟨Nat.le_refl _, Nat.le_refl _⟩ (fun r1 u2 H lo hp hPS => ?_)
  obtain ⟨hp, hex, hfr⟩ := hp
  replace hF := xl_i hex hF
  obtain ⟨hu, p3⟩ := hp
  rw [hu] at hPS
  have I : Wo w g s.heap v H lo := ⟨hPS.1, hPS.2, I.2.2⟩
  refine bz_ne E (a := r1.toInt) rfl (tgt := 9) dX7_cloud_4 (by decide) (fun c4 => ?_) (fun c4 => ?_)
  ·
    replace hF := if_f c4 hF
    refine lv_aload_n hx hb dX7_cloud_9 rfl (lv_at hl 0 rfl) ?_
    refine g_StarWalk_now E I h_k0.1 mw_2_69 dX7_cloud_10 ?_
    refine lv_iload_n hx hb dX7_cloud_13 rfl (lv_at hl 1 rfl) ?_
    refine cVi E I (c_X0_isCloudy l w g v (k0 + 12) a0 E.2.2.1 I.2.2 h_k0.2.2.1  ) (cwV 1 E.1.2.2.2.2 (gWs (C := "StarWalk$Night") mw_3_124 mw_3_28 mw_3_29 mw_1_3 mw_3_30) rfl rfl rfl (by decide +kernel) ⟨by decide, by decide⟩) h_k0.2.2.1.1.1 ((ce_o h_k0.2.2.1.1.2).trans rfl) rfl rfl hl.1 rfl (Nat.le_of_ble_eq_true rfl) dX7_cloud_14 ⟨Nat.le_refl _, Nat.le_refl _⟩ (fun r5 u6 H lo hp hPS => ?_)
    obtain ⟨hp, hex, hfr⟩ := hp
    replace hF := xl_i hex hF
    obtain ⟨hu, p7⟩ := hp
    rw [hu] at hPS
    have I : Wo w g s.heap v H lo := ⟨hPS.1, hPS.2, I.2.2⟩
    refine cSi E I (c_X7_oneIf l w g v r5 E.2.2.1 I.2.2   ) (va_cwS 1 E.1.2.2.2.2 (gSs mw_3_86 mw_3_87 mw_1_1 mw_3_88) rfl rfl rfl (by decide +kernel) ⟨by decide, by decide⟩) rfl hl.1 rfl (Nat.le_of_ble_eq_true rfl) dX7_cloud_17 ⟨Nat.le_refl _, Nat.le_refl _⟩ (fun r8 u9 H lo hp hPS => ?_)
    obtain ⟨hp, hex, hfr⟩ := hp
    replace hF := xl_i hex hF
    obtain ⟨hu, p10⟩ := hp
    rw [hu] at hPS
    have I : Wo w g s.heap v H lo := ⟨hPS.1, hPS.2, I.2.2⟩
    refine lv_istore_n (lv' := [(3, .int r8), (0, .ref (wq w k0)), (1, .int a0), (2, .int a1)]) hx hb dX7_cloud_20 rfl hl (by decide) rfl (fun ls hl => ?_)
    refine lv_aload_n hx hb dX7_cloud_21 rfl (lv_at hl 1 rfl) ?_
    refine g_StarWalk_now E I h_k0.1 mw_2_69 dX7_cloud_22 ?_
    refine lv_aload_n hx hb dX7_cloud_25 rfl (lv_at hl 1 rfl) ?_
    refine g_StarWalk_now E I h_k0.1 mw_2_69 dX7_cloud_26 ?_
    refine g_Night_clouds E I h_k0.2.2.1.1 mw_1_107 dX7_cloud_29 ?_
    refine lv_topi (fun x11 ex11 => ?_)
    replace hF := xl_i (ex11) hF
    refine lv_iload_n hx hb dX7_cloud_32 rfl (lv_at hl 2 rfl) ?_
    refine lv_iload_n hx hb dX7_cloud_33 rfl (lv_at hl 3 rfl) ?_
    refine cSi E I (c_X7_withBit l w g v x11 a0 a1 E.2.2.1 I.2.2   ) (va_cwS 3 E.1.2.2.2.2 (gSs mw_3_125 mw_2_229 mw_1_1 mw_2_230) rfl rfl rfl (by decide +kernel) ⟨by decide, by decide⟩) rfl hl.1 rfl (Nat.le_of_ble_eq_true rfl) dX7_cloud_34 ⟨Nat.le_refl _, Nat.le_refl _⟩ (fun r12 u13 H lo hp hPS => ?_)
    obtain ⟨hp, hex, hfr⟩ := hp
    replace hF := xl_i hex hF
    obtain ⟨hu, p14⟩ := hp
    rw [hu] at hPS
    have I : Wo w g s.heap v H lo := ⟨hPS.1, hPS.2, I.2.2⟩
    refine p_Night_clouds E I h_k0.2.2.1.1 mw_1_107 dX7_cloud_37 (fun H lo I => ?_)
    generalize ev15 : up1 v (k0 + 12) 11 r12 = v15 at I
    replace hF := xl_i (ev15.symm) hF
    have rzv15 : ∀ k j : Nat, ¬ (k0 + 12 ≤ k ∧ k < k0 + 21) → v15.1 k j = v.1 k j := fun k j h => fz_u ev15 (by omega) (rz0 k j h)
    refine lv_iload_n hx hb dX7_cloud_40 rfl (lv_at hl 0 rfl) ?_
    exact rI E I hr hlk rfl (by rw [← hpost]; exact ⟨⟨I.2.2, trivial⟩, hF.trans hres, rzv15⟩) dX7_cloud_41
  ·
    replace hF := if_t c4 hF
    refine lv_iconst (v := (-1)) hx hb dX7_cloud_7 (by decide) ?_
    exact rI E I hr hlk rfl (by rw [← hpost]; exact ⟨⟨I.2.2, trivial⟩, hF.trans hres, rz0⟩) dX7_cloud_8
def F_X7_know (k0 : Nat) (a0 : Int32) (a1 : Int32) (v : St) : Int32 × St :=
xl (F_X0_hasStar (k0 + 12) a0 v) fun r1 =>
if r1.toInt = 0 then (
((-1 : Int32), v)) else (
xl (F_X0_isKnown (k0 + 12) a0 v) fun r5 =>
xl (F_X7_oneIf r5 v) fun r8 =>
xl (v.1 (k0 + 12) 4) fun x11 =>
xl (F_X7_withBit x11 a0 a1 v) fun r12 =>
xl (up1 v (k0 + 12) 4 r12) fun v15 =>
(r8, v15))
set_option maxHeartbeats 4000000 in
set_option maxRecDepth 100000 in
theorem c_X7_know (l : Launch) (w : Wp) (g : Nat → Nat → Int32) (v : St) (k0 : Nat) (a0 : Int32) (a1 : Int32) (hq : Inj w) (hw : WF (wk w) g v) (h_k0 : oW w k0) : CTi w l yX7_know (wsy yX7_know prog_1_method_13_code 4 (some .int)) (rmL 2) [.ref (wq w k0), .int a0, .int a1] v (fun (r : Int32) (u : St) => (WF (wk w) g u ∧ True) ∧ ((r, u) = F_X7_know k0 a0 a1 v) ∧ (∀ k j : Nat, ¬ (k0 + 12 ≤ k ∧ k < k0 + 21) → u.1 k j = v.1 k j)) := by
  generalize hpost : (fun (r : Int32) (u : St) => (WF (wk w) g u ∧ True) ∧ ((r, u) = F_X7_know k0 a0 a1 v) ∧ (∀ k j : Nat, ¬ (k0 + 12 ≤ k ∧ k < k0 + 21) → u.1 k j = v.1 k j)) = post
  refine CTi.of prog_1_method_13_code 4 (some .int) "StarWalk" (by decide +kernel) rfl hq hw (Nat.le_of_ble_eq_true rfl) ?_
  intro pg en s m ar bl me cd ls E I hr hlk hl
  have hx := E.1.1
  have hb := E.1.2.1
  have hl : lv_has ls 4 [(0, .ref (wq w k0)), (1, .int a0), (2, .int a1)] := hl
  obtain ⟨res, hres⟩ : ∃ z, z = F_X7_know k0 a0 a1 v := ⟨_, rfl⟩
  have hF := hres.symm
  unfold F_X7_know at hF
  replace hres : res = F_X7_know k0 a0 a1 v := hres
  have rz0 : ∀ k j : Nat, ¬ (k0 + 12 ≤ k ∧ k < k0 + 21) → v.1 k j = v.1 k j := fun _ _ _ => rfl
  refine lv_aload_n hx hb dX7_know_0 rfl (lv_at hl 0 rfl) ?_
  refine g_StarWalk_now E I h_k0.1 mw_2_69 dX7_know_1 ?_
  refine lv_iload_n hx hb dX7_know_4 rfl (lv_at hl 1 rfl) ?_
  refine cVi E I (c_X0_hasStar l w g v (k0 + 12) a0 E.2.2.1 I.2.2 h_k0.2.2.1  ) (cwV 1 E.1.2.2.2.2 (gWs (C := "StarWalk$Night") mw_3_93 mw_3_53 mw_3_54 mw_1_3 mw_3_55) rfl rfl rfl (by decide +kernel) ⟨by decide, by decide⟩) h_k0.2.2.1.1.1 ((ce_o h_k0.2.2.1.1.2).trans rfl) rfl rfl hl.1 rfl (Nat.le_of_ble_eq_true rfl) dX7_know_5 ⟨Nat.le_refl _, Nat.le_refl _⟩ (fun r1 u2 H lo hp hPS => ?_)
  obtain ⟨hp, hex, hfr⟩ := hp
  replace hF := xl_i hex hF
  obtain ⟨hu, p3⟩ := hp
  rw [hu] at hPS
  have I : Wo w g s.heap v H lo := ⟨hPS.1, hPS.2, I.2.2⟩
  refine bz_ne E (a := r1.toInt) rfl (tgt := 13) dX7_know_8 (by decide) (fun c4 => ?_) (fun c4 => ?_)
  ·
    replace hF := if_f c4 hF
    refine lv_aload_n hx hb dX7_know_13 rfl (lv_at hl 0 rfl) ?_
    refine g_StarWalk_now E I h_k0.1 mw_2_69 dX7_know_14 ?_
    refine lv_iload_n hx hb dX7_know_17 rfl (lv_at hl 1 rfl) ?_
    refine cVi E I (c_X0_isKnown l w g v (k0 + 12) a0 E.2.2.1 I.2.2 h_k0.2.2.1  ) (cwV 1 E.1.2.2.2.2 (gWs (C := "StarWalk$Night") mw_3_94 mw_2_225 mw_2_226 mw_1_3 mw_2_227) rfl rfl rfl (by decide +kernel) ⟨by decide, by decide⟩) h_k0.2.2.1.1.1 ((ce_o h_k0.2.2.1.1.2).trans rfl) rfl rfl hl.1 rfl (Nat.le_of_ble_eq_true rfl) dX7_know_18 ⟨Nat.le_refl _, Nat.le_refl _⟩ (fun r5 u6 H lo hp hPS => ?_)
    obtain ⟨hp, hex, hfr⟩ := hp
    replace hF := xl_i hex hF
    obtain ⟨hu, p7⟩ := hp
    rw [hu] at hPS
    have I : Wo w g s.heap v H lo := ⟨hPS.1, hPS.2, I.2.2⟩
    refine cSi E I (c_X7_oneIf l w g v r5 E.2.2.1 I.2.2   ) (va_cwS 1 E.1.2.2.2.2 (gSs mw_3_86 mw_3_87 mw_1_1 mw_3_88) rfl rfl rfl (by decide +kernel) ⟨by decide, by decide⟩) rfl hl.1 rfl (Nat.le_of_ble_eq_true rfl) dX7_know_21 ⟨Nat.le_refl _, Nat.le_refl _⟩ (fun r8 u9 H lo hp hPS => ?_)
    obtain ⟨hp, hex, hfr⟩ := hp
    replace hF := xl_i hex hF
    obtain ⟨hu, p10⟩ := hp
    rw [hu] at hPS
    have I : Wo w g s.heap v H lo := ⟨hPS.1, hPS.2, I.2.2⟩
    refine lv_istore_n (lv' := [(3, .int r8), (0, .ref (wq w k0)), (1, .int a0), (2, .int a1)]) hx hb dX7_know_24 rfl hl (by decide) rfl (fun ls hl => ?_)
    refine lv_aload_n hx hb dX7_know_25 rfl (lv_at hl 1 rfl) ?_
    refine g_StarWalk_now E I h_k0.1 mw_2_69 dX7_know_26 ?_
    refine lv_aload_n hx hb dX7_know_29 rfl (lv_at hl 1 rfl) ?_
    refine g_StarWalk_now E I h_k0.1 mw_2_69 dX7_know_30 ?_
    refine g_Night_known E I h_k0.2.2.1.1 mw_1_88 dX7_know_33 ?_
    refine lv_topi (fun x11 ex11 => ?_)
    replace hF := xl_i (ex11) hF
    refine lv_iload_n hx hb dX7_know_36 rfl (lv_at hl 2 rfl) ?_
    refine lv_iload_n hx hb dX7_know_37 rfl (lv_at hl 3 rfl) ?_
    refine cSi E I (c_X7_withBit l w g v x11 a0 a1 E.2.2.1 I.2.2   ) (va_cwS 3 E.1.2.2.2.2 (gSs mw_3_125 mw_2_229 mw_1_1 mw_2_230) rfl rfl rfl (by decide +kernel) ⟨by decide, by decide⟩) rfl hl.1 rfl (Nat.le_of_ble_eq_true rfl) dX7_know_38 ⟨Nat.le_refl _, Nat.le_refl _⟩ (fun r12 u13 H lo hp hPS => ?_)
    obtain ⟨hp, hex, hfr⟩ := hp
    replace hF := xl_i hex hF
    obtain ⟨hu, p14⟩ := hp
    rw [hu] at hPS
    have I : Wo w g s.heap v H lo := ⟨hPS.1, hPS.2, I.2.2⟩
    refine p_Night_known E I h_k0.2.2.1.1 mw_1_88 dX7_know_41 (fun H lo I => ?_)
    generalize ev15 : up1 v (k0 + 12) 4 r12 = v15 at I
    replace hF := xl_i (ev15.symm) hF
    have rzv15 : ∀ k j : Nat, ¬ (k0 + 12 ≤ k ∧ k < k0 + 21) → v15.1 k j = v.1 k j := fun k j h => fz_u ev15 (by omega) (rz0 k j h)
    refine lv_iload_n hx hb dX7_know_44 rfl (lv_at hl 0 rfl) ?_
    exact rI E I hr hlk rfl (by rw [← hpost]; exact ⟨⟨I.2.2, trivial⟩, hF.trans hres, rzv15⟩) dX7_know_45
  ·
    replace hF := if_t c4 hF
    refine lv_iconst (v := (-1)) hx hb dX7_know_11 (by decide) ?_
    exact rI E I hr hlk rfl (by rw [← hpost]; exact ⟨⟨I.2.2, trivial⟩, hF.trans hres, rz0⟩) dX7_know_12
def F_X7_turn (k0 : Nat) (a0 : Int32) (a1 : Int32) (v : St) : Int32 × St :=
xl (F_X0_hasStar (k0 + 12) a0 v) fun r1 =>
if r1.toInt = 0 then (
((-1 : Int32), v)) else (
if a1.toInt < 0 then (
((-1 : Int32), v)) else (
if 6 < a1.toInt then (
((-1 : Int32), v)) else (
xl (v.1 (k0 + 12 + 3) a0.toNatClampNeg) fun x7 =>
xl (up1 v (k0 + 12 + 3) a0.toNatClampNeg a1) fun v8 =>
(x7, v8))))
set_option maxHeartbeats 4000000 in
set_option maxRecDepth 100000 in
theorem c_X7_turn (l : Launch) (w : Wp) (g : Nat → Nat → Int32) (v : St) (k0 : Nat) (a0 : Int32) (a1 : Int32) (hq : Inj w) (hw : WF (wk w) g v) (h_k0 : oW w k0) : CTi w l yX7_turn (wsy yX7_turn prog_1_method_14_code 4 (some .int)) (rmL 2) [.ref (wq w k0), .int a0, .int a1] v (fun (r : Int32) (u : St) => (WF (wk w) g u ∧ True) ∧ ((r, u) = F_X7_turn k0 a0 a1 v) ∧ (∀ k j : Nat, ¬ (k0 + 12 ≤ k ∧ k < k0 + 21) → u.1 k j = v.1 k j)) := by
  generalize hpost : (fun (r : Int32) (u : St) => (WF (wk w) g u ∧ True) ∧ ((r, u) = F_X7_turn k0 a0 a1 v) ∧ (∀ k j : Nat, ¬ (k0 + 12 ≤ k ∧ k < k0 + 21) → u.1 k j = v.1 k j)) = post
  refine CTi.of prog_1_method_14_code 4 (some .int) "StarWalk" (by decide +kernel) rfl hq hw (Nat.le_of_ble_eq_true rfl) ?_
  intro pg en s m ar bl me cd ls E I hr hlk hl
  have hx := E.1.1
  have hb := E.1.2.1
  have hl : lv_has ls 4 [(0, .ref (wq w k0)), (1, .int a0), (2, .int a1)] := hl
  obtain ⟨res, hres⟩ : ∃ z, z = F_X7_turn k0 a0 a1 v := ⟨_, rfl⟩
  have hF := hres.symm
  unfold F_X7_turn at hF
  replace hres : res = F_X7_turn k0 a0 a1 v := hres
  have rz0 : ∀ k j : Nat, ¬ (k0 + 12 ≤ k ∧ k < k0 + 21) → v.1 k j = v.1 k j := fun _ _ _ => rfl
  refine lv_aload_n hx hb dX7_turn_0 rfl (lv_at hl 0 rfl) ?_
  refine g_StarWalk_now E I h_k0.1 mw_2_69 dX7_turn_1 ?_
  refine lv_iload_n hx hb dX7_turn_4 rfl (lv_at hl 1 rfl) ?_
  refine cVi E I (c_X0_hasStar l w g v (k0 + 12) a0 E.2.2.1 I.2.2 h_k0.2.2.1  ) (cwV 1 E.1.2.2.2.2 (gWs (C := "StarWalk$Night") mw_3_93 mw_3_53 mw_3_54 mw_1_3 mw_3_55) rfl rfl rfl (by decide +kernel) ⟨by decide, by decide⟩) h_k0.2.2.1.1.1 ((ce_o h_k0.2.2.1.1.2).trans rfl) rfl rfl hl.1 rfl (Nat.le_of_ble_eq_true rfl) dX7_turn_5 ⟨Nat.le_refl _, Nat.le_refl _⟩ (fun r1 u2 H lo hp hPS => ?_)
  obtain ⟨hp, hex, hfr⟩ := hp
  replace hF := xl_i hex hF
  obtain ⟨hu, p3⟩ := hp
  rw [hu] at hPS
  have I : Wo w g s.heap v H lo := ⟨hPS.1, hPS.2, I.2.2⟩
  refine bz_eq E (a := r1.toInt) rfl (tgt := 21) dX7_turn_8 (by decide) (fun c4 => ?_) (fun c4 => ?_)
  ·
    replace hF := if_t c4 hF
    refine lv_iconst (v := (-1)) hx hb dX7_turn_21 (by decide) ?_
    exact rI E I hr hlk rfl (by rw [← hpost]; exact ⟨⟨I.2.2, trivial⟩, hF.trans hres, rz0⟩) dX7_turn_22
  ·
    replace hF := if_f c4 hF
    refine lv_iload_n hx hb dX7_turn_11 rfl (lv_at hl 2 rfl) ?_
    refine bz_lt E (a := a1.toInt) rfl (tgt := 21) dX7_turn_12 (by decide) (fun c5 => ?_) (fun c5 => ?_)
    ·
      replace hF := if_t c5 hF
      refine lv_iconst (v := (-1)) hx hb dX7_turn_21 (by decide) ?_
      exact rI E I hr hlk rfl (by rw [← hpost]; exact ⟨⟨I.2.2, trivial⟩, hF.trans hres, rz0⟩) dX7_turn_22
    ·
      replace hF := if_l c5 hF
      refine lv_iload_n hx hb dX7_turn_15 rfl (lv_at hl 2 rfl) ?_
      refine lv_bipush (v := 6) hx hb dX7_turn_16 (by decide) ?_
      refine bi_le E (a := a1.toInt) (b := 6) rfl rfl (tgt := 23) dX7_turn_18 (by decide) (fun c6 => ?_) (fun c6 => ?_)
      ·
        replace hF := if_l c6 hF
        refine lv_aload_n hx hb dX7_turn_23 rfl (lv_at hl 0 rfl) ?_
        refine g_StarWalk_now E I h_k0.1 mw_2_69 dX7_turn_24 ?_
        refine g_Night_off E I h_k0.2.2.1.1 mw_1_82 dX7_turn_27 ?_
        refine lv_iload_n hx hb dX7_turn_30 rfl (lv_at hl 1 rfl) ?_
        refine ga_10 E I h_k0.2.2.1.2.2.2.1 (by omega) dX7_turn_31 ?_
        refine lv_topi (fun x7 ex7 => ?_)
        replace hF := xl_i (ex7) hF
        refine lv_istore_n (lv' := [(3, .int x7), (0, .ref (wq w k0)), (1, .int a0), (2, .int a1)]) hx hb dX7_turn_32 rfl hl (by decide) rfl (fun ls hl => ?_)
        refine lv_aload_n hx hb dX7_turn_33 rfl (lv_at hl 1 rfl) ?_
        refine g_StarWalk_now E I h_k0.1 mw_2_69 dX7_turn_34 ?_
        refine g_Night_off E I h_k0.2.2.1.1 mw_1_82 dX7_turn_37 ?_
        refine lv_iload_n hx hb dX7_turn_40 rfl (lv_at hl 2 rfl) ?_
        refine lv_iload_n hx hb dX7_turn_41 rfl (lv_at hl 3 rfl) ?_
        refine pa_10 E I h_k0.2.2.1.2.2.2.1 (by omega) dX7_turn_42 (fun H lo I => ?_)
        generalize ev8 : up1 v (k0 + 12 + 3) a0.toNatClampNeg a1 = v8 at I
        replace hF := xl_i (ev8.symm) hF
        have rzv8 : ∀ k j : Nat, ¬ (k0 + 12 ≤ k ∧ k < k0 + 21) → v8.1 k j = v.1 k j := fun k j h => fz_u ev8 (by have cza0 := cnI (x := a0) (by omega); omega) (rz0 k j h)
        refine lv_iload_n hx hb dX7_turn_43 rfl (lv_at hl 0 rfl) ?_
        exact rI E I hr hlk rfl (by rw [← hpost]; exact ⟨⟨I.2.2, trivial⟩, hF.trans hres, rzv8⟩) dX7_turn_44
      ·
        replace hF := if_t c6 hF
        refine lv_iconst (v := (-1)) hx hb dX7_turn_21 (by decide) ?_
        exact rI E I hr hlk rfl (by rw [← hpost]; exact ⟨⟨I.2.2, trivial⟩, hF.trans hres, rz0⟩) dX7_turn_22
def F_X7_teach (k0 : Nat) (a0 : Int32) (a1 : Int32) (v : St) : Int32 × St :=
xl (F_X0_hasWalker (k0 + 12) a0 v) fun r1 =>
if r1.toInt = 0 then (
((-1 : Int32), v)) else (
if a1.toInt < 0 then (
((-1 : Int32), v)) else (
if 3 < a1.toInt then (
((-1 : Int32), v)) else (
xl (v.1 (k0 + 12 + 4) a0.toNatClampNeg) fun x7 =>
xl (up1 v (k0 + 12 + 4) a0.toNatClampNeg a1) fun v8 =>
(x7, v8))))
set_option maxHeartbeats 4000000 in
set_option maxRecDepth 100000 in
theorem c_X7_teach (l : Launch) (w : Wp) (g : Nat → Nat → Int32) (v : St) (k0 : Nat) (a0 : Int32) (a1 : Int32) (hq : Inj w) (hw : WF (wk w) g v) (h_k0 : oW w k0) : CTi w l yX7_teach (wsy yX7_teach prog_1_method_15_code 4 (some .int)) (rmL 2) [.ref (wq w k0), .int a0, .int a1] v (fun (r : Int32) (u : St) => (WF (wk w) g u ∧ True) ∧ ((r, u) = F_X7_teach k0 a0 a1 v) ∧ (∀ k j : Nat, ¬ (k0 + 12 ≤ k ∧ k < k0 + 21) → u.1 k j = v.1 k j)) := by
  generalize hpost : (fun (r : Int32) (u : St) => (WF (wk w) g u ∧ True) ∧ ((r, u) = F_X7_teach k0 a0 a1 v) ∧ (∀ k j : Nat, ¬ (k0 + 12 ≤ k ∧ k < k0 + 21) → u.1 k j = v.1 k j)) = post
  refine CTi.of prog_1_method_15_code 4 (some .int) "StarWalk" (by decide +kernel) rfl hq hw (Nat.le_of_ble_eq_true rfl) ?_
  intro pg en s m ar bl me cd ls E I hr hlk hl
  have hx := E.1.1
  have hb := E.1.2.1
  have hl : lv_has ls 4 [(0, .ref (wq w k0)), (1, .int a0), (2, .int a1)] := hl
  obtain ⟨res, hres⟩ : ∃ z, z = F_X7_teach k0 a0 a1 v := ⟨_, rfl⟩
  have hF := hres.symm
  unfold F_X7_teach at hF
  replace hres : res = F_X7_teach k0 a0 a1 v := hres
  have rz0 : ∀ k j : Nat, ¬ (k0 + 12 ≤ k ∧ k < k0 + 21) → v.1 k j = v.1 k j := fun _ _ _ => rfl
  refine lv_aload_n hx hb dX7_teach_0 rfl (lv_at hl 0 rfl) ?_
  refine g_StarWalk_now E I h_k0.1 mw_2_69 dX7_teach_1 ?_
  refine lv_iload_n hx hb dX7_teach_4 rfl (lv_at hl 1 rfl) ?_
  refine cVi E I (c_X0_hasWalker l w g v (k0 + 12) a0 E.2.2.1 I.2.2 h_k0.2.2.1  ) (cwV 1 E.1.2.2.2.2 (gWs (C := "StarWalk$Night") mw_3_99 mw_3_100 mw_3_101 mw_1_3 mw_3_102) rfl rfl rfl (by decide +kernel) ⟨by decide, by decide⟩) h_k0.2.2.1.1.1 ((ce_o h_k0.2.2.1.1.2).trans rfl) rfl rfl hl.1 rfl (Nat.le_of_ble_eq_true rfl) dX7_teach_5 ⟨Nat.le_refl _, Nat.le_refl _⟩ (fun r1 u2 H lo hp hPS => ?_)
  obtain ⟨hp, hex, hfr⟩ := hp
  replace hF := xl_i hex hF
  obtain ⟨hu, p3⟩ := hp
  rw [hu] at hPS
  have I : Wo w g s.heap v H lo := ⟨hPS.1, hPS.2, I.2.2⟩
  refine bz_eq E (a := r1.toInt) rfl (tgt := 20) dX7_teach_8 (by decide) (fun c4 => ?_) (fun c4 => ?_)
  ·
    replace hF := if_t c4 hF
    refine lv_iconst (v := (-1)) hx hb dX7_teach_20 (by decide) ?_
    exact rI E I hr hlk rfl (by rw [← hpost]; exact ⟨⟨I.2.2, trivial⟩, hF.trans hres, rz0⟩) dX7_teach_21
  ·
    replace hF := if_f c4 hF
    refine lv_iload_n hx hb dX7_teach_11 rfl (lv_at hl 2 rfl) ?_
    refine bz_lt E (a := a1.toInt) rfl (tgt := 20) dX7_teach_12 (by decide) (fun c5 => ?_) (fun c5 => ?_)
    ·
      replace hF := if_t c5 hF
      refine lv_iconst (v := (-1)) hx hb dX7_teach_20 (by decide) ?_
      exact rI E I hr hlk rfl (by rw [← hpost]; exact ⟨⟨I.2.2, trivial⟩, hF.trans hres, rz0⟩) dX7_teach_21
    ·
      replace hF := if_l c5 hF
      refine lv_iload_n hx hb dX7_teach_15 rfl (lv_at hl 2 rfl) ?_
      refine lv_iconst (v := 3) hx hb dX7_teach_16 (by decide) ?_
      refine bi_le E (a := a1.toInt) (b := 3) rfl rfl (tgt := 22) dX7_teach_17 (by decide) (fun c6 => ?_) (fun c6 => ?_)
      ·
        replace hF := if_l c6 hF
        refine lv_aload_n hx hb dX7_teach_22 rfl (lv_at hl 0 rfl) ?_
        refine g_StarWalk_now E I h_k0.1 mw_2_69 dX7_teach_23 ?_
        refine g_Night_kinds E I h_k0.2.2.1.1 mw_1_90 dX7_teach_26 ?_
        refine lv_iload_n hx hb dX7_teach_29 rfl (lv_at hl 1 rfl) ?_
        refine ga_11 E I h_k0.2.2.1.2.2.2.2.1 (by omega) dX7_teach_30 ?_
        refine lv_topi (fun x7 ex7 => ?_)
        replace hF := xl_i (ex7) hF
        refine lv_istore_n (lv' := [(3, .int x7), (0, .ref (wq w k0)), (1, .int a0), (2, .int a1)]) hx hb dX7_teach_31 rfl hl (by decide) rfl (fun ls hl => ?_)
        refine lv_aload_n hx hb dX7_teach_32 rfl (lv_at hl 1 rfl) ?_
        refine g_StarWalk_now E I h_k0.1 mw_2_69 dX7_teach_33 ?_
        refine g_Night_kinds E I h_k0.2.2.1.1 mw_1_90 dX7_teach_36 ?_
        refine lv_iload_n hx hb dX7_teach_39 rfl (lv_at hl 2 rfl) ?_
        refine lv_iload_n hx hb dX7_teach_40 rfl (lv_at hl 3 rfl) ?_
        refine pa_11 E I h_k0.2.2.1.2.2.2.2.1 (by omega) dX7_teach_41 (fun H lo I => ?_)
        generalize ev8 : up1 v (k0 + 12 + 4) a0.toNatClampNeg a1 = v8 at I
        replace hF := xl_i (ev8.symm) hF
        have rzv8 : ∀ k j : Nat, ¬ (k0 + 12 ≤ k ∧ k < k0 + 21) → v8.1 k j = v.1 k j := fun k j h => fz_u ev8 (by have cza0 := cnI (x := a0) (by omega); omega) (rz0 k j h)
        refine lv_iload_n hx hb dX7_teach_42 rfl (lv_at hl 0 rfl) ?_
        exact rI E I hr hlk rfl (by rw [← hpost]; exact ⟨⟨I.2.2, trivial⟩, hF.trans hres, rzv8⟩) dX7_teach_43
      ·
        replace hF := if_t c6 hF
        refine lv_iconst (v := (-1)) hx hb dX7_teach_20 (by decide) ?_
        exact rI E I hr hlk rfl (by rw [← hpost]; exact ⟨⟨I.2.2, trivial⟩, hF.trans hres, rz0⟩) dX7_teach_21
def F_X7_plans (k0 : Nat) (a0 : Int32) (v : St) : Int32 × St :=
xl (F_X0_hasAim (k0 + 12) a0 v) fun r1 =>
if r1.toInt = 0 then (
((-1 : Int32), v)) else (
xm (F_X0_addAim (k0 + 12) a0 v) fun r5 u6 =>
if r5.toInt = 0 then (
((-3 : Int32), u6)) else (
xl (u6.1 (k0 + 12) 14) fun x9 =>
(x9, u6)))
set_option maxHeartbeats 4000000 in
set_option maxRecDepth 100000 in
theorem c_X7_plans (l : Launch) (w : Wp) (g : Nat → Nat → Int32) (v : St) (k0 : Nat) (a0 : Int32) (hq : Inj w) (hw : WF (wk w) g v) (h_k0 : oW w k0) : CTi w l yX7_plans (wsy yX7_plans prog_1_method_16_code 2 (some .int)) (rmL 3) [.ref (wq w k0), .int a0] v (fun (r : Int32) (u : St) => (WF (wk w) g u ∧ True) ∧ ((r, u) = F_X7_plans k0 a0 v) ∧ (∀ k j : Nat, ¬ (k0 + 12 ≤ k ∧ k < k0 + 21) → u.1 k j = v.1 k j)) := by
  generalize hpost : (fun (r : Int32) (u : St) => (WF (wk w) g u ∧ True) ∧ ((r, u) = F_X7_plans k0 a0 v) ∧ (∀ k j : Nat, ¬ (k0 + 12 ≤ k ∧ k < k0 + 21) → u.1 k j = v.1 k j)) = post
  refine CTi.of prog_1_method_16_code 2 (some .int) "StarWalk" (by decide +kernel) rfl hq hw (Nat.le_of_ble_eq_true rfl) ?_
  intro pg en s m ar bl me cd ls E I hr hlk hl
  have hx := E.1.1
  have hb := E.1.2.1
  have hl : lv_has ls 2 [(0, .ref (wq w k0)), (1, .int a0)] := hl
  obtain ⟨res, hres⟩ : ∃ z, z = F_X7_plans k0 a0 v := ⟨_, rfl⟩
  have hF := hres.symm
  unfold F_X7_plans at hF
  replace hres : res = F_X7_plans k0 a0 v := hres
  have rz0 : ∀ k j : Nat, ¬ (k0 + 12 ≤ k ∧ k < k0 + 21) → v.1 k j = v.1 k j := fun _ _ _ => rfl
  refine lv_aload_n hx hb dX7_plans_0 rfl (lv_at hl 0 rfl) ?_
  refine g_StarWalk_now E I h_k0.1 mw_2_69 dX7_plans_1 ?_
  refine lv_iload_n hx hb dX7_plans_4 rfl (lv_at hl 1 rfl) ?_
  refine cVi E I (c_X0_hasAim l w g v (k0 + 12) a0 E.2.2.1 I.2.2 h_k0.2.2.1  ) (cwV 1 E.1.2.2.2.2 (gWs (C := "StarWalk$Night") mw_3_142 mw_3_49 mw_3_50 mw_1_3 mw_3_51) rfl rfl rfl (by decide +kernel) ⟨by decide, by decide⟩) h_k0.2.2.1.1.1 ((ce_o h_k0.2.2.1.1.2).trans rfl) rfl rfl hl.1 rfl (Nat.le_of_ble_eq_true rfl) dX7_plans_5 ⟨Nat.le_refl _, Nat.le_refl _⟩ (fun r1 u2 H lo hp hPS => ?_)
  obtain ⟨hp, hex, hfr⟩ := hp
  replace hF := xl_i hex hF
  obtain ⟨hu, p3⟩ := hp
  rw [hu] at hPS
  have I : Wo w g s.heap v H lo := ⟨hPS.1, hPS.2, I.2.2⟩
  refine bz_ne E (a := r1.toInt) rfl (tgt := 13) dX7_plans_8 (by decide) (fun c4 => ?_) (fun c4 => ?_)
  ·
    replace hF := if_f c4 hF
    refine lv_aload_n hx hb dX7_plans_13 rfl (lv_at hl 0 rfl) ?_
    refine g_StarWalk_now E I h_k0.1 mw_2_69 dX7_plans_14 ?_
    refine lv_iload_n hx hb dX7_plans_17 rfl (lv_at hl 1 rfl) ?_
    refine cVi E I (c_X0_addAim l w g v (k0 + 12) a0 E.2.2.1 I.2.2 h_k0.2.2.1  ) (cwV 1 E.1.2.2.2.2 (gWs (C := "StarWalk$Night") mw_3_143 mw_3_37 mw_3_38 mw_1_3 mw_3_39) rfl rfl rfl (by decide +kernel) ⟨by decide, by decide⟩) h_k0.2.2.1.1.1 ((ce_o h_k0.2.2.1.1.2).trans rfl) rfl rfl hl.1 rfl (Nat.le_of_ble_eq_true rfl) dX7_plans_18 ⟨Nat.le_refl _, Nat.le_refl _⟩ (fun r5 u6 H lo hp hPS => ?_)
    obtain ⟨hp, hex, hfr⟩ := hp
    replace hF := xm_i hex hF
    obtain ⟨hwf, p7⟩ := hp
    have I : Wo w g s.heap u6 H lo := ⟨hPS.1, hPS.2, hwf⟩
    have rzu6 : ∀ k j : Nat, ¬ (k0 + 12 ≤ k ∧ k < k0 + 21) → u6.1 k j = v.1 k j := fun k j h => (hfr k j (fun z => h (by omega))).trans (rz0 k j h)
    refine bz_eq E (a := r5.toInt) rfl (tgt := 34) dX7_plans_21 (by decide) (fun c8 => ?_) (fun c8 => ?_)
    ·
      replace hF := if_t c8 hF
      refine lv_bipush (v := (-3)) hx hb dX7_plans_34 (by decide) ?_
      exact rI E I hr hlk rfl (by rw [← hpost]; exact ⟨⟨I.2.2, trivial⟩, hF.trans hres, rzu6⟩) dX7_plans_36
    ·
      replace hF := if_f c8 hF
      refine lv_aload_n hx hb dX7_plans_24 rfl (lv_at hl 0 rfl) ?_
      refine g_StarWalk_now E I h_k0.1 mw_2_69 dX7_plans_25 ?_
      refine g_Night_planned E I h_k0.2.2.1.1 mw_1_122 dX7_plans_28 ?_
      refine lv_topi (fun x9 ex9 => ?_)
      replace hF := xl_i (ex9) hF
      have hx9 := r_Night_planned I h_k0.2.2.1.1
      rw [← ex9] at hx9
      refine lv_goto (tgt := 36) hx hb dX7_plans_31 (by decide) ?_
      exact rI E I hr hlk rfl (by rw [← hpost]; exact ⟨⟨I.2.2, trivial⟩, hF.trans hres, rzu6⟩) dX7_plans_36
  ·
    replace hF := if_t c4 hF
    refine lv_iconst (v := (-1)) hx hb dX7_plans_11 (by decide) ?_
    exact rI E I hr hlk rfl (by rw [← hpost]; exact ⟨⟨I.2.2, trivial⟩, hF.trans hres, rz0⟩) dX7_plans_12
def F_X7_cut (k0 : Nat) (a0 : Int32) (v : St) : Int32 × St :=
if a0.toInt < 0 then (
((-1 : Int32), v)) else (
xl (v.1 (k0 + 12) 14) fun x2 =>
if x2.toInt < a0.toInt then (
((-1 : Int32), v)) else (
xl (v.1 (k0 + 12) 14) fun x4 =>
xl (up1 v (k0 + 12) 14 a0) fun v5 =>
(x4, v5)))
set_option maxHeartbeats 4000000 in
set_option maxRecDepth 100000 in
theorem c_X7_cut (l : Launch) (w : Wp) (g : Nat → Nat → Int32) (v : St) (k0 : Nat) (a0 : Int32) (hq : Inj w) (hw : WF (wk w) g v) (h_k0 : oW w k0) : CTi w l yX7_cut (wsy yX7_cut prog_1_method_17_code 3 (some .int)) (rmL 1) [.ref (wq w k0), .int a0] v (fun (r : Int32) (u : St) => (WF (wk w) g u ∧ True) ∧ ((r, u) = F_X7_cut k0 a0 v) ∧ (∀ k j : Nat, ¬ (k0 + 12 ≤ k ∧ k < k0 + 21) → u.1 k j = v.1 k j)) := by
  generalize hpost : (fun (r : Int32) (u : St) => (WF (wk w) g u ∧ True) ∧ ((r, u) = F_X7_cut k0 a0 v) ∧ (∀ k j : Nat, ¬ (k0 + 12 ≤ k ∧ k < k0 + 21) → u.1 k j = v.1 k j)) = post
  refine CTi.of prog_1_method_17_code 3 (some .int) "StarWalk" (by decide +kernel) rfl hq hw (Nat.le_of_ble_eq_true rfl) ?_
  intro pg en s m ar bl me cd ls E I hr hlk hl
  have hx := E.1.1
  have hb := E.1.2.1
  have hl : lv_has ls 3 [(0, .ref (wq w k0)), (1, .int a0)] := hl
  obtain ⟨res, hres⟩ : ∃ z, z = F_X7_cut k0 a0 v := ⟨_, rfl⟩
  have hF := hres.symm
  unfold F_X7_cut at hF
  replace hres : res = F_X7_cut k0 a0 v := hres
  have rz0 : ∀ k j : Nat, ¬ (k0 + 12 ≤ k ∧ k < k0 + 21) → v.1 k j = v.1 k j := fun _ _ _ => rfl
  refine lv_iload_n hx hb dX7_cut_0 rfl (lv_at hl 1 rfl) ?_
  refine bz_lt E (a := a0.toInt) rfl (tgt := 15) dX7_cut_1 (by decide) (fun c1 => ?_) (fun c1 => ?_)
  ·
    replace hF := if_t c1 hF
    refine lv_iconst (v := (-1)) hx hb dX7_cut_15 (by decide) ?_
    exact rI E I hr hlk rfl (by rw [← hpost]; exact ⟨⟨I.2.2, trivial⟩, hF.trans hres, rz0⟩) dX7_cut_16
  ·
    replace hF := if_l c1 hF
    refine lv_iload_n hx hb dX7_cut_4 rfl (lv_at hl 1 rfl) ?_
    refine lv_aload_n hx hb dX7_cut_5 rfl (lv_at hl 0 rfl) ?_
    refine g_StarWalk_now E I h_k0.1 mw_2_69 dX7_cut_6 ?_
    refine g_Night_planned E I h_k0.2.2.1.1 mw_1_122 dX7_cut_9 ?_
    refine lv_topi (fun x2 ex2 => ?_)
    replace hF := xl_i (ex2) hF
    have hx2 := r_Night_planned I h_k0.2.2.1.1
    rw [← ex2] at hx2
    refine bi_le E (a := a0.toInt) (b := x2.toInt) rfl rfl (tgt := 17) dX7_cut_12 (by decide) (fun c3 => ?_) (fun c3 => ?_)
    ·
      have rga0 := i32_rng a0
      replace hF := if_l c3 hF
      refine lv_aload_n hx hb dX7_cut_17 rfl (lv_at hl 0 rfl) ?_
      refine g_StarWalk_now E I h_k0.1 mw_2_69 dX7_cut_18 ?_
      refine g_Night_planned E I h_k0.2.2.1.1 mw_1_122 dX7_cut_21 ?_
      refine lv_topi (fun x4 ex4 => ?_)
      replace hF := xl_i (ex4) hF
      have hx4 := r_Night_planned I h_k0.2.2.1.1
      rw [← ex4] at hx4
      refine lv_istore_n (lv' := [(2, .int x4), (0, .ref (wq w k0)), (1, .int a0)]) hx hb dX7_cut_24 rfl hl (by decide) rfl (fun ls hl => ?_)
      refine lv_aload_n hx hb dX7_cut_25 rfl (lv_at hl 1 rfl) ?_
      refine g_StarWalk_now E I h_k0.1 mw_2_69 dX7_cut_26 ?_
      refine lv_iload_n hx hb dX7_cut_29 rfl (lv_at hl 2 rfl) ?_
      refine p_Night_planned E I h_k0.2.2.1.1 mw_1_122 (by omega) dX7_cut_30 (fun H lo I => ?_)
      generalize ev5 : up1 v (k0 + 12) 14 a0 = v5 at I
      replace hF := xl_i (ev5.symm) hF
      have rzv5 : ∀ k j : Nat, ¬ (k0 + 12 ≤ k ∧ k < k0 + 21) → v5.1 k j = v.1 k j := fun k j h => fz_u ev5 (by omega) (rz0 k j h)
      refine lv_iload_n hx hb dX7_cut_33 rfl (lv_at hl 0 rfl) ?_
      exact rI E I hr hlk rfl (by rw [← hpost]; exact ⟨⟨I.2.2, trivial⟩, hF.trans hres, rzv5⟩) dX7_cut_34
    ·
      have rga0 := i32_rng a0
      replace hF := if_t c3 hF
      refine lv_iconst (v := (-1)) hx hb dX7_cut_15 (by decide) ?_
      exact rI E I hr hlk rfl (by rw [← hpost]; exact ⟨⟨I.2.2, trivial⟩, hF.trans hres, rz0⟩) dX7_cut_16
def F_X7_pull (k0 : Nat) (a0 : Int32) (v : St) : Int32 :=
xl (F_X7_isHour a0 v) fun r1 =>
if r1.toInt = 0 then (
(-1 : Int32)) else (
xl (F_X0_pullOfRow (k0 + 12) a0 v) fun r5 =>
r5)
set_option maxHeartbeats 4000000 in
set_option maxRecDepth 100000 in
theorem c_X7_pull (l : Launch) (w : Wp) (g : Nat → Nat → Int32) (v : St) (k0 : Nat) (a0 : Int32) (hq : Inj w) (hw : WF (wk w) g v) (h_k0 : oW w k0) : CTi w l yX7_pull (wsy yX7_pull prog_1_method_18_code 2 (some .int)) (rmL 3) [.ref (wq w k0), .int a0] v (fun (r : Int32) (u : St) => (u = v ∧ True) ∧ (r = F_X7_pull k0 a0 v) ∧ True) := by
  generalize hpost : (fun (r : Int32) (u : St) => (u = v ∧ True) ∧ (r = F_X7_pull k0 a0 v) ∧ True) = post
  refine CTi.of prog_1_method_18_code 2 (some .int) "StarWalk" (by decide +kernel) rfl hq hw (Nat.le_of_ble_eq_true rfl) ?_
  intro pg en s m ar bl me cd ls E I hr hlk hl
  have hx := E.1.1
  have hb := E.1.2.1
  have hl : lv_has ls 2 [(0, .ref (wq w k0)), (1, .int a0)] := hl
  obtain ⟨res, hres⟩ : ∃ z, z = F_X7_pull k0 a0 v := ⟨_, rfl⟩
  have hF := hres.symm
  unfold F_X7_pull at hF
  replace hres : res = F_X7_pull k0 a0 v := hres
  refine lv_iload_n hx hb dX7_pull_0 rfl (lv_at hl 1 rfl) ?_
  refine cSi E I (c_X7_isHour l w g v a0 E.2.2.1 I.2.2   ) (va_cwS 1 E.1.2.2.2.2 (gSs mw_3_121 mw_3_122 mw_1_1 mw_3_123) rfl rfl rfl (by decide +kernel) ⟨by decide, by decide⟩) rfl hl.1 rfl (Nat.le_of_ble_eq_true rfl) dX7_pull_1 ⟨Nat.le_refl _, Nat.le_refl _⟩ (fun r1 u2 H lo hp hPS => ?_)
  obtain ⟨hp, hex, hfr⟩ := hp
  replace hF := xl_i hex hF
  obtain ⟨hu, p3⟩ := hp
  rw [hu] at hPS
  have I : Wo w g s.heap v H lo := ⟨hPS.1, hPS.2, I.2.2⟩
  refine bz_eq E (a := r1.toInt) rfl (tgt := 18) dX7_pull_4 (by decide) (fun c4 => ?_) (fun c4 => ?_)
  ·
    replace hF := if_t c4 hF
    refine lv_iconst (v := (-1)) hx hb dX7_pull_18 (by decide) ?_
    exact rI E I hr hlk rfl (by rw [← hpost]; exact ⟨⟨rfl, trivial⟩, hF.trans hres, trivial⟩) dX7_pull_19
  ·
    replace hF := if_f c4 hF
    refine lv_aload_n hx hb dX7_pull_7 rfl (lv_at hl 0 rfl) ?_
    refine g_StarWalk_now E I h_k0.1 mw_2_69 dX7_pull_8 ?_
    refine lv_iload_n hx hb dX7_pull_11 rfl (lv_at hl 1 rfl) ?_
    refine cVi E I (c_X0_pullOfRow l w g v (k0 + 12) a0 E.2.2.1 I.2.2 h_k0.2.2.1  ) (cwV 1 E.1.2.2.2.2 (gWs (C := "StarWalk$Night") mw_3_152 mw_3_153 mw_3_154 mw_1_3 mw_3_155) rfl rfl rfl (by decide +kernel) ⟨by decide, by decide⟩) h_k0.2.2.1.1.1 ((ce_o h_k0.2.2.1.1.2).trans rfl) rfl rfl hl.1 rfl (Nat.le_of_ble_eq_true rfl) dX7_pull_12 ⟨Nat.le_refl _, Nat.le_refl _⟩ (fun r5 u6 H lo hp hPS => ?_)
    obtain ⟨hp, hex, hfr⟩ := hp
    replace hF := xl_i hex hF
    obtain ⟨hu, p7⟩ := hp
    rw [hu] at hPS
    have I : Wo w g s.heap v H lo := ⟨hPS.1, hPS.2, I.2.2⟩
    refine lv_goto (tgt := 19) hx hb dX7_pull_15 (by decide) ?_
    exact rI E I hr hlk rfl (by rw [← hpost]; exact ⟨⟨rfl, trivial⟩, hF.trans hres, trivial⟩) dX7_pull_19
def F_X7_up (k0 : Nat) (a0 : Int32) (v : St) : Int32 :=
xl (fun (self_13 : Int32 → Int32 → Int32) (y13_2 : Int32) (y13_3 : Int32) =>
xl (v.1 (k0 + 12) 3) fun x1 =>
if y13_3.toInt < x1.toInt then (
xl (F_X0_isStarUp (k0 + 12) y13_3 a0 v) fun r3 =>
xl (F_X7_withBit y13_2 y13_3 r3 v) fun r6 =>
xl (y13_3 + 1) fun x9 =>
(self_13 r6 x9)) else (
y13_2)) fun P_13 =>
xl (F_X7_isHour a0 v) fun r10 =>
if r10.toInt = 0 then (
(-1 : Int32)) else (
(lp P_13 (fun _ _ => (0 : Int32)) ((2147483647 - (0 : Int32).toInt).toNat + 1) (0 : Int32) (0 : Int32)))
set_option maxHeartbeats 4000000 in
set_option maxRecDepth 100000 in
theorem c_X7_up (l : Launch) (w : Wp) (g : Nat → Nat → Int32) (v : St) (k0 : Nat) (a0 : Int32) (hq : Inj w) (hw : WF (wk w) g v) (h_k0 : oW w k0) : CTi w l yX7_up (wsy yX7_up prog_1_method_19_code 4 (some .int)) (rmL 3) [.ref (wq w k0), .int a0] v (fun (r : Int32) (u : St) => (u = v ∧ True) ∧ (r = F_X7_up k0 a0 v) ∧ True) := by
  generalize hpost : (fun (r : Int32) (u : St) => (u = v ∧ True) ∧ (r = F_X7_up k0 a0 v) ∧ True) = post
  refine CTi.of prog_1_method_19_code 4 (some .int) "StarWalk" (by decide +kernel) rfl hq hw (Nat.le_of_ble_eq_true rfl) ?_
  intro pg en s m ar bl me cd ls E I hr hlk hl
  have hx := E.1.1
  have hb := E.1.2.1
  have hl : lv_has ls 4 [(0, .ref (wq w k0)), (1, .int a0)] := hl
  obtain ⟨res, hres⟩ : ∃ z, z = F_X7_up k0 a0 v := ⟨_, rfl⟩
  have hF := hres.symm
  unfold F_X7_up at hF
  replace hres : res = F_X7_up k0 a0 v := hres
  obtain ⟨P_13, eP_13, hF⟩ := xl_e hF
  have L_13 : ∀ (n : Nat), ∀ (H : Heap) (lo : List Loc), Wo w g s.heap v H lo → ∀ (y13_2 : Int32) (y13_3 : Int32), (0 ≤ y13_3.toInt ∧ y13_3.toInt ≤ 5) → (0 ≤ a0.toInt ∧ a0.toInt ≤ 9) → (lp P_13 (fun _ _ => (0 : Int32)) n y13_2 y13_3 = res) → (2147483647 - y13_3.toInt).toNat < n → ∀ (ls : Array Slot), lv_has ls 4 [(0, .ref (wq w k0)), (1, .int a0), (2, .int y13_2), (3, .int y13_3)] → W pg l en (rmL 3) s m ar bl me cd H lo 0 0 (Zi w bl ar s post) (F0 m 13 ls []) := by
    intro n
    induction n with
    | zero => intro H lo  I y13_2 y13_3 hy13_3 hE13_0 hF hm; exact absurd hm (Nat.not_lt_zero _)
    | succ n ih_13 =>
      intro H lo  I y13_2 y13_3 hy13_3 hE13_0 hF hm ls hl
      replace hF := lpa2 eP_13 hF
      refine lv_iload_n hx hb dX7_up_13 rfl (lv_at hl 3 rfl) ?_
      refine lv_aload_n hx hb dX7_up_14 rfl (lv_at hl 0 rfl) ?_
      refine g_StarWalk_now E I h_k0.1 mw_2_69 dX7_up_15 ?_
      refine g_Night_stars E I h_k0.2.2.1.1 mw_1_85 dX7_up_18 ?_
      refine lv_topi (fun x1 ex1 => ?_)
      replace hF := xl_i (ex1) hF
      have hx1 := r_Night_stars I h_k0.2.2.1.1
      rw [← ex1] at hx1
      refine bi_ge E (a := y13_3.toInt) (b := x1.toInt) rfl rfl (tgt := 45) dX7_up_21 (by decide) (fun c2 => ?_) (fun c2 => ?_)
      ·
        replace hF := if_l c2 hF
        refine lv_iload_n hx hb dX7_up_45 rfl (lv_at hl 2 rfl) ?_
        exact rI E I hr hlk rfl (by rw [← hpost]; exact ⟨⟨rfl, trivial⟩, hF.trans hres, trivial⟩) dX7_up_46
      ·
        replace hF := if_t c2 hF
        refine lv_iload_n hx hb dX7_up_24 rfl (lv_at hl 2 rfl) ?_
        refine lv_iload_n hx hb dX7_up_25 rfl (lv_at hl 3 rfl) ?_
        refine lv_aload_n hx hb dX7_up_26 rfl (lv_at hl 0 rfl) ?_
        refine g_StarWalk_now E I h_k0.1 mw_2_69 dX7_up_27 ?_
        refine lv_iload_n hx hb dX7_up_30 rfl (lv_at hl 3 rfl) ?_
        refine lv_iload_n hx hb dX7_up_31 rfl (lv_at hl 1 rfl) ?_
        refine cVi E I (c_X0_isStarUp l w g v (k0 + 12) y13_3 a0 E.2.2.1 I.2.2 h_k0.2.2.1  ) (cwV 2 E.1.2.2.2.2 (gWs (C := "StarWalk$Night") mw_3_167 mw_3_168 mw_3_169 mw_1_3 mw_3_170) rfl rfl rfl (by decide +kernel) ⟨by decide, by decide⟩) h_k0.2.2.1.1.1 ((ce_o h_k0.2.2.1.1.2).trans rfl) rfl rfl hl.1 rfl (Nat.le_of_ble_eq_true rfl) dX7_up_32 ⟨Nat.le_refl _, Nat.le_refl _⟩ (fun r3 u4 H lo hp hPS => ?_)
        obtain ⟨hp, hex, hfr⟩ := hp
        replace hF := xl_i hex hF
        obtain ⟨hu, p5⟩ := hp
        rw [hu] at hPS
        have I : Wo w g s.heap v H lo := ⟨hPS.1, hPS.2, I.2.2⟩
        refine cSi E I (c_X7_withBit l w g v y13_2 y13_3 r3 E.2.2.1 I.2.2   ) (va_cwS 3 E.1.2.2.2.2 (gSs mw_3_125 mw_2_229 mw_1_1 mw_2_230) rfl rfl rfl (by decide +kernel) ⟨by decide, by decide⟩) rfl hl.1 rfl (Nat.le_of_ble_eq_true rfl) dX7_up_35 ⟨Nat.le_refl _, Nat.le_refl _⟩ (fun r6 u7 H lo hp hPS => ?_)
        obtain ⟨hp, hex, hfr⟩ := hp
        replace hF := xl_i hex hF
        obtain ⟨hu, p8⟩ := hp
        rw [hu] at hPS
        have I : Wo w g s.heap v H lo := ⟨hPS.1, hPS.2, I.2.2⟩
        refine lv_istore_n (lv' := [(2, .int r6), (0, .ref (wq w k0)), (1, .int a0), (3, .int y13_3)]) hx hb dX7_up_38 rfl hl (by decide) rfl (fun ls hl => ?_)
        obtain ⟨x9, ex9⟩ : ∃ z : Int32, z = y13_3 + 1 := ⟨_, rfl⟩
        replace hF := xl_i (ex9) hF
        have hx9 : x9.toInt = y13_3.toInt + (1) := by rw [ex9]; exact adI (a := y13_3.toInt) (b := 1) rfl rfl (by omega) (by omega)
        refine lv_iinc (v := x9) (lv' := [(3, .int x9), (2, .int r6), (0, .ref (wq w k0)), (1, .int a0)]) hx hb dX7_up_39 hl (k := 3) rfl (by rw [ex9]; rfl) (by decide) rfl (fun ls hl => ?_)
        refine lv_goto (tgt := 13) hx hb dX7_up_42 (by decide) ?_
        exact ih_13 _ _ I r6 x9 (by omega) (by omega) hF (by omega) ls (lv_sub hl [2, 3, 1, 0] rfl)
  refine lv_iload_n hx hb dX7_up_0 rfl (lv_at hl 1 rfl) ?_
  refine cSi E I (c_X7_isHour l w g v a0 E.2.2.1 I.2.2   ) (va_cwS 1 E.1.2.2.2.2 (gSs mw_3_121 mw_3_122 mw_1_1 mw_3_123) rfl rfl rfl (by decide +kernel) ⟨by decide, by decide⟩) rfl hl.1 rfl (Nat.le_of_ble_eq_true rfl) dX7_up_1 ⟨Nat.le_refl _, Nat.le_refl _⟩ (fun r10 u11 H lo hp hPS => ?_)
  obtain ⟨hp, hex, hfr⟩ := hp
  replace hF := xl_i hex hF
  obtain ⟨hu, p12⟩ := hp
  rw [hu] at hPS
  have I : Wo w g s.heap v H lo := ⟨hPS.1, hPS.2, I.2.2⟩
  refine bz_ne E (a := r10.toInt) rfl (tgt := 9) dX7_up_4 (by decide) (fun c13 => ?_) (fun c13 => ?_)
  ·
    replace hF := if_f c13 hF
    refine lv_iconst (v := 0) hx hb dX7_up_9 (by decide) ?_
    refine lv_istore_n (lv' := [(2, .int 0), (0, .ref (wq w k0)), (1, .int a0)]) hx hb dX7_up_10 rfl hl (by decide) rfl (fun ls hl => ?_)
    refine lv_iconst (v := 0) hx hb dX7_up_11 (by decide) ?_
    refine lv_istore_n (lv' := [(3, .int 0), (2, .int 0), (0, .ref (wq w k0)), (1, .int a0)]) hx hb dX7_up_12 rfl hl (by decide) rfl (fun ls hl => ?_)
    exact L_13 ((2147483647 - (0 : Int32).toInt).toNat + 1) _ _ I (0 : Int32) (0 : Int32) (by decide) (by omega) hF (Nat.lt_succ_self _) ls (lv_sub hl [2, 3, 1, 0] rfl)
  ·
    replace hF := if_t c13 hF
    refine lv_iconst (v := (-1)) hx hb dX7_up_7 (by decide) ?_
    exact rI E I hr hlk rfl (by rw [← hpost]; exact ⟨⟨rfl, trivial⟩, hF.trans hres, trivial⟩) dX7_up_8
def F_X7_go (k0 : Nat) (a0 : Int32) (v : St) : Int32 × St :=
xl (F_X0_hasAim (k0 + 12) a0 v) fun r1 =>
if r1.toInt = 0 then (
((-1 : Int32), v)) else (
xm (F_X0_step (k0 + 12) (k0 + 12 + 5) a0 v) fun r5 u6 =>
if r5.toInt = 0 then (
((-2 : Int32), u6)) else (
xl (u6.1 (k0 + 12 + 5) 1) fun x9 =>
(x9, u6)))
set_option maxHeartbeats 4000000 in
set_option maxRecDepth 100000 in
theorem c_X7_go (l : Launch) (w : Wp) (g : Nat → Nat → Int32) (v : St) (k0 : Nat) (a0 : Int32) (hq : Inj w) (hw : WF (wk w) g v) (h_k0 : oW w k0) : CTi w l yX7_go (wsy yX7_go prog_1_method_20_code 2 (some .int)) (rmL 5) [.ref (wq w k0), .int a0] v (fun (r : Int32) (u : St) => (WF (wk w) g u ∧ True) ∧ ((r, u) = F_X7_go k0 a0 v) ∧ (∀ k j : Nat, ¬ (k = k0 + 17) → u.1 k j = v.1 k j)) := by
  generalize hpost : (fun (r : Int32) (u : St) => (WF (wk w) g u ∧ True) ∧ ((r, u) = F_X7_go k0 a0 v) ∧ (∀ k j : Nat, ¬ (k = k0 + 17) → u.1 k j = v.1 k j)) = post
  refine CTi.of prog_1_method_20_code 2 (some .int) "StarWalk" (by decide +kernel) rfl hq hw (Nat.le_of_ble_eq_true rfl) ?_
  intro pg en s m ar bl me cd ls E I hr hlk hl
  have hx := E.1.1
  have hb := E.1.2.1
  have hl : lv_has ls 2 [(0, .ref (wq w k0)), (1, .int a0)] := hl
  obtain ⟨res, hres⟩ : ∃ z, z = F_X7_go k0 a0 v := ⟨_, rfl⟩
  have hF := hres.symm
  unfold F_X7_go at hF
  replace hres : res = F_X7_go k0 a0 v := hres
  have rz0 : ∀ k j : Nat, ¬ (k = k0 + 17) → v.1 k j = v.1 k j := fun _ _ _ => rfl
  refine lv_aload_n hx hb dX7_go_0 rfl (lv_at hl 0 rfl) ?_
  refine g_StarWalk_now E I h_k0.1 mw_2_69 dX7_go_1 ?_
  refine lv_iload_n hx hb dX7_go_4 rfl (lv_at hl 1 rfl) ?_
  refine cVi E I (c_X0_hasAim l w g v (k0 + 12) a0 E.2.2.1 I.2.2 h_k0.2.2.1  ) (cwV 1 E.1.2.2.2.2 (gWs (C := "StarWalk$Night") mw_3_142 mw_3_49 mw_3_50 mw_1_3 mw_3_51) rfl rfl rfl (by decide +kernel) ⟨by decide, by decide⟩) h_k0.2.2.1.1.1 ((ce_o h_k0.2.2.1.1.2).trans rfl) rfl rfl hl.1 rfl (Nat.le_of_ble_eq_true rfl) dX7_go_5 ⟨Nat.le_refl _, Nat.le_refl _⟩ (fun r1 u2 H lo hp hPS => ?_)
  obtain ⟨hp, hex, hfr⟩ := hp
  replace hF := xl_i hex hF
  obtain ⟨hu, p3⟩ := hp
  rw [hu] at hPS
  have I : Wo w g s.heap v H lo := ⟨hPS.1, hPS.2, I.2.2⟩
  refine bz_ne E (a := r1.toInt) rfl (tgt := 13) dX7_go_8 (by decide) (fun c4 => ?_) (fun c4 => ?_)
  ·
    replace hF := if_f c4 hF
    refine lv_aload_n hx hb dX7_go_13 rfl (lv_at hl 0 rfl) ?_
    refine g_StarWalk_now E I h_k0.1 mw_2_69 dX7_go_14 ?_
    refine lv_aload_n hx hb dX7_go_17 rfl (lv_at hl 0 rfl) ?_
    refine g_StarWalk_now E I h_k0.1 mw_2_69 dX7_go_18 ?_
    refine g_Night_place E I h_k0.2.2.1.1 mw_1_113 dX7_go_21 ?_
    refine lv_iload_n hx hb dX7_go_24 rfl (lv_at hl 1 rfl) ?_
    refine cVi E I (c_X0_step l w g v (k0 + 12) (k0 + 12 + 5) a0 E.2.2.1 I.2.2 h_k0.2.2.1 h_k0.2.2.1.2.2.2.2.2.1  ) (cwV 2 E.1.2.2.2.2 (gWs (C := "StarWalk$Night") mw_3_176 mw_3_177 mw_3_178 mw_1_3 mw_3_179) rfl rfl rfl (by decide +kernel) ⟨by decide, by decide⟩) h_k0.2.2.1.1.1 ((ce_o h_k0.2.2.1.1.2).trans rfl) rfl rfl hl.1 rfl (Nat.le_of_ble_eq_true rfl) dX7_go_25 ⟨Nat.le_refl _, Nat.le_refl _⟩ (fun r5 u6 H lo hp hPS => ?_)
    obtain ⟨hp, hex, hfr⟩ := hp
    replace hF := xm_i hex hF
    obtain ⟨hwf, p7⟩ := hp
    have I : Wo w g s.heap u6 H lo := ⟨hPS.1, hPS.2, hwf⟩
    have rzu6 : ∀ k j : Nat, ¬ (k = k0 + 17) → u6.1 k j = v.1 k j := fun k j h => (hfr k j (fun z => h (by omega))).trans (rz0 k j h)
    refine bz_eq E (a := r5.toInt) rfl (tgt := 44) dX7_go_28 (by decide) (fun c8 => ?_) (fun c8 => ?_)
    ·
      replace hF := if_t c8 hF
      refine lv_bipush (v := (-2)) hx hb dX7_go_44 (by decide) ?_
      exact rI E I hr hlk rfl (by rw [← hpost]; exact ⟨⟨I.2.2, trivial⟩, hF.trans hres, rzu6⟩) dX7_go_46
    ·
      replace hF := if_f c8 hF
      refine lv_aload_n hx hb dX7_go_31 rfl (lv_at hl 0 rfl) ?_
      refine g_StarWalk_now E I h_k0.1 mw_2_69 dX7_go_32 ?_
      refine g_Night_place E I h_k0.2.2.1.1 mw_1_113 dX7_go_35 ?_
      refine g_Place_miles E I h_k0.2.2.1.2.2.2.2.2.1 mw_1_52 dX7_go_38 ?_
      refine lv_topi (fun x9 ex9 => ?_)
      replace hF := xl_i (ex9) hF
      refine lv_goto (tgt := 46) hx hb dX7_go_41 (by decide) ?_
      exact rI E I hr hlk rfl (by rw [← hpost]; exact ⟨⟨I.2.2, trivial⟩, hF.trans hres, rzu6⟩) dX7_go_46
  ·
    replace hF := if_t c4 hF
    refine lv_iconst (v := (-1)) hx hb dX7_go_11 (by decide) ?_
    exact rI E I hr hlk rfl (by rw [← hpost]; exact ⟨⟨I.2.2, trivial⟩, hF.trans hres, rz0⟩) dX7_go_12
def F_X7_runs (k0 : Nat) (a0 : Int32) (v : St) : Int32 × St :=
if a0.toInt < 0 then (
((-1 : Int32), v)) else (
if 6 < a0.toInt then (
((-1 : Int32), v)) else (
xl (F_X6_begin (k0 + 21) (k0 + 12) v) fun u3 =>
xl (F_X6_walkPlan (k0 + 21) u3) fun u5 =>
if a0.toInt = 0 then (
xl (u5.1 (k0 + 21 + 1 + 5) 1) fun x8 =>
(x8, u5)) else (
if a0.toInt = 1 then (
xl (u5.1 (k0 + 21 + 1 + 5) 2) fun x10 =>
xl ((1000 : Int32) + x10) fun x11 =>
(x11, u5)) else (
if a0.toInt = 2 then (
xl (u5.1 (k0 + 21 + 1 + 5) 3) fun x13 =>
(x13, u5)) else (
if a0.toInt = 3 then (
xl (u5.1 (k0 + 21 + 1 + 5) 0) fun x15 =>
(x15, u5)) else (
if a0.toInt = 4 then (
xl (u5.1 (k0 + 21) 2) fun x17 =>
(x17, u5)) else (
if a0.toInt = 5 then (
xl (F_X0_isAtWell (k0 + 21 + 1) (k0 + 21 + 1 + 5) u5) fun r19 =>
xl (F_X7_oneIf r19 u5) fun r22 =>
(r22, u5)) else (
xl (u5.1 (k0 + 21) 3) fun x25 =>
(x25, u5)))))))))
set_option maxHeartbeats 4000000 in
set_option maxRecDepth 100000 in
theorem c_X7_runs (l : Launch) (w : Wp) (g : Nat → Nat → Int32) (v : St) (k0 : Nat) (a0 : Int32) (hq : Inj w) (hw : WF (wk w) g v) (h_k0 : oW w k0) : CTi w l yX7_runs (wsy yX7_runs prog_1_method_21_code 3 (some .int)) (rmL 6) [.ref (wq w k0), .int a0] v (fun (r : Int32) (u : St) => (WF (wk w) g u ∧ True) ∧ ((r, u) = F_X7_runs k0 a0 v) ∧ (∀ k j : Nat, ¬ (k0 + 21 ≤ k ∧ k < k0 + 32) → u.1 k j = v.1 k j)) := by
  generalize hpost : (fun (r : Int32) (u : St) => (WF (wk w) g u ∧ True) ∧ ((r, u) = F_X7_runs k0 a0 v) ∧ (∀ k j : Nat, ¬ (k0 + 21 ≤ k ∧ k < k0 + 32) → u.1 k j = v.1 k j)) = post
  refine CTi.of prog_1_method_21_code 3 (some .int) "StarWalk" (by decide +kernel) rfl hq hw (Nat.le_of_ble_eq_true rfl) ?_
  intro pg en s m ar bl me cd ls E I hr hlk hl
  have hx := E.1.1
  have hb := E.1.2.1
  have hl : lv_has ls 3 [(0, .ref (wq w k0)), (1, .int a0)] := hl
  obtain ⟨res, hres⟩ : ∃ z, z = F_X7_runs k0 a0 v := ⟨_, rfl⟩
  have hF := hres.symm
  unfold F_X7_runs at hF
  replace hres : res = F_X7_runs k0 a0 v := hres
  have rz0 : ∀ k j : Nat, ¬ (k0 + 21 ≤ k ∧ k < k0 + 32) → v.1 k j = v.1 k j := fun _ _ _ => rfl
  refine lv_iload_n hx hb dX7_runs_0 rfl (lv_at hl 1 rfl) ?_
  refine bz_lt E (a := a0.toInt) rfl (tgt := 10) dX7_runs_1 (by decide) (fun c1 => ?_) (fun c1 => ?_)
  ·
    replace hF := if_t c1 hF
    refine lv_iconst (v := (-1)) hx hb dX7_runs_10 (by decide) ?_
    exact rI E I hr hlk rfl (by rw [← hpost]; exact ⟨⟨I.2.2, trivial⟩, hF.trans hres, rz0⟩) dX7_runs_11
  ·
    replace hF := if_l c1 hF
    refine lv_iload_n hx hb dX7_runs_4 rfl (lv_at hl 1 rfl) ?_
    refine lv_bipush (v := 6) hx hb dX7_runs_5 (by decide) ?_
    refine bi_le E (a := a0.toInt) (b := 6) rfl rfl (tgt := 12) dX7_runs_7 (by decide) (fun c2 => ?_) (fun c2 => ?_)
    ·
      replace hF := if_l c2 hF
      refine lv_aload_n hx hb dX7_runs_12 rfl (lv_at hl 0 rfl) ?_
      refine g_StarWalk_trial E I h_k0.1 mw_2_70 dX7_runs_13 ?_
      refine lv_aload_n hx hb dX7_runs_16 rfl (lv_at hl 0 rfl) ?_
      refine g_StarWalk_now E I h_k0.1 mw_2_69 dX7_runs_17 ?_
      refine cVv E I (c_X6_begin l w g v (k0 + 21) (k0 + 12) E.2.2.1 I.2.2 h_k0.2.2.2.1 h_k0.2.2.1  ) (cwV 1 E.1.2.2.2.2 (gWs (C := "StarWalk$Trial") mw_3_201 mw_3_202 mw_3_203 mw_1_5 mw_3_204) rfl rfl rfl (by decide +kernel) ⟨by decide, by decide⟩) h_k0.2.2.2.1.1.1 ((ce_o h_k0.2.2.2.1.1.2).trans rfl) rfl rfl hl.1 rfl (Nat.le_of_ble_eq_true rfl) dX7_runs_20 ⟨Nat.le_refl _, Nat.le_refl _⟩ (fun u3 H lo hp hPS => ?_)
      obtain ⟨hp, hex, hfr⟩ := hp
      replace hF := xl_i hex hF
      obtain ⟨hwf, p4⟩ := hp
      have I : Wo w g s.heap u3 H lo := ⟨hPS.1, hPS.2, hwf⟩
      have rzu3 : ∀ k j : Nat, ¬ (k0 + 21 ≤ k ∧ k < k0 + 32) → u3.1 k j = v.1 k j := fun k j h => (hfr k j (fun z => h (by omega))).trans (rz0 k j h)
      refine lv_aload_n hx hb dX7_runs_23 rfl (lv_at hl 0 rfl) ?_
      refine g_StarWalk_trial E I h_k0.1 mw_2_70 dX7_runs_24 ?_
      refine cVv E I (c_X6_walkPlan l w g u3 (k0 + 21) E.2.2.1 I.2.2 h_k0.2.2.2.1  ) (cwV 0 E.1.2.2.2.2 (gWs (C := "StarWalk$Trial") mw_3_206 mw_3_207 mw_3_208 mw_1_5 mw_3_209) rfl rfl rfl (by decide +kernel) ⟨by decide, by decide⟩) h_k0.2.2.2.1.1.1 ((ce_o h_k0.2.2.2.1.1.2).trans rfl) rfl rfl hl.1 rfl (Nat.le_of_ble_eq_true rfl) dX7_runs_27 ⟨Nat.le_refl _, Nat.le_refl _⟩ (fun u5 H lo hp hPS => ?_)
      obtain ⟨hp, hex, hfr⟩ := hp
      replace hF := xl_i hex hF
      obtain ⟨hwf, p6⟩ := hp
      have I : Wo w g s.heap u5 H lo := ⟨hPS.1, hPS.2, hwf⟩
      have rzu5 : ∀ k j : Nat, ¬ (k0 + 21 ≤ k ∧ k < k0 + 32) → u5.1 k j = v.1 k j := fun k j h => (hfr k j (fun z => h (by omega))).trans (rzu3 k j h)
      refine lv_aload_n hx hb dX7_runs_30 rfl (lv_at hl 0 rfl) ?_
      refine g_StarWalk_trial E I h_k0.1 mw_2_70 dX7_runs_31 ?_
      refine g_Trial_night E I h_k0.2.2.2.1.1 mw_1_215 dX7_runs_34 ?_
      refine g_Night_place E I h_k0.2.2.2.1.2.1.1 mw_1_113 dX7_runs_37 ?_
      refine lv_astore_n (lv' := [(2, .ref (wq w (k0 + 21 + 1 + 5))), (0, .ref (wq w k0)), (1, .int a0)]) hx hb dX7_runs_40 rfl hl (by decide) rfl (fun ls hl => ?_)
      refine lv_iload_n hx hb dX7_runs_41 rfl (lv_at hl 2 rfl) ?_
      by_cases c7 : a0.toInt = 0
      ·
        replace hF := if_t c7 hF
        refine lv_tableIn hx hb dX7_runs_42 (by omega) (by omega) (by rw [c7]; rfl) (tgt := 80) (by decide) ?_
        refine lv_aload_n hx hb dX7_runs_80 rfl (lv_at hl 0 rfl) ?_
        refine g_Place_miles E I h_k0.2.2.2.1.2.1.2.2.2.2.2.1 mw_1_52 dX7_runs_81 ?_
        refine lv_topi (fun x8 ex8 => ?_)
        replace hF := xl_i (ex8) hF
        exact rI E I hr hlk rfl (by rw [← hpost]; exact ⟨⟨I.2.2, trivial⟩, hF.trans hres, rzu5⟩) dX7_runs_84
      replace hF := if_f c7 hF
      by_cases c9 : a0.toInt = 1
      ·
        replace hF := if_t c9 hF
        refine lv_tableIn hx hb dX7_runs_42 (by omega) (by omega) (by rw [c9]; rfl) (tgt := 85) (by decide) ?_
        refine lv_sipush (v := 1000) hx hb dX7_runs_85 (by decide) ?_
        refine lv_aload_n hx hb dX7_runs_88 rfl (lv_at hl 0 rfl) ?_
        refine g_Place_side E I h_k0.2.2.2.1.2.1.2.2.2.2.2.1 mw_1_57 dX7_runs_89 ?_
        refine lv_topi (fun x10 ex10 => ?_)
        replace hF := xl_i (ex10) hF
        refine lv_iadd hx hb dX7_runs_92 ?_
        refine lv_topi (fun x11 ex11 => ?_)
        replace hF := xl_i (ex11) hF
        exact rI E I hr hlk rfl (by rw [← hpost]; exact ⟨⟨I.2.2, trivial⟩, hF.trans hres, rzu5⟩) dX7_runs_93
      replace hF := if_f c9 hF
      by_cases c12 : a0.toInt = 2
      ·
        replace hF := if_t c12 hF
        refine lv_tableIn hx hb dX7_runs_42 (by omega) (by omega) (by rw [c12]; rfl) (tgt := 94) (by decide) ?_
        refine lv_aload_n hx hb dX7_runs_94 rfl (lv_at hl 0 rfl) ?_
        refine g_Place_water E I h_k0.2.2.2.1.2.1.2.2.2.2.2.1 mw_1_60 dX7_runs_95 ?_
        refine lv_topi (fun x13 ex13 => ?_)
        replace hF := xl_i (ex13) hF
        exact rI E I hr hlk rfl (by rw [← hpost]; exact ⟨⟨I.2.2, trivial⟩, hF.trans hres, rzu5⟩) dX7_runs_98
      replace hF := if_f c12 hF
      by_cases c14 : a0.toInt = 3
      ·
        replace hF := if_t c14 hF
        refine lv_tableIn hx hb dX7_runs_42 (by omega) (by omega) (by rw [c14]; rfl) (tgt := 99) (by decide) ?_
        refine lv_aload_n hx hb dX7_runs_99 rfl (lv_at hl 0 rfl) ?_
        refine g_Place_hour E I h_k0.2.2.2.1.2.1.2.2.2.2.2.1 mw_1_47 dX7_runs_100 ?_
        refine lv_topi (fun x15 ex15 => ?_)
        replace hF := xl_i (ex15) hF
        exact rI E I hr hlk rfl (by rw [← hpost]; exact ⟨⟨I.2.2, trivial⟩, hF.trans hres, rzu5⟩) dX7_runs_103
      replace hF := if_f c14 hF
      by_cases c16 : a0.toInt = 4
      ·
        replace hF := if_t c16 hF
        refine lv_tableIn hx hb dX7_runs_42 (by omega) (by omega) (by rw [c16]; rfl) (tgt := 104) (by decide) ?_
        refine lv_aload_n hx hb dX7_runs_104 rfl (lv_at hl 1 rfl) ?_
        refine g_StarWalk_trial E I h_k0.1 mw_2_70 dX7_runs_105 ?_
        refine g_Trial_blindSteps E I h_k0.2.2.2.1.1 mw_1_218 dX7_runs_108 ?_
        refine lv_topi (fun x17 ex17 => ?_)
        replace hF := xl_i (ex17) hF
        exact rI E I hr hlk rfl (by rw [← hpost]; exact ⟨⟨I.2.2, trivial⟩, hF.trans hres, rzu5⟩) dX7_runs_111
      replace hF := if_f c16 hF
      by_cases c18 : a0.toInt = 5
      ·
        replace hF := if_t c18 hF
        refine lv_tableIn hx hb dX7_runs_42 (by omega) (by omega) (by rw [c18]; rfl) (tgt := 112) (by decide) ?_
        refine lv_aload_n hx hb dX7_runs_112 rfl (lv_at hl 1 rfl) ?_
        refine g_StarWalk_trial E I h_k0.1 mw_2_70 dX7_runs_113 ?_
        refine g_Trial_night E I h_k0.2.2.2.1.1 mw_1_215 dX7_runs_116 ?_
        refine lv_aload_n hx hb dX7_runs_119 rfl (lv_at hl 0 rfl) ?_
        refine cVi E I (c_X0_isAtWell l w g u5 (k0 + 21 + 1) (k0 + 21 + 1 + 5) E.2.2.1 I.2.2 h_k0.2.2.2.1.2.1 h_k0.2.2.2.1.2.1.2.2.2.2.2.1  ) (cwV 1 E.1.2.2.2.2 (gWs (C := "StarWalk$Night") mw_3_75 mw_3_76 mw_3_77 mw_1_3 mw_3_78) rfl rfl rfl (by decide +kernel) ⟨by decide, by decide⟩) h_k0.2.2.2.1.2.1.1.1 ((ce_o h_k0.2.2.2.1.2.1.1.2).trans rfl) rfl rfl hl.1 rfl (Nat.le_of_ble_eq_true rfl) dX7_runs_120 ⟨Nat.le_refl _, Nat.le_refl _⟩ (fun r19 u20 H lo hp hPS => ?_)
        obtain ⟨hp, hex, hfr⟩ := hp
        replace hF := xl_i hex hF
        obtain ⟨hu, p21⟩ := hp
        rw [hu] at hPS
        have I : Wo w g s.heap u5 H lo := ⟨hPS.1, hPS.2, I.2.2⟩
        refine cSi E I (c_X7_oneIf l w g u5 r19 E.2.2.1 I.2.2   ) (va_cwS 1 E.1.2.2.2.2 (gSs mw_3_86 mw_3_87 mw_1_1 mw_3_88) rfl rfl rfl (by decide +kernel) ⟨by decide, by decide⟩) rfl hl.1 rfl (Nat.le_of_ble_eq_true rfl) dX7_runs_123 ⟨Nat.le_refl _, Nat.le_refl _⟩ (fun r22 u23 H lo hp hPS => ?_)
        obtain ⟨hp, hex, hfr⟩ := hp
        replace hF := xl_i hex hF
        obtain ⟨hu, p24⟩ := hp
        rw [hu] at hPS
        have I : Wo w g s.heap u5 H lo := ⟨hPS.1, hPS.2, I.2.2⟩
        exact rI E I hr hlk rfl (by rw [← hpost]; exact ⟨⟨I.2.2, trivial⟩, hF.trans hres, rzu5⟩) dX7_runs_126
      replace hF := if_f c18 hF
      refine lv_tableOut hx hb dX7_runs_42 (by omega) (tgt := 127) (by decide) ?_
      refine lv_aload_n hx hb dX7_runs_127 rfl (lv_at hl 1 rfl) ?_
      refine g_StarWalk_trial E I h_k0.1 mw_2_70 dX7_runs_128 ?_
      refine g_Trial_firstRefused E I h_k0.2.2.2.1.1 mw_1_220 dX7_runs_131 ?_
      refine lv_topi (fun x25 ex25 => ?_)
      replace hF := xl_i (ex25) hF
      exact rI E I hr hlk rfl (by rw [← hpost]; exact ⟨⟨I.2.2, trivial⟩, hF.trans hres, rzu5⟩) dX7_runs_134
    ·
      replace hF := if_t c2 hF
      refine lv_iconst (v := (-1)) hx hb dX7_runs_10 (by decide) ?_
      exact rI E I hr hlk rfl (by rw [← hpost]; exact ⟨⟨I.2.2, trivial⟩, hF.trans hres, rz0⟩) dX7_runs_11
def F_X7_next (k0 : Nat) (v : St) : Int32 × St :=
xl (fun (self_28 : Int32 → Int32 → Int32 → Int32 → Int32 → St → Int32 × St) (y28_1 : Int32) (y28_2 : Int32) (y28_3 : Int32) (y28_4 : Int32) (y28_5 : Int32) (v_28 : St) =>
xl (fun (y103_1 : Int32) (y103_2 : Int32) (y103_3 : Int32) (y103_4 : Int32) (v_103 : St) =>
xl (y28_5 + 1) fun x1 =>
(self_28 y103_1 y103_2 y103_3 y103_4 x1 v_103)) fun J_103 =>
xl (fun (v_81 : St) =>
xl (v_81.1 (k0 + 61) 2) fun x2 =>
xl (v_81.1 (k0 + 61) 1) fun x3 =>
(J_103 y28_5 x2 x3 (1 : Int32) v_81)) fun J_81 =>
if 5 < y28_5.toInt then (
(y28_1, v_28)) else (
xl (F_X2_become (k0 + 61) (k0 + 12 + 5) v_28) fun u5 =>
xm (F_X0_step (k0 + 12) (k0 + 61) y28_5 u5) fun r7 u8 =>
if r7.toInt = 0 then (
(J_103 y28_1 y28_2 y28_3 y28_4 u8)) else (
if y28_4.toInt = 0 then (
(J_81 u8)) else (
xl (F_X2_isBetterThan (k0 + 61) y28_2 y28_3 u8) fun r12 =>
if r12.toInt = 0 then (
(J_103 y28_1 y28_2 y28_3 y28_4 u8)) else (
(J_81 u8)))))) fun P_28 =>
xl (F_X2_canStep (k0 + 12 + 5) v) fun r16 =>
if r16.toInt = 0 then (
((-2 : Int32), v)) else (
(lp P_28 (fun _ _ _ _ _ _ => ((0 : Int32), v)) ((2147483647 - (0 : Int32).toInt).toNat + 1) (5 : Int32) (0 : Int32) (0 : Int32) (0 : Int32) (0 : Int32) v))
set_option maxHeartbeats 4000000 in
set_option maxRecDepth 100000 in
theorem c_X7_next (l : Launch) (w : Wp) (g : Nat → Nat → Int32) (v : St) (k0 : Nat) (hq : Inj w) (hw : WF (wk w) g v) (h_k0 : oW w k0) : CTi w l yX7_next (wsy yX7_next prog_1_method_22_code 6 (some .int)) (rmL 5) [.ref (wq w k0)] v (fun (r : Int32) (u : St) => (WF (wk w) g u ∧ True) ∧ ((r, u) = F_X7_next k0 v) ∧ (∀ k j : Nat, ¬ (k = k0 + 61) → u.1 k j = v.1 k j)) := by
  generalize hpost : (fun (r : Int32) (u : St) => (WF (wk w) g u ∧ True) ∧ ((r, u) = F_X7_next k0 v) ∧ (∀ k j : Nat, ¬ (k = k0 + 61) → u.1 k j = v.1 k j)) = post
  refine CTi.of prog_1_method_22_code 6 (some .int) "StarWalk" (by decide +kernel) rfl hq hw (Nat.le_of_ble_eq_true rfl) ?_
  intro pg en s m ar bl me cd ls E I hr hlk hl
  have hx := E.1.1
  have hb := E.1.2.1
  have hl : lv_has ls 6 [(0, .ref (wq w k0))] := hl
  obtain ⟨res, hres⟩ : ∃ z, z = F_X7_next k0 v := ⟨_, rfl⟩
  have hF := hres.symm
  unfold F_X7_next at hF
  replace hres : res = F_X7_next k0 v := hres
  have rz0 : ∀ k j : Nat, ¬ (k = k0 + 61) → v.1 k j = v.1 k j := fun _ _ _ => rfl
  obtain ⟨P_28, eP_28, hF⟩ := xl_e hF
  have L_28 : ∀ (n : Nat), ∀ (H : Heap) (lo : List Loc) (v_28 : St), Wo w g s.heap v_28 H lo → ∀ (y28_1 : Int32) (y28_2 : Int32) (y28_3 : Int32) (y28_4 : Int32) (y28_5 : Int32), (0 ≤ y28_1.toInt ∧ y28_1.toInt ≤ 5) → (0 ≤ y28_4.toInt ∧ y28_4.toInt ≤ 1) → (0 ≤ y28_5.toInt ∧ y28_5.toInt ≤ 6) → (∀ k j : Nat, ¬ (k = k0 + 61) → v_28.1 k j = v.1 k j) → (lp P_28 (fun _ _ _ _ _ _ => ((0 : Int32), v)) n y28_1 y28_2 y28_3 y28_4 y28_5 v_28 = res) → (2147483647 - y28_5.toInt).toNat < n → ∀ (ls : Array Slot), lv_has ls 6 [(0, .ref (wq w k0)), (1, .int y28_1), (2, .int y28_2), (3, .int y28_3), (4, .int y28_4), (5, .int y28_5)] → W pg l en (rmL 5) s m ar bl me cd H lo 0 0 (Zi w bl ar s post) (F0 m 28 ls []) := by
    intro n
    induction n with
    | zero => intro H lo v_28 I y28_1 y28_2 y28_3 y28_4 y28_5 hy28_1 hy28_4 hy28_5 rB28_Z hF hm; exact absurd hm (Nat.not_lt_zero _)
    | succ n ih_28 =>
      intro H lo v_28 I y28_1 y28_2 y28_3 y28_4 y28_5 hy28_1 hy28_4 hy28_5 rB28_Z hF hm ls hl
      replace hF := lpa6 eP_28 hF
      obtain ⟨J_103, eJ_103, hF⟩ := xl_e hF
      have B_103 : ∀ (H : Heap) (lo : List Loc) (v_103 : St), Wo w g s.heap v_103 H lo → ∀ (y103_1 : Int32) (y103_2 : Int32) (y103_3 : Int32) (y103_4 : Int32), (0 ≤ y103_1.toInt ∧ y103_1.toInt ≤ 5) → (0 ≤ y103_4.toInt ∧ y103_4.toInt ≤ 1) → (0 ≤ y28_5.toInt ∧ y28_5.toInt ≤ 5) → (∀ k j : Nat, ¬ (k = k0 + 61) → v_103.1 k j = v.1 k j) → (J_103 y103_1 y103_2 y103_3 y103_4 v_103 = res) → ∀ (ls : Array Slot), lv_has ls 6 [(0, .ref (wq w k0)), (1, .int y103_1), (2, .int y103_2), (3, .int y103_3), (4, .int y103_4), (5, .int y28_5)] → W pg l en (rmL 5) s m ar bl me cd H lo 0 0 (Zi w bl ar s post) (F0 m 103 ls []) := by
        intro H lo v_103 I y103_1 y103_2 y103_3 y103_4 hy103_1 hy103_4 hE103_0 rB103_Z hF ls hl
        replace hF := ap5 eJ_103 hF
        obtain ⟨x1, ex1⟩ : ∃ z : Int32, z = y28_5 + 1 := ⟨_, rfl⟩
        replace hF := xl_i (ex1) hF
        have hx1 : x1.toInt = y28_5.toInt + (1) := by rw [ex1]; exact adI (a := y28_5.toInt) (b := 1) rfl rfl (by omega) (by omega)
        refine lv_iinc (v := x1) (lv' := [(5, .int x1), (0, .ref (wq w k0)), (1, .int y103_1), (2, .int y103_2), (3, .int y103_3), (4, .int y103_4)]) hx hb dX7_next_103 hl (k := 5) rfl (by rw [ex1]; rfl) (by decide) rfl (fun ls hl => ?_)
        refine lv_goto (tgt := 28) hx hb dX7_next_106 (by decide) ?_
        exact ih_28 _ _ v_103 I y103_1 y103_2 y103_3 y103_4 x1 (by omega) (by omega) (by omega) rB103_Z hF (by omega) ls (lv_sub hl [1, 2, 3, 4, 5, 0] rfl)
      obtain ⟨J_81, eJ_81, hF⟩ := xl_e hF
      have B_81 : ∀ (H : Heap) (lo : List Loc) (v_81 : St), Wo w g s.heap v_81 H lo → (0 ≤ y28_5.toInt ∧ y28_5.toInt ≤ 5) → (∀ k j : Nat, ¬ (k = k0 + 61) → v_81.1 k j = v.1 k j) → (J_81 v_81 = res) → ∀ (ls : Array Slot), lv_has ls 6 [(0, .ref (wq w k0)), (5, .int y28_5)] → W pg l en (rmL 5) s m ar bl me cd H lo 0 0 (Zi w bl ar s post) (F0 m 81 ls []) := by
        intro H lo v_81 I  hE81_0 rB81_Z hF ls hl
        replace hF := ap1 eJ_81 hF
        refine lv_iconst (v := 1) hx hb dX7_next_81 (by decide) ?_
        refine lv_istore (lv' := [(4, .int 1), (0, .ref (wq w k0)), (5, .int y28_5)]) hx hb dX7_next_82 hl (by decide) rfl (fun ls hl => ?_)
        refine lv_iload hx hb dX7_next_84 (lv_at hl 2 rfl) ?_
        refine lv_istore_n (lv' := [(1, .int y28_5), (4, .int 1), (0, .ref (wq w k0)), (5, .int y28_5)]) hx hb dX7_next_86 rfl hl (by decide) rfl (fun ls hl => ?_)
        refine lv_aload_n hx hb dX7_next_87 rfl (lv_at hl 2 rfl) ?_
        refine g_StarWalk_scratch E I h_k0.1 mw_2_73 dX7_next_88 ?_
        refine g_Place_side E I h_k0.2.2.2.2.2.2.1 mw_1_57 dX7_next_91 ?_
        refine lv_topi (fun x2 ex2 => ?_)
        replace hF := xl_i (ex2) hF
        refine lv_istore_n (lv' := [(2, .int x2), (1, .int y28_5), (4, .int 1), (0, .ref (wq w k0)), (5, .int y28_5)]) hx hb dX7_next_94 rfl hl (by decide) rfl (fun ls hl => ?_)
        refine lv_aload_n hx hb dX7_next_95 rfl (lv_at hl 3 rfl) ?_
        refine g_StarWalk_scratch E I h_k0.1 mw_2_73 dX7_next_96 ?_
        refine g_Place_miles E I h_k0.2.2.2.2.2.2.1 mw_1_52 dX7_next_99 ?_
        refine lv_topi (fun x3 ex3 => ?_)
        replace hF := xl_i (ex3) hF
        refine lv_istore_n (lv' := [(3, .int x3), (2, .int x2), (1, .int y28_5), (4, .int 1), (0, .ref (wq w k0)), (5, .int y28_5)]) hx hb dX7_next_102 rfl hl (by decide) rfl (fun ls hl => ?_)
        exact B_103 _ _ v_81 I y28_5 x2 x3 (1 : Int32) (by omega) (by decide) (by omega) rB81_Z hF ls (lv_sub hl [4, 2, 1, 0, 3, 5] rfl)
      refine lv_iload hx hb dX7_next_28 (lv_at hl 5 rfl) ?_
      refine lv_iconst (v := 5) hx hb dX7_next_30 (by decide) ?_
      refine bi_gt E (a := y28_5.toInt) (b := 5) rfl rfl (tgt := 109) dX7_next_31 (by decide) (fun c4 => ?_) (fun c4 => ?_)
      ·
        replace hF := if_t c4 hF
        refine lv_iload_n hx hb dX7_next_109 rfl (lv_at hl 1 rfl) ?_
        exact rI E I hr hlk rfl (by rw [← hpost]; exact ⟨⟨I.2.2, trivial⟩, hF.trans hres, rB28_Z⟩) dX7_next_110
      ·
        replace hF := if_l c4 hF
        refine lv_aload_n hx hb dX7_next_34 rfl (lv_at hl 0 rfl) ?_
        refine g_StarWalk_scratch E I h_k0.1 mw_2_73 dX7_next_35 ?_
        refine lv_aload_n hx hb dX7_next_38 rfl (lv_at hl 0 rfl) ?_
        refine g_StarWalk_now E I h_k0.1 mw_2_69 dX7_next_39 ?_
        refine g_Night_place E I h_k0.2.2.1.1 mw_1_113 dX7_next_42 ?_
        refine cVv E I (c_X2_become l w g v_28 (k0 + 61) (k0 + 12 + 5) E.2.2.1 I.2.2 h_k0.2.2.2.2.2.2.1 h_k0.2.2.1.2.2.2.2.2.1  ) (cwV 1 E.1.2.2.2.2 (gWs (C := "StarWalk$Place") mw_3_218 mw_3_61 mw_3_62 mw_1_4 mw_3_63) rfl rfl rfl (by decide +kernel) ⟨by decide, by decide⟩) h_k0.2.2.2.2.2.2.1.1 ((ce_o h_k0.2.2.2.2.2.2.1.2).trans rfl) rfl rfl hl.1 rfl (Nat.le_of_ble_eq_true rfl) dX7_next_45 ⟨Nat.le_refl _, Nat.le_refl _⟩ (fun u5 H lo hp hPS => ?_)
        obtain ⟨hp, hex, hfr⟩ := hp
        replace hF := xl_i hex hF
        obtain ⟨hwf, p6⟩ := hp
        have I : Wo w g s.heap u5 H lo := ⟨hPS.1, hPS.2, hwf⟩
        have rzu5 : ∀ k j : Nat, ¬ (k = k0 + 61) → u5.1 k j = v.1 k j := fun k j h => (hfr k j (fun z => h (by omega))).trans (rB28_Z k j h)
        refine lv_aload_n hx hb dX7_next_48 rfl (lv_at hl 0 rfl) ?_
        refine g_StarWalk_now E I h_k0.1 mw_2_69 dX7_next_49 ?_
        refine lv_aload_n hx hb dX7_next_52 rfl (lv_at hl 0 rfl) ?_
        refine g_StarWalk_scratch E I h_k0.1 mw_2_73 dX7_next_53 ?_
        refine lv_iload hx hb dX7_next_56 (lv_at hl 5 rfl) ?_
        refine cVi E I (c_X0_step l w g u5 (k0 + 12) (k0 + 61) y28_5 E.2.2.1 I.2.2 h_k0.2.2.1 h_k0.2.2.2.2.2.2.1  ) (cwV 2 E.1.2.2.2.2 (gWs (C := "StarWalk$Night") mw_3_176 mw_3_177 mw_3_178 mw_1_3 mw_3_179) rfl rfl rfl (by decide +kernel) ⟨by decide, by decide⟩) h_k0.2.2.1.1.1 ((ce_o h_k0.2.2.1.1.2).trans rfl) rfl rfl hl.1 rfl (Nat.le_of_ble_eq_true rfl) dX7_next_58 ⟨Nat.le_refl _, Nat.le_refl _⟩ (fun r7 u8 H lo hp hPS => ?_)
        obtain ⟨hp, hex, hfr⟩ := hp
        replace hF := xm_i hex hF
        obtain ⟨hwf, p9⟩ := hp
        have I : Wo w g s.heap u8 H lo := ⟨hPS.1, hPS.2, hwf⟩
        have rzu8 : ∀ k j : Nat, ¬ (k = k0 + 61) → u8.1 k j = v.1 k j := fun k j h => (hfr k j (fun z => h (by omega))).trans (rzu5 k j h)
        refine bz_eq E (a := r7.toInt) rfl (tgt := 103) dX7_next_61 (by decide) (fun c10 => ?_) (fun c10 => ?_)
        ·
          replace hF := if_t c10 hF
          exact B_103 _ _ u8 I y28_1 y28_2 y28_3 y28_4 (by omega) (by omega) (by omega) rzu8 hF ls (lv_sub hl [0, 1, 2, 3, 4, 5] rfl)
        ·
          replace hF := if_f c10 hF
          refine lv_iload hx hb dX7_next_64 (lv_at hl 4 rfl) ?_
          refine bz_eq E (a := y28_4.toInt) rfl (tgt := 81) dX7_next_66 (by decide) (fun c11 => ?_) (fun c11 => ?_)
          ·
            replace hF := if_t c11 hF
            exact B_81 _ _ u8 I  (by omega) rzu8 hF ls (lv_sub hl [0, 5] rfl)
          ·
            replace hF := if_f c11 hF
            refine lv_aload_n hx hb dX7_next_69 rfl (lv_at hl 0 rfl) ?_
            refine g_StarWalk_scratch E I h_k0.1 mw_2_73 dX7_next_70 ?_
            refine lv_iload_n hx hb dX7_next_73 rfl (lv_at hl 2 rfl) ?_
            refine lv_iload_n hx hb dX7_next_74 rfl (lv_at hl 3 rfl) ?_
            refine cVi E I (c_X2_isBetterThan l w g u8 (k0 + 61) y28_2 y28_3 E.2.2.1 I.2.2 h_k0.2.2.2.2.2.2.1  ) (cwV 2 E.1.2.2.2.2 (gWs (C := "StarWalk$Place") mw_3_219 mw_3_220 mw_3_221 mw_1_4 mw_3_222) rfl rfl rfl (by decide +kernel) ⟨by decide, by decide⟩) h_k0.2.2.2.2.2.2.1.1 ((ce_o h_k0.2.2.2.2.2.2.1.2).trans rfl) rfl rfl hl.1 rfl (Nat.le_of_ble_eq_true rfl) dX7_next_75 ⟨Nat.le_refl _, Nat.le_refl _⟩ (fun r12 u13 H lo hp hPS => ?_)
            obtain ⟨hp, hex, hfr⟩ := hp
            replace hF := xl_i hex hF
            obtain ⟨hu, p14⟩ := hp
            rw [hu] at hPS
            have I : Wo w g s.heap u8 H lo := ⟨hPS.1, hPS.2, I.2.2⟩
            refine bz_eq E (a := r12.toInt) rfl (tgt := 103) dX7_next_78 (by decide) (fun c15 => ?_) (fun c15 => ?_)
            ·
              replace hF := if_t c15 hF
              exact B_103 _ _ u8 I y28_1 y28_2 y28_3 y28_4 (by omega) (by omega) (by omega) rzu8 hF ls (lv_sub hl [0, 1, 2, 3, 4, 5] rfl)
            ·
              replace hF := if_f c15 hF
              exact B_81 _ _ u8 I  (by omega) rzu8 hF ls (lv_sub hl [0, 5] rfl)
  refine lv_aload_n hx hb dX7_next_0 rfl (lv_at hl 0 rfl) ?_
  refine g_StarWalk_now E I h_k0.1 mw_2_69 dX7_next_1 ?_
  refine g_Night_place E I h_k0.2.2.1.1 mw_1_113 dX7_next_4 ?_
  refine cVi E I (c_X2_canStep l w g v (k0 + 12 + 5) E.2.2.1 I.2.2 h_k0.2.2.1.2.2.2.2.2.1  ) (cwV 0 E.1.2.2.2.2 (gWs (C := "StarWalk$Place") mw_3_217 mw_3_182 mw_3_183 mw_1_4 mw_3_184) rfl rfl rfl (by decide +kernel) ⟨by decide, by decide⟩) h_k0.2.2.1.2.2.2.2.2.1.1 ((ce_o h_k0.2.2.1.2.2.2.2.2.1.2).trans rfl) rfl rfl hl.1 rfl (Nat.le_of_ble_eq_true rfl) dX7_next_7 ⟨Nat.le_refl _, Nat.le_refl _⟩ (fun r16 u17 H lo hp hPS => ?_)
  obtain ⟨hp, hex, hfr⟩ := hp
  replace hF := xl_i hex hF
  obtain ⟨hu, p18⟩ := hp
  rw [hu] at hPS
  have I : Wo w g s.heap v H lo := ⟨hPS.1, hPS.2, I.2.2⟩
  refine bz_ne E (a := r16.toInt) rfl (tgt := 16) dX7_next_10 (by decide) (fun c19 => ?_) (fun c19 => ?_)
  ·
    replace hF := if_f c19 hF
    refine lv_iconst (v := 5) hx hb dX7_next_16 (by decide) ?_
    refine lv_istore_n (lv' := [(1, .int 5), (0, .ref (wq w k0))]) hx hb dX7_next_17 rfl hl (by decide) rfl (fun ls hl => ?_)
    refine lv_iconst (v := 0) hx hb dX7_next_18 (by decide) ?_
    refine lv_istore_n (lv' := [(2, .int 0), (1, .int 5), (0, .ref (wq w k0))]) hx hb dX7_next_19 rfl hl (by decide) rfl (fun ls hl => ?_)
    refine lv_iconst (v := 0) hx hb dX7_next_20 (by decide) ?_
    refine lv_istore_n (lv' := [(3, .int 0), (2, .int 0), (1, .int 5), (0, .ref (wq w k0))]) hx hb dX7_next_21 rfl hl (by decide) rfl (fun ls hl => ?_)
    refine lv_iconst (v := 0) hx hb dX7_next_22 (by decide) ?_
    refine lv_istore (lv' := [(4, .int 0), (3, .int 0), (2, .int 0), (1, .int 5), (0, .ref (wq w k0))]) hx hb dX7_next_23 hl (by decide) rfl (fun ls hl => ?_)
    refine lv_iconst (v := 0) hx hb dX7_next_25 (by decide) ?_
    refine lv_istore (lv' := [(5, .int 0), (4, .int 0), (3, .int 0), (2, .int 0), (1, .int 5), (0, .ref (wq w k0))]) hx hb dX7_next_26 hl (by decide) rfl (fun ls hl => ?_)
    exact L_28 ((2147483647 - (0 : Int32).toInt).toNat + 1) _ _ v I (5 : Int32) (0 : Int32) (0 : Int32) (0 : Int32) (0 : Int32) (by decide) (by decide) (by decide) rz0 hF (Nat.lt_succ_self _) ls (lv_sub hl [5, 4, 3, 2, 1, 0] rfl)
  ·
    replace hF := if_t c19 hF
    refine lv_bipush (v := (-2)) hx hb dX7_next_13 (by decide) ?_
    exact rI E I hr hlk rfl (by rw [← hpost]; exact ⟨⟨I.2.2, trivial⟩, hF.trans hres, rz0⟩) dX7_next_15
set_option maxHeartbeats 4000000 in
set_option maxRecDepth 100000 in
theorem c_X7_best (l : Launch) (w : Wp) (g : Nat → Nat → Int32) (v : St) (k0 : Nat) (a0 : Int32) (a1 : Int32) (hq : Inj w) (hw : WF (wk w) g v) (h_k0 : oW w k0) : CTi w l yX7_best (wsy yX7_best prog_1_method_23_code 4 (some .int)) (rmL 11) [.ref (wq w k0), .int a0, .int a1] v (fun (r : Int32) (u : St) => (WF (wk w) g u ∧ True) ∧ (True) ∧ (∀ k j : Nat, ¬ (k0 + 32 ≤ k ∧ k < k0 + 41) → u.1 k j = v.1 k j)) := by
  generalize hpost : (fun (r : Int32) (u : St) => (WF (wk w) g u ∧ True) ∧ (True) ∧ (∀ k j : Nat, ¬ (k0 + 32 ≤ k ∧ k < k0 + 41) → u.1 k j = v.1 k j)) = post
  refine CTi.of prog_1_method_23_code 4 (some .int) "StarWalk" (by decide +kernel) rfl hq hw (Nat.le_of_ble_eq_true rfl) ?_
  intro pg en s m ar bl me cd ls E I hr hlk hl
  have hx := E.1.1
  have hb := E.1.2.1
  have hl : lv_has ls 4 [(0, .ref (wq w k0)), (1, .int a0), (2, .int a1)] := hl
  have rz0 : ∀ k j : Nat, ¬ (k0 + 32 ≤ k ∧ k < k0 + 41) → v.1 k j = v.1 k j := fun _ _ _ => rfl
  have B_26 : ∀ (H : Heap) (lo : List Loc), Wo w g s.heap v H lo → (0 ≤ a0.toInt ∧ a0.toInt ≤ 4) → (0 ≤ a1.toInt) → (∀ k j : Nat, ¬ (k0 + 32 ≤ k ∧ k < k0 + 41) → v.1 k j = v.1 k j) → ∀ (ls : Array Slot), lv_has ls 4 [(0, .ref (wq w k0)), (1, .int a0), (2, .int a1)] → W pg l en (rmL 11) s m ar bl me cd H lo 0 0 (Zi w bl ar s post) (F0 m 26 ls []) := by
    intro H lo  I  hE26_0 hE26_1 rB26_Z ls hl
    refine lv_iload_n hx hb dX7_best_26 rfl (lv_at hl 2 rfl) ?_
    refine lv_bipush (v := 10) hx hb dX7_best_27 (by decide) ?_
    refine lv_isub hx hb dX7_best_29 ?_
    refine lv_topi (fun x1 ex1 => ?_)
    have hx1 : x1.toInt = a1.toInt - 10 := by have := i32_rng a1; rw [ex1]; exact sbI (a := a1.toInt) (b := 10) rfl rfl (by omega) (by omega)
    refine lv_istore_n (lv' := [(3, .int x1), (0, .ref (wq w k0)), (1, .int a0), (2, .int a1)]) hx hb dX7_best_30 rfl hl (by decide) rfl (fun ls hl => ?_)
    refine lv_iload_n hx hb dX7_best_31 rfl (lv_at hl 0 rfl) ?_
    refine lv_iload_n hx hb dX7_best_32 rfl (lv_at hl 2 rfl) ?_
    refine bi_lt E (a := x1.toInt) (b := a0.toInt) rfl rfl (tgt := 39) dX7_best_33 (by decide) (fun c2 => ?_) (fun c2 => ?_)
    ·
      refine lv_aload_n hx hb dX7_best_39 rfl (lv_at hl 1 rfl) ?_
      refine g_StarWalk_search E I h_k0.1 mw_2_71 dX7_best_40 ?_
      refine lv_aload_n hx hb dX7_best_43 rfl (lv_at hl 1 rfl) ?_
      refine g_StarWalk_now E I h_k0.1 mw_2_69 dX7_best_44 ?_
      refine lv_iload_n hx hb dX7_best_47 rfl (lv_at hl 2 rfl) ?_
      refine cVv E I (c_X3_findBest l w g v (k0 + 32) (k0 + 12) a0 E.2.2.1 I.2.2 h_k0.2.2.2.2.1 h_k0.2.2.1  ) (cwV 2 E.1.2.2.2.2 (gWs (C := "StarWalk$Search") mw_3_228 mw_3_229 mw_3_230 mw_1_6 mw_3_231) rfl rfl rfl (by decide +kernel) ⟨by decide, by decide⟩) h_k0.2.2.2.2.1.1.1 ((ce_o h_k0.2.2.2.2.1.1.2).trans rfl) rfl rfl hl.1 rfl (Nat.le_of_ble_eq_true rfl) dX7_best_48 ⟨Nat.le_refl _, Nat.le_refl _⟩ (fun u3 H lo hp hPS => ?_)
      obtain ⟨hp, hex, hfr⟩ := hp
      obtain ⟨hwf, p4⟩ := hp
      have I : Wo w g s.heap u3 H lo := ⟨hPS.1, hPS.2, hwf⟩
      have rzu3 : ∀ k j : Nat, ¬ (k0 + 32 ≤ k ∧ k < k0 + 41) → u3.1 k j = v.1 k j := fun k j h => (hfr k j (fun z => h (by omega))).trans (rB26_Z k j h)
      refine lv_iload_n hx hb dX7_best_51 rfl (lv_at hl 3 rfl) ?_
      refine bz_ne E (a := a1.toInt) rfl (tgt := 67) dX7_best_52 (by decide) (fun c5 => ?_) (fun c5 => ?_)
      ·
        refine lv_iload_n hx hb dX7_best_67 rfl (lv_at hl 0 rfl) ?_
        refine bz_lt E (a := x1.toInt) rfl (tgt := 83) dX7_best_68 (by decide) (fun c6 => ?_) (fun c6 => ?_)
        ·
          refine lv_aload_n hx hb dX7_best_83 rfl (lv_at hl 1 rfl) ?_
          refine g_StarWalk_search E I h_k0.1 mw_2_71 dX7_best_84 ?_
          refine g_Search_bestMiles E I h_k0.2.2.2.2.1.1 mw_2_6 dX7_best_87 ?_
          refine lv_topi (fun x7 ex7 => ?_)
          exact rI E I hr hlk rfl (by rw [← hpost]; exact ⟨⟨I.2.2, trivial⟩, trivial, rzu3⟩) dX7_best_90
        ·
          refine lv_aload_n hx hb dX7_best_71 rfl (lv_at hl 1 rfl) ?_
          refine g_StarWalk_search E I h_k0.1 mw_2_71 dX7_best_72 ?_
          refine g_Search_bestRow E I h_k0.2.2.2.2.1.1 mw_2_2 dX7_best_75 ?_
          refine lv_iload_n hx hb dX7_best_78 rfl (lv_at hl 0 rfl) ?_
          refine ga_16 E I h_k0.2.2.2.2.1.2.2.2.1 (by omega) dX7_best_79 ?_
          refine lv_topi (fun x8 ex8 => ?_)
          refine lv_goto (tgt := 90) hx hb dX7_best_80 (by decide) ?_
          exact rI E I hr hlk rfl (by rw [← hpost]; exact ⟨⟨I.2.2, trivial⟩, trivial, rzu3⟩) dX7_best_90
      ·
        refine lv_sipush (v := 1000) hx hb dX7_best_55 (by decide) ?_
        refine lv_aload_n hx hb dX7_best_58 rfl (lv_at hl 1 rfl) ?_
        refine g_StarWalk_search E I h_k0.1 mw_2_71 dX7_best_59 ?_
        refine g_Search_bestSide E I h_k0.2.2.2.2.1.1 mw_2_4 dX7_best_62 ?_
        refine lv_topi (fun x9 ex9 => ?_)
        refine lv_iadd hx hb dX7_best_65 ?_
        refine lv_topi (fun x10 ex10 => ?_)
        exact rI E I hr hlk rfl (by rw [← hpost]; exact ⟨⟨I.2.2, trivial⟩, trivial, rzu3⟩) dX7_best_66
    ·
      refine lv_bipush (v := (-4)) hx hb dX7_best_36 (by decide) ?_
      exact rI E I hr hlk rfl (by rw [← hpost]; exact ⟨⟨I.2.2, trivial⟩, trivial, rB26_Z⟩) dX7_best_38
  refine lv_iload_n hx hb dX7_best_0 rfl (lv_at hl 1 rfl) ?_
  refine bz_lt E (a := a0.toInt) rfl (tgt := 24) dX7_best_1 (by decide) (fun c11 => ?_) (fun c11 => ?_)
  ·
    refine lv_iconst (v := (-1)) hx hb dX7_best_24 (by decide) ?_
    exact rI E I hr hlk rfl (by rw [← hpost]; exact ⟨⟨I.2.2, trivial⟩, trivial, rz0⟩) dX7_best_25
  ·
    refine lv_iload_n hx hb dX7_best_4 rfl (lv_at hl 1 rfl) ?_
    refine lv_iconst (v := 4) hx hb dX7_best_5 (by decide) ?_
    refine bi_gt E (a := a0.toInt) (b := 4) rfl rfl (tgt := 24) dX7_best_6 (by decide) (fun c12 => ?_) (fun c12 => ?_)
    ·
      refine lv_iconst (v := (-1)) hx hb dX7_best_24 (by decide) ?_
      exact rI E I hr hlk rfl (by rw [← hpost]; exact ⟨⟨I.2.2, trivial⟩, trivial, rz0⟩) dX7_best_25
    ·
      refine lv_iload_n hx hb dX7_best_9 rfl (lv_at hl 2 rfl) ?_
      refine bz_lt E (a := a1.toInt) rfl (tgt := 24) dX7_best_10 (by decide) (fun c13 => ?_) (fun c13 => ?_)
      ·
        refine lv_iconst (v := (-1)) hx hb dX7_best_24 (by decide) ?_
        exact rI E I hr hlk rfl (by rw [← hpost]; exact ⟨⟨I.2.2, trivial⟩, trivial, rz0⟩) dX7_best_25
      ·
        refine lv_iload_n hx hb dX7_best_13 rfl (lv_at hl 2 rfl) ?_
        refine lv_iconst (v := 1) hx hb dX7_best_14 (by decide) ?_
        refine bi_le E (a := a1.toInt) (b := 1) rfl rfl (tgt := 26) dX7_best_15 (by decide) (fun c14 => ?_) (fun c14 => ?_)
        ·
          exact B_26 _ _ I  (by omega) (by omega) rz0 ls (lv_sub hl [0, 1, 2] rfl)
        ·
          refine lv_iload_n hx hb dX7_best_18 rfl (lv_at hl 2 rfl) ?_
          refine lv_bipush (v := 10) hx hb dX7_best_19 (by decide) ?_
          refine bi_ge E (a := a1.toInt) (b := 10) rfl rfl (tgt := 26) dX7_best_21 (by decide) (fun c15 => ?_) (fun c15 => ?_)
          ·
            exact B_26 _ _ I  (by omega) (by omega) rz0 ls (lv_sub hl [0, 1, 2] rfl)
          ·
            refine lv_iconst (v := (-1)) hx hb dX7_best_24 (by decide) ?_
            exact rI E I hr hlk rfl (by rw [← hpost]; exact ⟨⟨I.2.2, trivial⟩, trivial, rz0⟩) dX7_best_25
