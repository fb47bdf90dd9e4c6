def F_X5_refuse (k0 : Nat) (a0 : Int32) (a1 : Int32) (v : St) : St :=
xl (v.1 k0 8) fun x1 =>
if x1.toInt = 0 then (
xl (up1 v k0 8 a0) fun v3 =>
xl (up1 v3 k0 9 a1) fun v4 =>
v4) else (
v)
set_option maxHeartbeats 4000000 in
set_option maxRecDepth 100000 in
theorem c_X5_refuse (l : Launch) (w : Wp) (g : Nat → Nat → Int32) (v : St) (k0 : Nat) (a0 : Int32) (a1 : Int32) (hq : Inj w) (hw : WF (wk w) g v) (h_k0 : oT w k0) : CTv w l yX5_refuse (wsy yX5_refuse prog_7_method_5_code 3 none) (rmL 1) [.ref (wq w k0), .int a0, .int a1] v (fun (u : St) => (WF (wk w) g u ∧ True) ∧ (u = F_X5_refuse k0 a0 a1 v) ∧ (∀ k j : Nat, ¬ (k = k0 ∧ 8 ≤ j ∧ j ≤ 9) → u.1 k j = v.1 k j)) := by
  generalize hpost : (fun (u : St) => (WF (wk w) g u ∧ True) ∧ (u = F_X5_refuse k0 a0 a1 v) ∧ (∀ k j : Nat, ¬ (k = k0 ∧ 8 ≤ j ∧ j ≤ 9) → u.1 k j = v.1 k j)) = post
  refine CTv.of prog_7_method_5_code 3 none "StarWalk$Tape" (by decide +kernel) rfl hq hw (Nat.le_of_ble_eq_true rfl) ?_
  intro pg en s m ar bl me cd ls E I hr hlk hl
  have hx := E.1.1
  have hb := E.1.2.1
  have hl : lv_has ls 3 [(0, .ref (wq w k0)), (1, .int a0), (2, .int a1)] := hl
  obtain ⟨res, hres⟩ : ∃ z, z = F_X5_refuse k0 a0 a1 v := ⟨_, rfl⟩
  have hF := hres.symm
  unfold F_X5_refuse at hF
  replace hres : res = F_X5_refuse k0 a0 a1 v := hres
  have rz0 : ∀ k j : Nat, ¬ (k = k0 ∧ 8 ≤ j ∧ j ≤ 9) → v.1 k j = v.1 k j := fun _ _ _ => rfl
  refine lv_aload_n hx hb dX5_refuse_0 rfl (lv_at hl 0 rfl) ?_
  refine g_Tape_found E I h_k0.1 mw_1_179 dX5_refuse_1 ?_
  refine lv_topi (fun x1 ex1 => ?_)
  replace hF := xl_i (ex1) hF
  refine bz_ne E (a := x1.toInt) rfl (tgt := 17) dX5_refuse_4 (by decide) (fun c2 => ?_) (fun c2 => ?_)
  ·
    replace hF := if_f c2 hF
    exact rV E I hr hlk (by rw [← hpost]; exact ⟨⟨I.2.2, trivial⟩, hF.trans hres, rz0⟩) dX5_refuse_17
  ·
    replace hF := if_t c2 hF
    refine lv_aload_n hx hb dX5_refuse_7 rfl (lv_at hl 0 rfl) ?_
    refine lv_iload_n hx hb dX5_refuse_8 rfl (lv_at hl 1 rfl) ?_
    refine p_Tape_found E I h_k0.1 mw_1_179 dX5_refuse_9 (fun H lo I => ?_)
    generalize ev3 : up1 v k0 8 a0 = v3 at I
    replace hF := xl_i (ev3.symm) hF
    have rzv3 : ∀ k j : Nat, ¬ (k = k0 ∧ 8 ≤ j ∧ j ≤ 9) → v3.1 k j = v.1 k j := fun k j h => fz_u ev3 (by omega) (rz0 k j h)
    refine lv_aload_n hx hb dX5_refuse_12 rfl (lv_at hl 0 rfl) ?_
    refine lv_iload_n hx hb dX5_refuse_13 rfl (lv_at hl 2 rfl) ?_
    refine p_Tape_foundAt E I h_k0.1 mw_1_181 dX5_refuse_14 (fun H lo I => ?_)
    generalize ev4 : up1 v3 k0 9 a1 = v4 at I
    replace hF := xl_i (ev4.symm) hF
    have rzv4 : ∀ k j : Nat, ¬ (k = k0 ∧ 8 ≤ j ∧ j ≤ 9) → v4.1 k j = v.1 k j := fun k j h => fz_u ev4 (by omega) (rzv3 k j h)
    exact rV E I hr hlk (by rw [← hpost]; exact ⟨⟨I.2.2, trivial⟩, hF.trans hres, rzv4⟩) dX5_refuse_17
def F_X5_byteAt (k0 : Nat) (a0 : Int32) (v : St) : Int32 :=
if a0.toInt < 0 then (
(-1 : Int32)) else (
xl (v.1 k0 1) fun x2 =>
if a0.toInt < x2.toInt then (
xl (v.1 (k0 + 1) a0.toNatClampNeg) fun x5 =>
x5) else (
(-1 : Int32)))
set_option maxHeartbeats 4000000 in
set_option maxRecDepth 100000 in
theorem c_X5_byteAt (l : Launch) (w : Wp) (g : Nat → Nat → Int32) (v : St) (k0 : Nat) (a0 : Int32) (hq : Inj w) (hw : WF (wk w) g v) (h_k0 : oT w k0) : CTi w l yX5_byteAt (wsy yX5_byteAt prog_7_method_22_code 2 (some .int)) (rmL 1) [.ref (wq w k0), .int a0] v (fun (r : Int32) (u : St) => (u = v ∧ True) ∧ (r = F_X5_byteAt k0 a0 v) ∧ True) := by
  generalize hpost : (fun (r : Int32) (u : St) => (u = v ∧ True) ∧ (r = F_X5_byteAt k0 a0 v) ∧ True) = post
  refine CTi.of prog_7_method_22_code 2 (some .int) "StarWalk$Tape" (by decide +kernel) rfl hq hw (Nat.le_of_ble_eq_true rfl) ?_
  intro pg en s m ar bl me cd ls E I hr hlk hl
  have hx := E.1.1
  have hb := E.1.2.1
  have hl : lv_has ls 2 [(0, .ref (wq w k0)), (1, .int a0)] := hl
  obtain ⟨res, hres⟩ : ∃ z, z = F_X5_byteAt k0 a0 v := ⟨_, rfl⟩
  have hF := hres.symm
  unfold F_X5_byteAt at hF
  replace hres : res = F_X5_byteAt k0 a0 v := hres
  refine lv_iload_n hx hb dX5_byteAt_0 rfl (lv_at hl 1 rfl) ?_
  refine bz_lt E (a := a0.toInt) rfl (tgt := 28) dX5_byteAt_1 (by decide) (fun c1 => ?_) (fun c1 => ?_)
  ·
    replace hF := if_t c1 hF
    refine lv_iconst (v := (-1)) hx hb dX5_byteAt_28 (by decide) ?_
    exact rI E I hr hlk rfl (by rw [← hpost]; exact ⟨⟨rfl, trivial⟩, hF.trans hres, trivial⟩) dX5_byteAt_29
  ·
    replace hF := if_l c1 hF
    refine lv_iload_n hx hb dX5_byteAt_4 rfl (lv_at hl 1 rfl) ?_
    refine lv_aload_n hx hb dX5_byteAt_5 rfl (lv_at hl 0 rfl) ?_
    refine g_Tape_length E I h_k0.1 mw_1_170 dX5_byteAt_6 ?_
    refine lv_topi (fun x2 ex2 => ?_)
    replace hF := xl_i (ex2) hF
    have hx2 := r_Tape_length I h_k0.1
    rw [← ex2] at hx2
    refine bi_ge E (a := a0.toInt) (b := x2.toInt) rfl rfl (tgt := 28) dX5_byteAt_9 (by decide) (fun c3 => ?_) (fun c3 => ?_)
    ·
      have rga0 := i32_rng a0
      replace hF := if_l c3 hF
      refine lv_iconst (v := (-1)) hx hb dX5_byteAt_28 (by decide) ?_
      exact rI E I hr hlk rfl (by rw [← hpost]; exact ⟨⟨rfl, trivial⟩, hF.trans hres, trivial⟩) dX5_byteAt_29
    ·
      have rga0 := i32_rng a0
      replace hF := if_t c3 hF
      refine lv_iload_n hx hb dX5_byteAt_12 rfl (lv_at hl 1 rfl) ?_
      refine lv_sipush (v := 160) hx hb dX5_byteAt_13 (by decide) ?_
      refine bi_ge E (a := a0.toInt) (b := 160) rfl rfl (tgt := 28) dX5_byteAt_16 (by decide) (fun c4 => ?_) (fun c4 => ?_)
      ·
        exfalso; omega
      ·
        refine lv_aload_n hx hb dX5_byteAt_19 rfl (lv_at hl 0 rfl) ?_
        refine g_Tape_bytes E I h_k0.1 mw_1_169 dX5_byteAt_20 ?_
        refine lv_iload_n hx hb dX5_byteAt_23 rfl (lv_at hl 1 rfl) ?_
        refine ga_17 E I h_k0.2.1 (by omega) dX5_byteAt_24 ?_
        refine lv_topi (fun x5 ex5 => ?_)
        replace hF := xl_i (ex5) hF
        refine lv_goto (tgt := 29) hx hb dX5_byteAt_25 (by decide) ?_
        exact rI E I hr hlk rfl (by rw [← hpost]; exact ⟨⟨rfl, trivial⟩, hF.trans hres, trivial⟩) dX5_byteAt_29
def F_X5_kindOf (a0 : Int32) (v : St) : Int32 :=
xl (if a0.toInt = -1 then (
(0 : Int32)) else (
if a0.toInt = 32 then (
(4 : Int32)) else (
if a0.toInt = 59 then (
(3 : Int32)) else (
(5 : Int32))))) fun J_28 =>
xl (if a0.toInt < 48 then (
(J_28 )) else (
if 57 < a0.toInt then (
(J_28 )) else (
(2 : Int32)))) fun J_14 =>
if a0.toInt < 97 then (
(J_14 )) else (
if 122 < a0.toInt then (
(J_14 )) else (
(1 : Int32)))
set_option maxHeartbeats 4000000 in
set_option maxRecDepth 100000 in
theorem c_X5_kindOf (l : Launch) (w : Wp) (g : Nat → Nat → Int32) (v : St) (a0 : Int32) (hq : Inj w) (hw : WF (wk w) g v) : CTi w l yX5_kindOf (wsy yX5_kindOf prog_7_method_21_code 1 (some .int)) (rmL 1) [.int a0] v (fun (r : Int32) (u : St) => (u = v ∧ True) ∧ (r = F_X5_kindOf a0 v) ∧ True) := by
  generalize hpost : (fun (r : Int32) (u : St) => (u = v ∧ True) ∧ (r = F_X5_kindOf a0 v) ∧ True) = post
  refine CTi.of prog_7_method_21_code 1 (some .int) "StarWalk$Tape" (by decide +kernel) rfl hq hw (Nat.le_of_ble_eq_true rfl) ?_
  intro pg en s m ar bl me cd ls E I hr hlk hl
  have hx := E.1.1
  have hb := E.1.2.1
  have hl : lv_has ls 1 [(0, .int a0)] := hl
  obtain ⟨res, hres⟩ : ∃ z, z = F_X5_kindOf a0 v := ⟨_, rfl⟩
  have hF := hres.symm
  unfold F_X5_kindOf at hF
  replace hres : res = F_X5_kindOf a0 v := hres
  obtain ⟨J_28, eJ_28, hF⟩ := xl_e hF
  have B_28 : ∀ (H : Heap) (lo : List Loc), Wo w g s.heap v H lo → (J_28  = res) → ∀ (ls : Array Slot), lv_has ls 1 [(0, .int a0)] → W pg l en (rmL 1) s m ar bl me cd H lo 0 0 (Zi w bl ar s post) (F0 m 28 ls []) := by
    intro H lo  I  hF ls hl
    replace hF := ap0 eJ_28 hF
    refine lv_iload_n hx hb dX5_kindOf_28 rfl (lv_at hl 0 rfl) ?_
    by_cases c1 : a0.toInt = -1
    ·
      replace hF := if_t c1 hF
      refine lv_lookup hx hb dX5_kindOf_29 (by decide) (by rw [c1] <;> rfl) (tgt := 64) (by decide) ?_
      refine lv_iconst (v := 0) hx hb dX5_kindOf_64 (by decide) ?_
      exact rI E I hr hlk rfl (by rw [← hpost]; exact ⟨⟨rfl, trivial⟩, hF.trans hres, trivial⟩) dX5_kindOf_65
    replace hF := if_f c1 hF
    by_cases c2 : a0.toInt = 32
    ·
      replace hF := if_t c2 hF
      refine lv_lookup hx hb dX5_kindOf_29 (by decide) (by rw [c2] <;> rfl) (tgt := 66) (by decide) ?_
      refine lv_iconst (v := 4) hx hb dX5_kindOf_66 (by decide) ?_
      exact rI E I hr hlk rfl (by rw [← hpost]; exact ⟨⟨rfl, trivial⟩, hF.trans hres, trivial⟩) dX5_kindOf_67
    replace hF := if_f c2 hF
    by_cases c3 : a0.toInt = 59
    ·
      replace hF := if_t c3 hF
      refine lv_lookup hx hb dX5_kindOf_29 (by decide) (by rw [c3] <;> rfl) (tgt := 68) (by decide) ?_
      refine lv_iconst (v := 3) hx hb dX5_kindOf_68 (by decide) ?_
      exact rI E I hr hlk rfl (by rw [← hpost]; exact ⟨⟨rfl, trivial⟩, hF.trans hres, trivial⟩) dX5_kindOf_69
    replace hF := if_f c3 hF
    refine lv_lookup hx hb dX5_kindOf_29 (by decide) (by simp only [Op.lookupswitch.offset_cons, Op.lookupswitch.offset_nil]; rw [if_neg (by omega), if_neg (by omega), if_neg (by omega)] <;> rfl) (tgt := 70) (by decide) ?_
    refine lv_iconst (v := 5) hx hb dX5_kindOf_70 (by decide) ?_
    exact rI E I hr hlk rfl (by rw [← hpost]; exact ⟨⟨rfl, trivial⟩, hF.trans hres, trivial⟩) dX5_kindOf_71
  obtain ⟨J_14, eJ_14, hF⟩ := xl_e hF
  have B_14 : ∀ (H : Heap) (lo : List Loc), Wo w g s.heap v H lo → (J_14  = res) → ∀ (ls : Array Slot), lv_has ls 1 [(0, .int a0)] → W pg l en (rmL 1) s m ar bl me cd H lo 0 0 (Zi w bl ar s post) (F0 m 14 ls []) := by
    intro H lo  I  hF ls hl
    replace hF := ap0 eJ_14 hF
    refine lv_iload_n hx hb dX5_kindOf_14 rfl (lv_at hl 0 rfl) ?_
    refine lv_bipush (v := 48) hx hb dX5_kindOf_15 (by decide) ?_
    refine bi_lt E (a := a0.toInt) (b := 48) rfl rfl (tgt := 28) dX5_kindOf_17 (by decide) (fun c4 => ?_) (fun c4 => ?_)
    ·
      replace hF := if_t c4 hF
      exact B_28 _ _ I   hF ls (lv_sub hl [0] rfl)
    ·
      replace hF := if_l c4 hF
      refine lv_iload_n hx hb dX5_kindOf_20 rfl (lv_at hl 0 rfl) ?_
      refine lv_bipush (v := 57) hx hb dX5_kindOf_21 (by decide) ?_
      refine bi_gt E (a := a0.toInt) (b := 57) rfl rfl (tgt := 28) dX5_kindOf_23 (by decide) (fun c5 => ?_) (fun c5 => ?_)
      ·
        replace hF := if_t c5 hF
        exact B_28 _ _ I   hF ls (lv_sub hl [0] rfl)
      ·
        replace hF := if_l c5 hF
        refine lv_iconst (v := 2) hx hb dX5_kindOf_26 (by decide) ?_
        exact rI E I hr hlk rfl (by rw [← hpost]; exact ⟨⟨rfl, trivial⟩, hF.trans hres, trivial⟩) dX5_kindOf_27
  refine lv_iload_n hx hb dX5_kindOf_0 rfl (lv_at hl 0 rfl) ?_
  refine lv_bipush (v := 97) hx hb dX5_kindOf_1 (by decide) ?_
  refine bi_lt E (a := a0.toInt) (b := 97) rfl rfl (tgt := 14) dX5_kindOf_3 (by decide) (fun c6 => ?_) (fun c6 => ?_)
  ·
    replace hF := if_t c6 hF
    exact B_14 _ _ I   hF ls (lv_sub hl [0] rfl)
  ·
    replace hF := if_l c6 hF
    refine lv_iload_n hx hb dX5_kindOf_6 rfl (lv_at hl 0 rfl) ?_
    refine lv_bipush (v := 122) hx hb dX5_kindOf_7 (by decide) ?_
    refine bi_gt E (a := a0.toInt) (b := 122) rfl rfl (tgt := 14) dX5_kindOf_9 (by decide) (fun c7 => ?_) (fun c7 => ?_)
    ·
      replace hF := if_t c7 hF
      exact B_14 _ _ I   hF ls (lv_sub hl [0] rfl)
    ·
      replace hF := if_l c7 hF
      refine lv_iconst (v := 1) hx hb dX5_kindOf_12 (by decide) ?_
      exact rI E I hr hlk rfl (by rw [← hpost]; exact ⟨⟨rfl, trivial⟩, hF.trans hres, trivial⟩) dX5_kindOf_13
def F_X5_takeToken (k0 : Nat) (v : St) : St :=
xl (fun (v_231 : St) =>
xl (v_231.1 k0 4) fun x1 =>
xl (F_X5_refuse k0 (1 : Int32) x1 v_231) fun u2 =>
u2) fun J_231 =>
xl (fun (v_202 : St) =>
xl (v_202.1 k0 3) fun x4 =>
if x4.toInt = 5 then (
(J_231 v_202)) else (
xl (v_202.1 k0 3) fun x6 =>
if x6.toInt = 2 then (
xl (v_202.1 k0 5) fun x8 =>
xl (v_202.1 k0 4) fun x9 =>
xl (x8 - x9) fun x10 =>
if 2 < x10.toInt then (
(J_231 v_202)) else (
v_202)) else (
v_202))) fun J_202 =>
xl (fun (self_134 : Int32 → Int32 → St → St) (y134_1 : Int32) (y134_2 : Int32) (v_134 : St) =>
if y134_2.toInt < 160 then (
if y134_1.toInt = 0 then (
(J_202 v_134)) else (
xl (v_134.1 k0 5) fun x14 =>
xl (F_X5_byteAt k0 x14 v_134) fun r15 =>
xl (F_X5_kindOf r15 v_134) fun r18 =>
xl (v_134.1 k0 3) fun x21 =>
if r18.toInt = x21.toInt then (
xl (v_134.1 k0 6) fun x23 =>
xl (x23 * (10 : Int32)) fun x24 =>
xl (v_134.1 k0 5) fun x25 =>
xl (F_X5_byteAt k0 x25 v_134) fun r26 =>
xl (x24 + r26) fun x29 =>
xl (x29 - (48 : Int32)) fun x30 =>
xl (up1 v_134 k0 6 x30) fun v31 =>
xl (v31.1 k0 5) fun x32 =>
xl (x32 + (1 : Int32)) fun x33 =>
xl (up1 v31 k0 5 x33) fun v34 =>
xl (y134_2 + 1) fun x35 =>
(self_134 y134_1 x35 v34)) else (
(J_202 v_134)))) else (
(J_202 v_134))) fun P_134 =>
xl (fun (z131_0 : Int32) (v_131 : St) =>
(lp P_134 (fun _ _ _ => v) ((2147483647 - (0 : Int32).toInt).toNat + 1) z131_0 (0 : Int32) v_131)) fun J_131 =>
xl (fun (v_126 : St) =>
(J_131 (1 : Int32) v_126)) fun J_126 =>
xl (fun (z92_1 : Int32) (v_92 : St) =>
xl (up1 v_92 k0 5 z92_1) fun v36 =>
xl (v36.1 k0 4) fun x37 =>
xl (F_X5_byteAt k0 x37 v36) fun r38 =>
xl (r38 - (48 : Int32)) fun x41 =>
xl (up1 v36 k0 6 x41) fun v42 =>
xl (v42.1 k0 3) fun x43 =>
if x43.toInt = 1 then (
(J_126 v42)) else (
xl (v42.1 k0 3) fun x45 =>
if x45.toInt = 2 then (
(J_126 v42)) else (
(J_131 (0 : Int32) v42)))) fun J_92 =>
xl (fun (v_56 : St) =>
xl (v_56.1 k0 4) fun x47 =>
xl (F_X5_byteAt k0 x47 v_56) fun r48 =>
xl (F_X5_kindOf r48 v_56) fun r51 =>
xl (up1 v_56 k0 3 r51) fun v54 =>
xl (v54.1 k0 3) fun x55 =>
if x55.toInt = 0 then (
xl (v54.1 k0 4) fun x59 =>
(J_92 x59 v54)) else (
xl (v54.1 k0 4) fun x57 =>
xl (x57 + (1 : Int32)) fun x58 =>
(J_92 x58 v54))) fun J_56 =>
xl (fun (self_18 : Int32 → St → St) (y18_1 : Int32) (v_18 : St) =>
if y18_1.toInt < 160 then (
xl (v_18.1 k0 4) fun x61 =>
xl (F_X5_byteAt k0 x61 v_18) fun r62 =>
xl (F_X5_kindOf r62 v_18) fun r65 =>
if r65.toInt = 4 then (
xl (v_18.1 k0 4) fun x69 =>
xl (x69 + (1 : Int32)) fun x70 =>
xl (up1 v_18 k0 4 x70) fun v71 =>
xl (y18_1 + 1) fun x72 =>
(self_18 x72 v71)) else (
(J_56 v_18))) else (
(J_56 v_18))) fun P_18 =>
xl (v.1 k0 8) fun x73 =>
if x73.toInt = 0 then (
xl (v.1 k0 5) fun x75 =>
xl (up1 v k0 4 x75) fun v76 =>
(lp P_18 (fun _ _ => v) ((2147483647 - (0 : Int32).toInt).toNat + 1) (0 : Int32) v76)) else (
v)
set_option maxHeartbeats 4000000 in
set_option maxRecDepth 100000 in
theorem c_X5_takeToken (l : Launch) (w : Wp) (g : Nat → Nat → Int32) (v : St) (k0 : Nat) (hq : Inj w) (hw : WF (wk w) g v) (h_k0 : oT w k0) : CTv w l yX5_takeToken (wsy yX5_takeToken prog_7_method_20_code 3 none) (rmL 2) [.ref (wq w k0)] v (fun (u : St) => (WF (wk w) g u ∧ True) ∧ (u = F_X5_takeToken k0 v) ∧ (∀ k j : Nat, ¬ (k = k0 ∧ 3 ≤ j ∧ ¬ j = 7) → u.1 k j = v.1 k j)) := by
  generalize hpost : (fun (u : St) => (WF (wk w) g u ∧ True) ∧ (u = F_X5_takeToken k0 v) ∧ (∀ k j : Nat, ¬ (k = k0 ∧ 3 ≤ j ∧ ¬ j = 7) → u.1 k j = v.1 k j)) = post
  refine CTv.of prog_7_method_20_code 3 none "StarWalk$Tape" (by decide +kernel) rfl hq hw (Nat.le_of_ble_eq_true rfl) ?_
  intro pg en s m ar bl me cd ls E I hr hlk hl
  have hx := E.1.1
  have hb := E.1.2.1
  have hl : lv_has ls 3 [(0, .ref (wq w k0))] := hl
  obtain ⟨res, hres⟩ : ∃ z, z = F_X5_takeToken k0 v := ⟨_, rfl⟩
  have hF := hres.symm
  unfold F_X5_takeToken at hF
  replace hres : res = F_X5_takeToken k0 v := hres
  have rz0 : ∀ k j : Nat, ¬ (k = k0 ∧ 3 ≤ j ∧ ¬ j = 7) → v.1 k j = v.1 k j := fun _ _ _ => rfl
  obtain ⟨J_231, eJ_231, hF⟩ := xl_e hF
  have B_231 : ∀ (H : Heap) (lo : List Loc) (v_231 : St), Wo w g s.heap v_231 H lo → (∀ k j : Nat, ¬ (k = k0 ∧ 3 ≤ j ∧ ¬ j = 7) → v_231.1 k j = v.1 k j) → (J_231 v_231 = res) → ∀ (ls : Array Slot), lv_has ls 3 [(0, .ref (wq w k0))] → W pg l en (rmL 2) s m ar bl me cd H lo 0 0 (Zv w bl ar s post) (F0 m 231 ls []) := by
    intro H lo v_231 I  rB231_Z hF ls hl
    replace hF := ap1 eJ_231 hF
    refine lv_aload_n hx hb dX5_takeToken_231 rfl (lv_at hl 0 rfl) ?_
    refine lv_iconst (v := 1) hx hb dX5_takeToken_232 (by decide) ?_
    refine lv_aload_n hx hb dX5_takeToken_233 rfl (lv_at hl 0 rfl) ?_
    refine g_Tape_first E I h_k0.1 mw_1_175 dX5_takeToken_234 ?_
    refine lv_topi (fun x1 ex1 => ?_)
    replace hF := xl_i (ex1) hF
    refine cVv E I (c_X5_refuse l w g v_231 k0 (1 : Int32) x1 E.2.2.1 I.2.2 h_k0  ) (cwV 2 E.1.2.2.2.2 (gWs (C := "StarWalk$Tape") mw_2_134 mw_2_136 mw_s_2 mw_1_2 mw_2_137) rfl rfl rfl (by decide +kernel) ⟨by decide, by decide⟩) h_k0.1.1 ((ce_o h_k0.1.2).trans rfl) rfl rfl hl.1 rfl (Nat.le_of_ble_eq_true rfl) dX5_takeToken_237 ⟨Nat.le_refl _, Nat.le_refl _⟩ (fun u2 H lo hp hPS => ?_)
    obtain ⟨hp, hex, hfr⟩ := hp
    replace hF := xl_i hex hF
    obtain ⟨hwf, p3⟩ := hp
    have I : Wo w g s.heap u2 H lo := ⟨hPS.1, hPS.2, hwf⟩
    have rzu2 : ∀ k j : Nat, ¬ (k = k0 ∧ 3 ≤ j ∧ ¬ j = 7) → u2.1 k j = v.1 k j := fun k j h => (hfr k j (fun z => h (by omega))).trans (rB231_Z k j h)
    exact rV E I hr hlk (by rw [← hpost]; exact ⟨⟨I.2.2, trivial⟩, hF.trans hres, rzu2⟩) dX5_takeToken_240
  obtain ⟨J_202, eJ_202, hF⟩ := xl_e hF
  have B_202 : ∀ (H : Heap) (lo : List Loc) (v_202 : St), Wo w g s.heap v_202 H lo → (∀ k j : Nat, ¬ (k = k0 ∧ 3 ≤ j ∧ ¬ j = 7) → v_202.1 k j = v.1 k j) → (J_202 v_202 = res) → ∀ (ls : Array Slot), lv_has ls 3 [(0, .ref (wq w k0))] → W pg l en (rmL 2) s m ar bl me cd H lo 0 0 (Zv w bl ar s post) (F0 m 202 ls []) := by
    intro H lo v_202 I  rB202_Z hF ls hl
    replace hF := ap1 eJ_202 hF
    refine lv_aload_n hx hb dX5_takeToken_202 rfl (lv_at hl 0 rfl) ?_
    refine g_Tape_kind E I h_k0.1 mw_1_174 dX5_takeToken_203 ?_
    refine lv_topi (fun x4 ex4 => ?_)
    replace hF := xl_i (ex4) hF
    refine lv_iconst (v := 5) hx hb dX5_takeToken_206 (by decide) ?_
    refine bi_eq E (a := x4.toInt) (b := 5) rfl rfl (tgt := 231) dX5_takeToken_207 (by decide) (fun c5 => ?_) (fun c5 => ?_)
    ·
      replace hF := if_t c5 hF
      exact B_231 _ _ v_202 I  rB202_Z hF ls (lv_sub hl [0] rfl)
    ·
      replace hF := if_f c5 hF
      refine lv_aload_n hx hb dX5_takeToken_210 rfl (lv_at hl 0 rfl) ?_
      refine g_Tape_kind E I h_k0.1 mw_1_174 dX5_takeToken_211 ?_
      refine lv_topi (fun x6 ex6 => ?_)
      replace hF := xl_i (ex6) hF
      refine lv_iconst (v := 2) hx hb dX5_takeToken_214 (by decide) ?_
      refine bi_ne E (a := x6.toInt) (b := 2) rfl rfl (tgt := 240) dX5_takeToken_215 (by decide) (fun c7 => ?_) (fun c7 => ?_)
      ·
        replace hF := if_f c7 hF
        exact rV E I hr hlk (by rw [← hpost]; exact ⟨⟨I.2.2, trivial⟩, hF.trans hres, rB202_Z⟩) dX5_takeToken_240
      ·
        replace hF := if_t c7 hF
        refine lv_aload_n hx hb dX5_takeToken_218 rfl (lv_at hl 0 rfl) ?_
        refine g_Tape_behind E I h_k0.1 mw_1_176 dX5_takeToken_219 ?_
        refine lv_topi (fun x8 ex8 => ?_)
        replace hF := xl_i (ex8) hF
        refine lv_aload_n hx hb dX5_takeToken_222 rfl (lv_at hl 0 rfl) ?_
        refine g_Tape_first E I h_k0.1 mw_1_175 dX5_takeToken_223 ?_
        refine lv_topi (fun x9 ex9 => ?_)
        replace hF := xl_i (ex9) hF
        refine lv_isub hx hb dX5_takeToken_226 ?_
        refine lv_topi (fun x10 ex10 => ?_)
        replace hF := xl_i (ex10) hF
        refine lv_iconst (v := 2) hx hb dX5_takeToken_227 (by decide) ?_
        refine bi_le E (a := x10.toInt) (b := 2) rfl rfl (tgt := 240) dX5_takeToken_228 (by decide) (fun c11 => ?_) (fun c11 => ?_)
        ·
          replace hF := if_l c11 hF
          exact rV E I hr hlk (by rw [← hpost]; exact ⟨⟨I.2.2, trivial⟩, hF.trans hres, rB202_Z⟩) dX5_takeToken_240
        ·
          replace hF := if_t c11 hF
          exact B_231 _ _ v_202 I  rB202_Z hF ls (lv_sub hl [0] rfl)
  obtain ⟨P_134, eP_134, hF⟩ := xl_e hF
  have L_134 : ∀ (n : Nat), ∀ (H : Heap) (lo : List Loc) (v_134 : St), Wo w g s.heap v_134 H lo → ∀ (y134_1 : Int32) (y134_2 : Int32), (0 ≤ y134_1.toInt ∧ y134_1.toInt ≤ 1) → (0 ≤ y134_2.toInt ∧ y134_2.toInt ≤ 160) → (∀ k j : Nat, ¬ (k = k0 ∧ 3 ≤ j ∧ ¬ j = 7) → v_134.1 k j = v.1 k j) → (lp P_134 (fun _ _ _ => v) n y134_1 y134_2 v_134 = res) → (2147483647 - y134_2.toInt).toNat < n → ∀ (ls : Array Slot), lv_has ls 3 [(0, .ref (wq w k0)), (1, .int y134_1), (2, .int y134_2)] → W pg l en (rmL 2) s m ar bl me cd H lo 0 0 (Zv w bl ar s post) (F0 m 134 ls []) := by
    intro n
    induction n with
    | zero => intro H lo v_134 I y134_1 y134_2 hy134_1 hy134_2 rB134_Z hF hm; exact absurd hm (Nat.not_lt_zero _)
    | succ n ih_134 =>
      intro H lo v_134 I y134_1 y134_2 hy134_1 hy134_2 rB134_Z hF hm ls hl
      replace hF := lpa3 eP_134 hF
      refine lv_iload_n hx hb dX5_takeToken_134 rfl (lv_at hl 2 rfl) ?_
      refine lv_sipush (v := 160) hx hb dX5_takeToken_135 (by decide) ?_
      refine bi_ge E (a := y134_2.toInt) (b := 160) rfl rfl (tgt := 202) dX5_takeToken_138 (by decide) (fun c12 => ?_) (fun c12 => ?_)
      ·
        replace hF := if_l c12 hF
        exact B_202 _ _ v_134 I  rB134_Z hF ls (lv_sub hl [0] rfl)
      ·
        replace hF := if_t c12 hF
        refine lv_iload_n hx hb dX5_takeToken_141 rfl (lv_at hl 1 rfl) ?_
        refine bz_eq E (a := y134_1.toInt) rfl (tgt := 202) dX5_takeToken_142 (by decide) (fun c13 => ?_) (fun c13 => ?_)
        ·
          replace hF := if_t c13 hF
          exact B_202 _ _ v_134 I  rB134_Z hF ls (lv_sub hl [0] rfl)
        ·
          replace hF := if_f c13 hF
          refine lv_aload_n hx hb dX5_takeToken_145 rfl (lv_at hl 0 rfl) ?_
          refine lv_aload_n hx hb dX5_takeToken_146 rfl (lv_at hl 0 rfl) ?_
          refine g_Tape_behind E I h_k0.1 mw_1_176 dX5_takeToken_147 ?_
          refine lv_topi (fun x14 ex14 => ?_)
          replace hF := xl_i (ex14) hF
          refine cVi E I (c_X5_byteAt l w g v_134 k0 x14 E.2.2.1 I.2.2 h_k0  ) (cwV 1 E.1.2.2.2.2 (gWs (C := "StarWalk$Tape") mw_2_127 mw_2_129 mw_s_1 mw_1_2 mw_2_130) rfl rfl rfl (by decide +kernel) ⟨by decide, by decide⟩) h_k0.1.1 ((ce_o h_k0.1.2).trans rfl) rfl rfl hl.1 rfl (Nat.le_of_ble_eq_true rfl) dX5_takeToken_150 ⟨Nat.le_refl _, Nat.le_refl _⟩ (fun r15 u16 H lo hp hPS => ?_)
          obtain ⟨hp, hex, hfr⟩ := hp
          replace hF := xl_i hex hF
          obtain ⟨hu, p17⟩ := hp
          rw [hu] at hPS
          have I : Wo w g s.heap v_134 H lo := ⟨hPS.1, hPS.2, I.2.2⟩
          refine cSi E I (c_X5_kindOf l w g v_134 r15 E.2.2.1 I.2.2   ) (va_cwS 1 E.1.2.2.2.2 (gSs mw_2_131 mw_2_132 mw_1_2 mw_2_133) rfl rfl rfl (by decide +kernel) ⟨by decide, by decide⟩) rfl hl.1 rfl (Nat.le_of_ble_eq_true rfl) dX5_takeToken_153 ⟨Nat.le_refl _, Nat.le_refl _⟩ (fun r18 u19 H lo hp hPS => ?_)
          obtain ⟨hp, hex, hfr⟩ := hp
          replace hF := xl_i hex hF
          obtain ⟨hu, p20⟩ := hp
          rw [hu] at hPS
          have I : Wo w g s.heap v_134 H lo := ⟨hPS.1, hPS.2, I.2.2⟩
          refine lv_aload_n hx hb dX5_takeToken_156 rfl (lv_at hl 0 rfl) ?_
          refine g_Tape_kind E I h_k0.1 mw_1_174 dX5_takeToken_157 ?_
          refine lv_topi (fun x21 ex21 => ?_)
          replace hF := xl_i (ex21) hF
          refine bi_ne E (a := r18.toInt) (b := x21.toInt) rfl rfl (tgt := 202) dX5_takeToken_160 (by decide) (fun c22 => ?_) (fun c22 => ?_)
          ·
            replace hF := if_f c22 hF
            exact B_202 _ _ v_134 I  rB134_Z hF ls (lv_sub hl [0] rfl)
          ·
            replace hF := if_t c22 hF
            refine lv_aload_n hx hb dX5_takeToken_163 rfl (lv_at hl 0 rfl) ?_
            refine lv_aload_n hx hb dX5_takeToken_164 rfl (lv_at hl 0 rfl) ?_
            refine g_Tape_value E I h_k0.1 mw_1_177 dX5_takeToken_165 ?_
            refine lv_topi (fun x23 ex23 => ?_)
            replace hF := xl_i (ex23) hF
            refine lv_bipush (v := 10) hx hb dX5_takeToken_168 (by decide) ?_
            refine lv_imul hx hb dX5_takeToken_170 ?_
            refine lv_topi (fun x24 ex24 => ?_)
            replace hF := xl_i (ex24) hF
            refine lv_aload_n hx hb dX5_takeToken_171 rfl (lv_at hl 0 rfl) ?_
            refine lv_aload_n hx hb dX5_takeToken_172 rfl (lv_at hl 0 rfl) ?_
            refine g_Tape_behind E I h_k0.1 mw_1_176 dX5_takeToken_173 ?_
            refine lv_topi (fun x25 ex25 => ?_)
            replace hF := xl_i (ex25) hF
            refine cVi E I (c_X5_byteAt l w g v_134 k0 x25 E.2.2.1 I.2.2 h_k0  ) (cwV 1 E.1.2.2.2.2 (gWs (C := "StarWalk$Tape") mw_2_127 mw_2_129 mw_s_1 mw_1_2 mw_2_130) rfl rfl rfl (by decide +kernel) ⟨by decide, by decide⟩) h_k0.1.1 ((ce_o h_k0.1.2).trans rfl) rfl rfl hl.1 rfl (Nat.le_of_ble_eq_true rfl) dX5_takeToken_176 ⟨Nat.le_refl _, Nat.le_refl _⟩ (fun r26 u27 H lo hp hPS => ?_)
            obtain ⟨hp, hex, hfr⟩ := hp
            replace hF := xl_i hex hF
            obtain ⟨hu, p28⟩ := hp
            rw [hu] at hPS
            have I : Wo w g s.heap v_134 H lo := ⟨hPS.1, hPS.2, I.2.2⟩
            refine lv_iadd hx hb dX5_takeToken_179 ?_
            refine lv_topi (fun x29 ex29 => ?_)
            replace hF := xl_i (ex29) hF
            refine lv_bipush (v := 48) hx hb dX5_takeToken_180 (by decide) ?_
            refine lv_isub hx hb dX5_takeToken_182 ?_
            refine lv_topi (fun x30 ex30 => ?_)
            replace hF := xl_i (ex30) hF
            refine p_Tape_value E I h_k0.1 mw_1_177 dX5_takeToken_183 (fun H lo I => ?_)
            generalize ev31 : up1 v_134 k0 6 x30 = v31 at I
            replace hF := xl_i (ev31.symm) hF
            have rzv31 : ∀ k j : Nat, ¬ (k = k0 ∧ 3 ≤ j ∧ ¬ j = 7) → v31.1 k j = v.1 k j := fun k j h => fz_u ev31 (by omega) (rB134_Z k j h)
            refine lv_aload_n hx hb dX5_takeToken_186 rfl (lv_at hl 0 rfl) ?_
            refine lv_dup hx hb dX5_takeToken_187 rfl ?_
            refine g_Tape_behind E I h_k0.1 mw_1_176 dX5_takeToken_188 ?_
            refine lv_topi (fun x32 ex32 => ?_)
            replace hF := xl_i (ex32) hF
            refine lv_iconst (v := 1) hx hb dX5_takeToken_191 (by decide) ?_
            refine lv_iadd hx hb dX5_takeToken_192 ?_
            refine lv_topi (fun x33 ex33 => ?_)
            replace hF := xl_i (ex33) hF
            refine p_Tape_behind E I h_k0.1 mw_1_176 dX5_takeToken_193 (fun H lo I => ?_)
            generalize ev34 : up1 v31 k0 5 x33 = v34 at I
            replace hF := xl_i (ev34.symm) hF
            have rzv34 : ∀ k j : Nat, ¬ (k = k0 ∧ 3 ≤ j ∧ ¬ j = 7) → v34.1 k j = v.1 k j := fun k j h => fz_u ev34 (by omega) (rzv31 k j h)
            obtain ⟨x35, ex35⟩ : ∃ z : Int32, z = y134_2 + 1 := ⟨_, rfl⟩
            replace hF := xl_i (ex35) hF
            have hx35 : x35.toInt = y134_2.toInt + (1) := by rw [ex35]; exact adI (a := y134_2.toInt) (b := 1) rfl rfl (by omega) (by omega)
            refine lv_iinc (v := x35) (lv' := [(2, .int x35), (0, .ref (wq w k0)), (1, .int y134_1)]) hx hb dX5_takeToken_196 hl (k := 2) rfl (by rw [ex35]; rfl) (by decide) rfl (fun ls hl => ?_)
            refine lv_goto (tgt := 134) hx hb dX5_takeToken_199 (by decide) ?_
            exact ih_134 _ _ v34 I y134_1 x35 (by omega) (by omega) rzv34 hF (by omega) ls (lv_sub hl [1, 2, 0] rfl)
  obtain ⟨J_131, eJ_131, hF⟩ := xl_e hF
  have B_131 : ∀ (H : Heap) (lo : List Loc) (v_131 : St), Wo w g s.heap v_131 H lo → ∀ (z131_0 : Int32), (0 ≤ z131_0.toInt ∧ z131_0.toInt ≤ 1) → (∀ k j : Nat, ¬ (k = k0 ∧ 3 ≤ j ∧ ¬ j = 7) → v_131.1 k j = v.1 k j) → (J_131 z131_0 v_131 = res) → ∀ (ls : Array Slot), lv_has ls 3 [(0, .ref (wq w k0))] → W pg l en (rmL 2) s m ar bl me cd H lo 0 0 (Zv w bl ar s post) (F0 m 131 ls [.int z131_0]) := by
    intro H lo v_131 I z131_0 hz131_0 rB131_Z hF ls hl
    replace hF := ap2 eJ_131 hF
    refine lv_istore_n (lv' := [(1, .int z131_0), (0, .ref (wq w k0))]) hx hb dX5_takeToken_131 rfl hl (by decide) rfl (fun ls hl => ?_)
    refine lv_iconst (v := 0) hx hb dX5_takeToken_132 (by decide) ?_
    refine lv_istore_n (lv' := [(2, .int 0), (1, .int z131_0), (0, .ref (wq w k0))]) hx hb dX5_takeToken_133 rfl hl (by decide) rfl (fun ls hl => ?_)
    exact L_134 ((2147483647 - (0 : Int32).toInt).toNat + 1) _ _ v_131 I z131_0 (0 : Int32) (by omega) (by decide) rB131_Z hF (Nat.lt_succ_self _) ls (lv_sub hl [2, 1, 0] rfl)
  obtain ⟨J_126, eJ_126, hF⟩ := xl_e hF
  have B_126 : ∀ (H : Heap) (lo : List Loc) (v_126 : St), Wo w g s.heap v_126 H lo → (∀ k j : Nat, ¬ (k = k0 ∧ 3 ≤ j ∧ ¬ j = 7) → v_126.1 k j = v.1 k j) → (J_126 v_126 = res) → ∀ (ls : Array Slot), lv_has ls 3 [(0, .ref (wq w k0))] → W pg l en (rmL 2) s m ar bl me cd H lo 0 0 (Zv w bl ar s post) (F0 m 126 ls []) := by
    intro H lo v_126 I  rB126_Z hF ls hl
    replace hF := ap1 eJ_126 hF
    refine lv_iconst (v := 1) hx hb dX5_takeToken_126 (by decide) ?_
    refine lv_goto (tgt := 131) hx hb dX5_takeToken_127 (by decide) ?_
    exact B_131 _ _ v_126 I (1 : Int32) (by decide) rB126_Z hF ls (lv_sub hl [0] rfl)
  obtain ⟨J_92, eJ_92, hF⟩ := xl_e hF
  have B_92 : ∀ (H : Heap) (lo : List Loc) (v_92 : St), Wo w g s.heap v_92 H lo → ∀ (z92_1 : Int32), (∀ k j : Nat, ¬ (k = k0 ∧ 3 ≤ j ∧ ¬ j = 7) → v_92.1 k j = v.1 k j) → (J_92 z92_1 v_92 = res) → ∀ (ls : Array Slot), lv_has ls 3 [(0, .ref (wq w k0))] → W pg l en (rmL 2) s m ar bl me cd H lo 0 0 (Zv w bl ar s post) (F0 m 92 ls [.int z92_1, .ref (wq w k0)]) := by
    intro H lo v_92 I z92_1 rB92_Z hF ls hl
    replace hF := ap2 eJ_92 hF
    refine p_Tape_behind E I h_k0.1 mw_1_176 dX5_takeToken_92 (fun H lo I => ?_)
    generalize ev36 : up1 v_92 k0 5 z92_1 = v36 at I
    replace hF := xl_i (ev36.symm) hF
    have rzv36 : ∀ k j : Nat, ¬ (k = k0 ∧ 3 ≤ j ∧ ¬ j = 7) → v36.1 k j = v.1 k j := fun k j h => fz_u ev36 (by omega) (rB92_Z k j h)
    refine lv_aload_n hx hb dX5_takeToken_95 rfl (lv_at hl 0 rfl) ?_
    refine lv_aload_n hx hb dX5_takeToken_96 rfl (lv_at hl 0 rfl) ?_
    refine lv_aload_n hx hb dX5_takeToken_97 rfl (lv_at hl 0 rfl) ?_
    refine g_Tape_first E I h_k0.1 mw_1_175 dX5_takeToken_98 ?_
    refine lv_topi (fun x37 ex37 => ?_)
    replace hF := xl_i (ex37) hF
    refine cVi E I (c_X5_byteAt l w g v36 k0 x37 E.2.2.1 I.2.2 h_k0  ) (cwV 1 E.1.2.2.2.2 (gWs (C := "StarWalk$Tape") mw_2_127 mw_2_129 mw_s_1 mw_1_2 mw_2_130) rfl rfl rfl (by decide +kernel) ⟨by decide, by decide⟩) h_k0.1.1 ((ce_o h_k0.1.2).trans rfl) rfl rfl hl.1 rfl (Nat.le_of_ble_eq_true rfl) dX5_takeToken_101 ⟨Nat.le_refl _, Nat.le_refl _⟩ (fun r38 u39 H lo hp hPS => ?_)
    obtain ⟨hp, hex, hfr⟩ := hp
    replace hF := xl_i hex hF
    obtain ⟨hu, p40⟩ := hp
    rw [hu] at hPS
    have I : Wo w g s.heap v36 H lo := ⟨hPS.1, hPS.2, I.2.2⟩
    refine lv_bipush (v := 48) hx hb dX5_takeToken_104 (by decide) ?_
    refine lv_isub hx hb dX5_takeToken_106 ?_
    refine lv_topi (fun x41 ex41 => ?_)
    replace hF := xl_i (ex41) hF
    refine p_Tape_value E I h_k0.1 mw_1_177 dX5_takeToken_107 (fun H lo I => ?_)
    generalize ev42 : up1 v36 k0 6 x41 = v42 at I
    replace hF := xl_i (ev42.symm) hF
    have rzv42 : ∀ k j : Nat, ¬ (k = k0 ∧ 3 ≤ j ∧ ¬ j = 7) → v42.1 k j = v.1 k j := fun k j h => fz_u ev42 (by omega) (rzv36 k j h)
    refine lv_aload_n hx hb dX5_takeToken_110 rfl (lv_at hl 0 rfl) ?_
    refine g_Tape_kind E I h_k0.1 mw_1_174 dX5_takeToken_111 ?_
    refine lv_topi (fun x43 ex43 => ?_)
    replace hF := xl_i (ex43) hF
    refine lv_iconst (v := 1) hx hb dX5_takeToken_114 (by decide) ?_
    refine bi_eq E (a := x43.toInt) (b := 1) rfl rfl (tgt := 126) dX5_takeToken_115 (by decide) (fun c44 => ?_) (fun c44 => ?_)
    ·
      replace hF := if_t c44 hF
      exact B_126 _ _ v42 I  rzv42 hF ls (lv_sub hl [0] rfl)
    ·
      replace hF := if_f c44 hF
      refine lv_aload_n hx hb dX5_takeToken_118 rfl (lv_at hl 0 rfl) ?_
      refine g_Tape_kind E I h_k0.1 mw_1_174 dX5_takeToken_119 ?_
      refine lv_topi (fun x45 ex45 => ?_)
      replace hF := xl_i (ex45) hF
      refine lv_iconst (v := 2) hx hb dX5_takeToken_122 (by decide) ?_
      refine bi_ne E (a := x45.toInt) (b := 2) rfl rfl (tgt := 130) dX5_takeToken_123 (by decide) (fun c46 => ?_) (fun c46 => ?_)
      ·
        replace hF := if_f c46 hF
        refine lv_iconst (v := 0) hx hb dX5_takeToken_130 (by decide) ?_
        exact B_131 _ _ v42 I (0 : Int32) (by decide) rzv42 hF ls (lv_sub hl [0] rfl)
      ·
        replace hF := if_t c46 hF
        exact B_126 _ _ v42 I  rzv42 hF ls (lv_sub hl [0] rfl)
  obtain ⟨J_56, eJ_56, hF⟩ := xl_e hF
  have B_56 : ∀ (H : Heap) (lo : List Loc) (v_56 : St), Wo w g s.heap v_56 H lo → (∀ k j : Nat, ¬ (k = k0 ∧ 3 ≤ j ∧ ¬ j = 7) → v_56.1 k j = v.1 k j) → (J_56 v_56 = res) → ∀ (ls : Array Slot), lv_has ls 3 [(0, .ref (wq w k0))] → W pg l en (rmL 2) s m ar bl me cd H lo 0 0 (Zv w bl ar s post) (F0 m 56 ls []) := by
    intro H lo v_56 I  rB56_Z hF ls hl
    replace hF := ap1 eJ_56 hF
    refine lv_aload_n hx hb dX5_takeToken_56 rfl (lv_at hl 0 rfl) ?_
    refine lv_aload_n hx hb dX5_takeToken_57 rfl (lv_at hl 0 rfl) ?_
    refine lv_aload_n hx hb dX5_takeToken_58 rfl (lv_at hl 0 rfl) ?_
    refine g_Tape_first E I h_k0.1 mw_1_175 dX5_takeToken_59 ?_
    refine lv_topi (fun x47 ex47 => ?_)
    replace hF := xl_i (ex47) hF
    refine cVi E I (c_X5_byteAt l w g v_56 k0 x47 E.2.2.1 I.2.2 h_k0  ) (cwV 1 E.1.2.2.2.2 (gWs (C := "StarWalk$Tape") mw_2_127 mw_2_129 mw_s_1 mw_1_2 mw_2_130) rfl rfl rfl (by decide +kernel) ⟨by decide, by decide⟩) h_k0.1.1 ((ce_o h_k0.1.2).trans rfl) rfl rfl hl.1 rfl (Nat.le_of_ble_eq_true rfl) dX5_takeToken_62 ⟨Nat.le_refl _, Nat.le_refl _⟩ (fun r48 u49 H lo hp hPS => ?_)
    obtain ⟨hp, hex, hfr⟩ := hp
    replace hF := xl_i hex hF
    obtain ⟨hu, p50⟩ := hp
    rw [hu] at hPS
    have I : Wo w g s.heap v_56 H lo := ⟨hPS.1, hPS.2, I.2.2⟩
    refine cSi E I (c_X5_kindOf l w g v_56 r48 E.2.2.1 I.2.2   ) (va_cwS 1 E.1.2.2.2.2 (gSs mw_2_131 mw_2_132 mw_1_2 mw_2_133) rfl rfl rfl (by decide +kernel) ⟨by decide, by decide⟩) rfl hl.1 rfl (Nat.le_of_ble_eq_true rfl) dX5_takeToken_65 ⟨Nat.le_refl _, Nat.le_refl _⟩ (fun r51 u52 H lo hp hPS => ?_)
    obtain ⟨hp, hex, hfr⟩ := hp
    replace hF := xl_i hex hF
    obtain ⟨hu, p53⟩ := hp
    rw [hu] at hPS
    have I : Wo w g s.heap v_56 H lo := ⟨hPS.1, hPS.2, I.2.2⟩
    refine p_Tape_kind E I h_k0.1 mw_1_174 dX5_takeToken_68 (fun H lo I => ?_)
    generalize ev54 : up1 v_56 k0 3 r51 = v54 at I
    replace hF := xl_i (ev54.symm) hF
    have rzv54 : ∀ k j : Nat, ¬ (k = k0 ∧ 3 ≤ j ∧ ¬ j = 7) → v54.1 k j = v.1 k j := fun k j h => fz_u ev54 (by omega) (rB56_Z k j h)
    refine lv_aload_n hx hb dX5_takeToken_71 rfl (lv_at hl 0 rfl) ?_
    refine lv_aload_n hx hb dX5_takeToken_72 rfl (lv_at hl 0 rfl) ?_
    refine g_Tape_kind E I h_k0.1 mw_1_174 dX5_takeToken_73 ?_
    refine lv_topi (fun x55 ex55 => ?_)
    replace hF := xl_i (ex55) hF
    refine bz_ne E (a := x55.toInt) rfl (tgt := 86) dX5_takeToken_76 (by decide) (fun c56 => ?_) (fun c56 => ?_)
    ·
      replace hF := if_f c56 hF
      refine lv_aload_n hx hb dX5_takeToken_86 rfl (lv_at hl 0 rfl) ?_
      refine g_Tape_first E I h_k0.1 mw_1_175 dX5_takeToken_87 ?_
      refine lv_topi (fun x57 ex57 => ?_)
      replace hF := xl_i (ex57) hF
      refine lv_iconst (v := 1) hx hb dX5_takeToken_90 (by decide) ?_
      refine lv_iadd hx hb dX5_takeToken_91 ?_
      refine lv_topi (fun x58 ex58 => ?_)
      replace hF := xl_i (ex58) hF
      exact B_92 _ _ v54 I x58 rzv54 hF ls (lv_sub hl [0] rfl)
    ·
      replace hF := if_t c56 hF
      refine lv_aload_n hx hb dX5_takeToken_79 rfl (lv_at hl 0 rfl) ?_
      refine g_Tape_first E I h_k0.1 mw_1_175 dX5_takeToken_80 ?_
      refine lv_topi (fun x59 ex59 => ?_)
      replace hF := xl_i (ex59) hF
      refine lv_goto (tgt := 92) hx hb dX5_takeToken_83 (by decide) ?_
      exact B_92 _ _ v54 I x59 rzv54 hF ls (lv_sub hl [0] rfl)
  obtain ⟨P_18, eP_18, hF⟩ := xl_e hF
  have L_18 : ∀ (n : Nat), ∀ (H : Heap) (lo : List Loc) (v_18 : St), Wo w g s.heap v_18 H lo → ∀ (y18_1 : Int32), (0 ≤ y18_1.toInt ∧ y18_1.toInt ≤ 160) → (∀ k j : Nat, ¬ (k = k0 ∧ 3 ≤ j ∧ ¬ j = 7) → v_18.1 k j = v.1 k j) → (lp P_18 (fun _ _ => v) n y18_1 v_18 = res) → (2147483647 - y18_1.toInt).toNat < n → ∀ (ls : Array Slot), lv_has ls 3 [(0, .ref (wq w k0)), (1, .int y18_1)] → W pg l en (rmL 2) s m ar bl me cd H lo 0 0 (Zv w bl ar s post) (F0 m 18 ls []) := by
    intro n
    induction n with
    | zero => intro H lo v_18 I y18_1 hy18_1 rB18_Z hF hm; exact absurd hm (Nat.not_lt_zero _)
    | succ n ih_18 =>
      intro H lo v_18 I y18_1 hy18_1 rB18_Z hF hm ls hl
      replace hF := lpa2 eP_18 hF
      refine lv_iload_n hx hb dX5_takeToken_18 rfl (lv_at hl 1 rfl) ?_
      refine lv_sipush (v := 160) hx hb dX5_takeToken_19 (by decide) ?_
      refine bi_ge E (a := y18_1.toInt) (b := 160) rfl rfl (tgt := 56) dX5_takeToken_22 (by decide) (fun c60 => ?_) (fun c60 => ?_)
      ·
        replace hF := if_l c60 hF
        exact B_56 _ _ v_18 I  rB18_Z hF ls (lv_sub hl [0] rfl)
      ·
        replace hF := if_t c60 hF
        refine lv_aload_n hx hb dX5_takeToken_25 rfl (lv_at hl 0 rfl) ?_
        refine lv_aload_n hx hb dX5_takeToken_26 rfl (lv_at hl 0 rfl) ?_
        refine g_Tape_first E I h_k0.1 mw_1_175 dX5_takeToken_27 ?_
        refine lv_topi (fun x61 ex61 => ?_)
        replace hF := xl_i (ex61) hF
        refine cVi E I (c_X5_byteAt l w g v_18 k0 x61 E.2.2.1 I.2.2 h_k0  ) (cwV 1 E.1.2.2.2.2 (gWs (C := "StarWalk$Tape") mw_2_127 mw_2_129 mw_s_1 mw_1_2 mw_2_130) rfl rfl rfl (by decide +kernel) ⟨by decide, by decide⟩) h_k0.1.1 ((ce_o h_k0.1.2).trans rfl) rfl rfl hl.1 rfl (Nat.le_of_ble_eq_true rfl) dX5_takeToken_30 ⟨Nat.le_refl _, Nat.le_refl _⟩ (fun r62 u63 H lo hp hPS => ?_)
        obtain ⟨hp, hex, hfr⟩ := hp
        replace hF := xl_i hex hF
        obtain ⟨hu, p64⟩ := hp
        rw [hu] at hPS
        have I : Wo w g s.heap v_18 H lo := ⟨hPS.1, hPS.2, I.2.2⟩
        refine cSi E I (c_X5_kindOf l w g v_18 r62 E.2.2.1 I.2.2   ) (va_cwS 1 E.1.2.2.2.2 (gSs mw_2_131 mw_2_132 mw_1_2 mw_2_133) rfl rfl rfl (by decide +kernel) ⟨by decide, by decide⟩) rfl hl.1 rfl (Nat.le_of_ble_eq_true rfl) dX5_takeToken_33 ⟨Nat.le_refl _, Nat.le_refl _⟩ (fun r65 u66 H lo hp hPS => ?_)
        obtain ⟨hp, hex, hfr⟩ := hp
        replace hF := xl_i hex hF
        obtain ⟨hu, p67⟩ := hp
        rw [hu] at hPS
        have I : Wo w g s.heap v_18 H lo := ⟨hPS.1, hPS.2, I.2.2⟩
        refine lv_iconst (v := 4) hx hb dX5_takeToken_36 (by decide) ?_
        refine bi_ne E (a := r65.toInt) (b := 4) rfl rfl (tgt := 56) dX5_takeToken_37 (by decide) (fun c68 => ?_) (fun c68 => ?_)
        ·
          replace hF := if_f c68 hF
          exact B_56 _ _ v_18 I  rB18_Z hF ls (lv_sub hl [0] rfl)
        ·
          replace hF := if_t c68 hF
          refine lv_aload_n hx hb dX5_takeToken_40 rfl (lv_at hl 0 rfl) ?_
          refine lv_dup hx hb dX5_takeToken_41 rfl ?_
          refine g_Tape_first E I h_k0.1 mw_1_175 dX5_takeToken_42 ?_
          refine lv_topi (fun x69 ex69 => ?_)
          replace hF := xl_i (ex69) hF
          refine lv_iconst (v := 1) hx hb dX5_takeToken_45 (by decide) ?_
          refine lv_iadd hx hb dX5_takeToken_46 ?_
          refine lv_topi (fun x70 ex70 => ?_)
          replace hF := xl_i (ex70) hF
          refine p_Tape_first E I h_k0.1 mw_1_175 dX5_takeToken_47 (fun H lo I => ?_)
          generalize ev71 : up1 v_18 k0 4 x70 = v71 at I
          replace hF := xl_i (ev71.symm) hF
          have rzv71 : ∀ k j : Nat, ¬ (k = k0 ∧ 3 ≤ j ∧ ¬ j = 7) → v71.1 k j = v.1 k j := fun k j h => fz_u ev71 (by omega) (rB18_Z k j h)
          obtain ⟨x72, ex72⟩ : ∃ z : Int32, z = y18_1 + 1 := ⟨_, rfl⟩
          replace hF := xl_i (ex72) hF
          have hx72 : x72.toInt = y18_1.toInt + (1) := by rw [ex72]; exact adI (a := y18_1.toInt) (b := 1) rfl rfl (by omega) (by omega)
          refine lv_iinc (v := x72) (lv' := [(1, .int x72), (0, .ref (wq w k0))]) hx hb dX5_takeToken_50 hl (k := 1) rfl (by rw [ex72]; rfl) (by decide) rfl (fun ls hl => ?_)
          refine lv_goto (tgt := 18) hx hb dX5_takeToken_53 (by decide) ?_
          exact ih_18 _ _ v71 I x72 (by omega) rzv71 hF (by omega) ls (lv_sub hl [1, 0] rfl)
  refine lv_aload_n hx hb dX5_takeToken_0 rfl (lv_at hl 0 rfl) ?_
  refine g_Tape_found E I h_k0.1 mw_1_179 dX5_takeToken_1 ?_
  refine lv_topi (fun x73 ex73 => ?_)
  replace hF := xl_i (ex73) hF
  refine bz_eq E (a := x73.toInt) rfl (tgt := 8) dX5_takeToken_4 (by decide) (fun c74 => ?_) (fun c74 => ?_)
  ·
    replace hF := if_t c74 hF
    refine lv_aload_n hx hb dX5_takeToken_8 rfl (lv_at hl 0 rfl) ?_
    refine lv_aload_n hx hb dX5_takeToken_9 rfl (lv_at hl 0 rfl) ?_
    refine g_Tape_behind E I h_k0.1 mw_1_176 dX5_takeToken_10 ?_
    refine lv_topi (fun x75 ex75 => ?_)
    replace hF := xl_i (ex75) hF
    refine p_Tape_first E I h_k0.1 mw_1_175 dX5_takeToken_13 (fun H lo I => ?_)
    generalize ev76 : up1 v k0 4 x75 = v76 at I
    replace hF := xl_i (ev76.symm) hF
    have rzv76 : ∀ k j : Nat, ¬ (k = k0 ∧ 3 ≤ j ∧ ¬ j = 7) → v76.1 k j = v.1 k j := fun k j h => fz_u ev76 (by omega) (rz0 k j h)
    refine lv_iconst (v := 0) hx hb dX5_takeToken_16 (by decide) ?_
    refine lv_istore_n (lv' := [(1, .int 0), (0, .ref (wq w k0))]) hx hb dX5_takeToken_17 rfl hl (by decide) rfl (fun ls hl => ?_)
    exact L_18 ((2147483647 - (0 : Int32).toInt).toNat + 1) _ _ v76 I (0 : Int32) (by decide) rzv76 hF (Nat.lt_succ_self _) ls (lv_sub hl [1, 0] rfl)
  ·
    replace hF := if_f c74 hF
    exact rV E I hr hlk (by rw [← hpost]; exact ⟨⟨I.2.2, trivial⟩, hF.trans hres, rz0⟩) dX5_takeToken_7
def F_X5_need (k0 : Nat) (a0 : Int32) (v : St) : St :=
xl (v.1 k0 3) fun x1 =>
if x1.toInt = a0.toInt then (
v) else (
xl (v.1 k0 4) fun x3 =>
xl (F_X5_refuse k0 (2 : Int32) x3 v) fun u4 =>
u4)
set_option maxHeartbeats 4000000 in
set_option maxRecDepth 100000 in
theorem c_X5_need (l : Launch) (w : Wp) (g : Nat → Nat → Int32) (v : St) (k0 : Nat) (a0 : Int32) (hq : Inj w) (hw : WF (wk w) g v) (h_k0 : oT w k0) : CTv w l yX5_need (wsy yX5_need prog_7_method_18_code 2 none) (rmL 2) [.ref (wq w k0), .int a0] v (fun (u : St) => (WF (wk w) g u ∧ True) ∧ (u = F_X5_need k0 a0 v) ∧ (∀ k j : Nat, ¬ (k = k0 ∧ 8 ≤ j ∧ j ≤ 9) → u.1 k j = v.1 k j)) := by
  generalize hpost : (fun (u : St) => (WF (wk w) g u ∧ True) ∧ (u = F_X5_need k0 a0 v) ∧ (∀ k j : Nat, ¬ (k = k0 ∧ 8 ≤ j ∧ j ≤ 9) → u.1 k j = v.1 k j)) = post
  refine CTv.of prog_7_method_18_code 2 none "StarWalk$Tape" (by decide +kernel) rfl hq hw (Nat.le_of_ble_eq_true rfl) ?_
  intro pg en s m ar bl me cd ls E I hr hlk hl
  have hx := E.1.1
  have hb := E.1.2.1
  have hl : lv_has ls 2 [(0, .ref (wq w k0)), (1, .int a0)] := hl
  obtain ⟨res, hres⟩ : ∃ z, z = F_X5_need k0 a0 v := ⟨_, rfl⟩
  have hF := hres.symm
  unfold F_X5_need at hF
  replace hres : res = F_X5_need k0 a0 v := hres
  have rz0 : ∀ k j : Nat, ¬ (k = k0 ∧ 8 ≤ j ∧ j ≤ 9) → v.1 k j = v.1 k j := fun _ _ _ => rfl
  refine lv_aload_n hx hb dX5_need_0 rfl (lv_at hl 0 rfl) ?_
  refine g_Tape_kind E I h_k0.1 mw_1_174 dX5_need_1 ?_
  refine lv_topi (fun x1 ex1 => ?_)
  replace hF := xl_i (ex1) hF
  refine lv_iload_n hx hb dX5_need_4 rfl (lv_at hl 1 rfl) ?_
  refine bi_eq E (a := x1.toInt) (b := a0.toInt) rfl rfl (tgt := 17) dX5_need_5 (by decide) (fun c2 => ?_) (fun c2 => ?_)
  ·
    replace hF := if_t c2 hF
    exact rV E I hr hlk (by rw [← hpost]; exact ⟨⟨I.2.2, trivial⟩, hF.trans hres, rz0⟩) dX5_need_17
  ·
    replace hF := if_f c2 hF
    refine lv_aload_n hx hb dX5_need_8 rfl (lv_at hl 0 rfl) ?_
    refine lv_iconst (v := 2) hx hb dX5_need_9 (by decide) ?_
    refine lv_aload_n hx hb dX5_need_10 rfl (lv_at hl 0 rfl) ?_
    refine g_Tape_first E I h_k0.1 mw_1_175 dX5_need_11 ?_
    refine lv_topi (fun x3 ex3 => ?_)
    replace hF := xl_i (ex3) hF
    refine cVv E I (c_X5_refuse l w g v k0 (2 : Int32) x3 E.2.2.1 I.2.2 h_k0  ) (cwV 2 E.1.2.2.2.2 (gWs (C := "StarWalk$Tape") mw_2_134 mw_2_136 mw_s_2 mw_1_2 mw_2_137) rfl rfl rfl (by decide +kernel) ⟨by decide, by decide⟩) h_k0.1.1 ((ce_o h_k0.1.2).trans rfl) rfl rfl hl.1 rfl (Nat.le_of_ble_eq_true rfl) dX5_need_14 ⟨Nat.le_refl _, Nat.le_refl _⟩ (fun u4 H lo hp hPS => ?_)
    obtain ⟨hp, hex, hfr⟩ := hp
    replace hF := xl_i hex hF
    obtain ⟨hwf, p5⟩ := hp
    have I : Wo w g s.heap u4 H lo := ⟨hPS.1, hPS.2, hwf⟩
    have rzu4 : ∀ k j : Nat, ¬ (k = k0 ∧ 8 ≤ j ∧ j ≤ 9) → u4.1 k j = v.1 k j := fun k j h => (hfr k j (fun z => h (by omega))).trans (rz0 k j h)
    exact rV E I hr hlk (by rw [← hpost]; exact ⟨⟨I.2.2, trivial⟩, hF.trans hres, rzu4⟩) dX5_need_17
def F_X5_needWithin (k0 : Nat) (a0 : Int32) (a1 : Int32) (v : St) : St :=
xl (xl (v.1 k0 4) fun x1 =>
xl (F_X5_refuse k0 (3 : Int32) x1 v) fun u2 =>
u2) fun J_16 =>
xl (v.1 k0 6) fun x4 =>
if x4.toInt < a0.toInt then (
(J_16 )) else (
xl (v.1 k0 6) fun x6 =>
if a1.toInt < x6.toInt then (
(J_16 )) else (
v))
set_option maxHeartbeats 4000000 in
set_option maxRecDepth 100000 in
theorem c_X5_needWithin (l : Launch) (w : Wp) (g : Nat → Nat → Int32) (v : St) (k0 : Nat) (a0 : Int32) (a1 : Int32) (hq : Inj w) (hw : WF (wk w) g v) (h_k0 : oT w k0) : CTv w l yX5_needWithin (wsy yX5_needWithin prog_7_method_19_code 3 none) (rmL 2) [.ref (wq w k0), .int a0, .int a1] v (fun (u : St) => (WF (wk w) g u ∧ True) ∧ (u = F_X5_needWithin k0 a0 a1 v) ∧ (∀ k j : Nat, ¬ (k = k0 ∧ 8 ≤ j ∧ j ≤ 9) → u.1 k j = v.1 k j)) := by
  generalize hpost : (fun (u : St) => (WF (wk w) g u ∧ True) ∧ (u = F_X5_needWithin k0 a0 a1 v) ∧ (∀ k j : Nat, ¬ (k = k0 ∧ 8 ≤ j ∧ j ≤ 9) → u.1 k j = v.1 k j)) = post
  refine CTv.of prog_7_method_19_code 3 none "StarWalk$Tape" (by decide +kernel) rfl hq hw (Nat.le_of_ble_eq_true rfl) ?_
  intro pg en s m ar bl me cd ls E I hr hlk hl
  have hx := E.1.1
  have hb := E.1.2.1
  have hl : lv_has ls 3 [(0, .ref (wq w k0)), (1, .int a0), (2, .int a1)] := hl
  obtain ⟨res, hres⟩ : ∃ z, z = F_X5_needWithin k0 a0 a1 v := ⟨_, rfl⟩
  have hF := hres.symm
  unfold F_X5_needWithin at hF
  replace hres : res = F_X5_needWithin k0 a0 a1 v := hres
  have rz0 : ∀ k j : Nat, ¬ (k = k0 ∧ 8 ≤ j ∧ j ≤ 9) → v.1 k j = v.1 k j := fun _ _ _ => rfl
  obtain ⟨J_16, eJ_16, hF⟩ := xl_e hF
  have B_16 : ∀ (H : Heap) (lo : List Loc), Wo w g s.heap v H lo → (∀ k j : Nat, ¬ (k = k0 ∧ 8 ≤ j ∧ j ≤ 9) → v.1 k j = v.1 k j) → (J_16  = res) → ∀ (ls : Array Slot), lv_has ls 3 [(0, .ref (wq w k0))] → W pg l en (rmL 2) s m ar bl me cd H lo 0 0 (Zv w bl ar s post) (F0 m 16 ls []) := by
    intro H lo  I  rB16_Z hF ls hl
    replace hF := ap0 eJ_16 hF
    refine lv_aload_n hx hb dX5_needWithin_16 rfl (lv_at hl 0 rfl) ?_
    refine lv_iconst (v := 3) hx hb dX5_needWithin_17 (by decide) ?_
    refine lv_aload_n hx hb dX5_needWithin_18 rfl (lv_at hl 0 rfl) ?_
    refine g_Tape_first E I h_k0.1 mw_1_175 dX5_needWithin_19 ?_
    refine lv_topi (fun x1 ex1 => ?_)
    replace hF := xl_i (ex1) hF
    refine cVv E I (c_X5_refuse l w g v k0 (3 : Int32) x1 E.2.2.1 I.2.2 h_k0  ) (cwV 2 E.1.2.2.2.2 (gWs (C := "StarWalk$Tape") mw_2_134 mw_2_136 mw_s_2 mw_1_2 mw_2_137) rfl rfl rfl (by decide +kernel) ⟨by decide, by decide⟩) h_k0.1.1 ((ce_o h_k0.1.2).trans rfl) rfl rfl hl.1 rfl (Nat.le_of_ble_eq_true rfl) dX5_needWithin_22 ⟨Nat.le_refl _, Nat.le_refl _⟩ (fun u2 H lo hp hPS => ?_)
    obtain ⟨hp, hex, hfr⟩ := hp
    replace hF := xl_i hex hF
    obtain ⟨hwf, p3⟩ := hp
    have I : Wo w g s.heap u2 H lo := ⟨hPS.1, hPS.2, hwf⟩
    have rzu2 : ∀ k j : Nat, ¬ (k = k0 ∧ 8 ≤ j ∧ j ≤ 9) → u2.1 k j = v.1 k j := fun k j h => (hfr k j (fun z => h (by omega))).trans (rB16_Z k j h)
    exact rV E I hr hlk (by rw [← hpost]; exact ⟨⟨I.2.2, trivial⟩, hF.trans hres, rzu2⟩) dX5_needWithin_25
  refine lv_aload_n hx hb dX5_needWithin_0 rfl (lv_at hl 0 rfl) ?_
  refine g_Tape_value E I h_k0.1 mw_1_177 dX5_needWithin_1 ?_
  refine lv_topi (fun x4 ex4 => ?_)
  replace hF := xl_i (ex4) hF
  refine lv_iload_n hx hb dX5_needWithin_4 rfl (lv_at hl 1 rfl) ?_
  refine bi_lt E (a := x4.toInt) (b := a0.toInt) rfl rfl (tgt := 16) dX5_needWithin_5 (by decide) (fun c5 => ?_) (fun c5 => ?_)
  ·
    have rgx4 := i32_rng x4
    have rga0 := i32_rng a0
    replace hF := if_t c5 hF
    exact B_16 _ _ I  rz0 hF ls (lv_sub hl [0] rfl)
  ·
    have rgx4 := i32_rng x4
    have rga0 := i32_rng a0
    replace hF := if_l c5 hF
    refine lv_aload_n hx hb dX5_needWithin_8 rfl (lv_at hl 0 rfl) ?_
    refine g_Tape_value E I h_k0.1 mw_1_177 dX5_needWithin_9 ?_
    refine lv_topi (fun x6 ex6 => ?_)
    replace hF := xl_i (ex6) hF
    refine lv_iload_n hx hb dX5_needWithin_12 rfl (lv_at hl 2 rfl) ?_
    refine bi_le E (a := x6.toInt) (b := a1.toInt) rfl rfl (tgt := 25) dX5_needWithin_13 (by decide) (fun c7 => ?_) (fun c7 => ?_)
    ·
      have rgx6 := i32_rng x6
      have rga1 := i32_rng a1
      replace hF := if_l c7 hF
      exact rV E I hr hlk (by rw [← hpost]; exact ⟨⟨I.2.2, trivial⟩, hF.trans hres, rz0⟩) dX5_needWithin_25
    ·
      have rgx6 := i32_rng x6
      have rga1 := i32_rng a1
      replace hF := if_t c7 hF
      exact B_16 _ _ I  rz0 hF ls (lv_sub hl [0] rfl)
def F_X5_tellOnce (k0 : Nat) (a0 : Int32) (v : St) : St :=
xl (fun (v_18 : St) =>
xl (v_18.1 k0 7) fun x1 =>
xl (x1 ||| a0) fun x2 =>
xl (up1 v_18 k0 7 x2) fun v3 =>
v3) fun J_18 =>
xl (v.1 k0 7) fun x4 =>
xl (x4 &&& a0) fun x5 =>
if x5.toInt = 0 then (
(J_18 v)) else (
xl (v.1 k0 4) fun x7 =>
xl (F_X5_refuse k0 (4 : Int32) x7 v) fun u8 =>
(J_18 u8))
set_option maxHeartbeats 4000000 in
set_option maxRecDepth 100000 in
theorem c_X5_tellOnce (l : Launch) (w : Wp) (g : Nat → Nat → Int32) (v : St) (k0 : Nat) (a0 : Int32) (hq : Inj w) (hw : WF (wk w) g v) (h_k0 : oT w k0) : CTv w l yX5_tellOnce (wsy yX5_tellOnce prog_7_method_15_code 2 none) (rmL 2) [.ref (wq w k0), .int a0] v (fun (u : St) => (WF (wk w) g u ∧ True) ∧ (u = F_X5_tellOnce k0 a0 v) ∧ (∀ k j : Nat, ¬ (k = k0 ∧ 7 ≤ j ∧ j ≤ 9) → u.1 k j = v.1 k j)) := by
  generalize hpost : (fun (u : St) => (WF (wk w) g u ∧ True) ∧ (u = F_X5_tellOnce k0 a0 v) ∧ (∀ k j : Nat, ¬ (k = k0 ∧ 7 ≤ j ∧ j ≤ 9) → u.1 k j = v.1 k j)) = post
  refine CTv.of prog_7_method_15_code 2 none "StarWalk$Tape" (by decide +kernel) rfl hq hw (Nat.le_of_ble_eq_true rfl) ?_
  intro pg en s m ar bl me cd ls E I hr hlk hl
  have hx := E.1.1
  have hb := E.1.2.1
  have hl : lv_has ls 2 [(0, .ref (wq w k0)), (1, .int a0)] := hl
  obtain ⟨res, hres⟩ : ∃ z, z = F_X5_tellOnce k0 a0 v := ⟨_, rfl⟩
  have hF := hres.symm
  unfold F_X5_tellOnce at hF
  replace hres : res = F_X5_tellOnce k0 a0 v := hres
  have rz0 : ∀ k j : Nat, ¬ (k = k0 ∧ 7 ≤ j ∧ j ≤ 9) → v.1 k j = v.1 k j := fun _ _ _ => rfl
  obtain ⟨J_18, eJ_18, hF⟩ := xl_e hF
  have B_18 : ∀ (H : Heap) (lo : List Loc) (v_18 : St), Wo w g s.heap v_18 H lo → (∀ k j : Nat, ¬ (k = k0 ∧ 7 ≤ j ∧ j ≤ 9) → v_18.1 k j = v.1 k j) → (J_18 v_18 = res) → ∀ (ls : Array Slot), lv_has ls 2 [(0, .ref (wq w k0)), (1, .int a0)] → W pg l en (rmL 2) s m ar bl me cd H lo 0 0 (Zv w bl ar s post) (F0 m 18 ls []) := by
    intro H lo v_18 I  rB18_Z hF ls hl
    replace hF := ap1 eJ_18 hF
    refine lv_aload_n hx hb dX5_tellOnce_18 rfl (lv_at hl 0 rfl) ?_
    refine lv_dup hx hb dX5_tellOnce_19 rfl ?_
    refine g_Tape_linesTold E I h_k0.1 mw_1_178 dX5_tellOnce_20 ?_
    refine lv_topi (fun x1 ex1 => ?_)
    replace hF := xl_i (ex1) hF
    refine lv_iload_n hx hb dX5_tellOnce_23 rfl (lv_at hl 1 rfl) ?_
    refine lv_ior hx hb dX5_tellOnce_24 ?_
    refine lv_topi (fun x2 ex2 => ?_)
    replace hF := xl_i (ex2) hF
    refine p_Tape_linesTold E I h_k0.1 mw_1_178 dX5_tellOnce_25 (fun H lo I => ?_)
    generalize ev3 : up1 v_18 k0 7 x2 = v3 at I
    replace hF := xl_i (ev3.symm) hF
    have rzv3 : ∀ k j : Nat, ¬ (k = k0 ∧ 7 ≤ j ∧ j ≤ 9) → v3.1 k j = v.1 k j := fun k j h => fz_u ev3 (by omega) (rB18_Z k j h)
    exact rV E I hr hlk (by rw [← hpost]; exact ⟨⟨I.2.2, trivial⟩, hF.trans hres, rzv3⟩) dX5_tellOnce_28
  refine lv_aload_n hx hb dX5_tellOnce_0 rfl (lv_at hl 0 rfl) ?_
  refine g_Tape_linesTold E I h_k0.1 mw_1_178 dX5_tellOnce_1 ?_
  refine lv_topi (fun x4 ex4 => ?_)
  replace hF := xl_i (ex4) hF
  refine lv_iload_n hx hb dX5_tellOnce_4 rfl (lv_at hl 1 rfl) ?_
  refine lv_iand hx hb dX5_tellOnce_5 ?_
  refine lv_topi (fun x5 ex5 => ?_)
  replace hF := xl_i (ex5) hF
  refine bz_eq E (a := x5.toInt) rfl (tgt := 18) dX5_tellOnce_6 (by decide) (fun c6 => ?_) (fun c6 => ?_)
  ·
    replace hF := if_t c6 hF
    exact B_18 _ _ v I  rz0 hF ls (lv_sub hl [0, 1] rfl)
  ·
    replace hF := if_f c6 hF
    refine lv_aload_n hx hb dX5_tellOnce_9 rfl (lv_at hl 0 rfl) ?_
    refine lv_iconst (v := 4) hx hb dX5_tellOnce_10 (by decide) ?_
    refine lv_aload_n hx hb dX5_tellOnce_11 rfl (lv_at hl 0 rfl) ?_
    refine g_Tape_first E I h_k0.1 mw_1_175 dX5_tellOnce_12 ?_
    refine lv_topi (fun x7 ex7 => ?_)
    replace hF := xl_i (ex7) hF
    refine cVv E I (c_X5_refuse l w g v k0 (4 : Int32) x7 E.2.2.1 I.2.2 h_k0  ) (cwV 2 E.1.2.2.2.2 (gWs (C := "StarWalk$Tape") mw_2_134 mw_2_136 mw_s_2 mw_1_2 mw_2_137) rfl rfl rfl (by decide +kernel) ⟨by decide, by decide⟩) h_k0.1.1 ((ce_o h_k0.1.2).trans rfl) rfl rfl hl.1 rfl (Nat.le_of_ble_eq_true rfl) dX5_tellOnce_15 ⟨Nat.le_refl _, Nat.le_refl _⟩ (fun u8 H lo hp hPS => ?_)
    obtain ⟨hp, hex, hfr⟩ := hp
    replace hF := xl_i hex hF
    obtain ⟨hwf, p9⟩ := hp
    have I : Wo w g s.heap u8 H lo := ⟨hPS.1, hPS.2, hwf⟩
    have rzu8 : ∀ k j : Nat, ¬ (k = k0 ∧ 7 ≤ j ∧ j ≤ 9) → u8.1 k j = v.1 k j := fun k j h => (hfr k j (fun z => h (by omega))).trans (rz0 k j h)
    exact B_18 _ _ u8 I  rzu8 hF ls (lv_sub hl [0, 1] rfl)
def F_X5_takeNumber (k0 : Nat) (a0 : Int32) (a1 : Int32) (v : St) : Int32 × St :=
xl (F_X5_takeToken k0 v) fun u1 =>
xl (F_X5_need k0 (2 : Int32) u1) fun u3 =>
xl (F_X5_needWithin k0 a0 a1 u3) fun u5 =>
xl (u5.1 k0 8) fun x7 =>
if x7.toInt = 0 then (
xl (u5.1 k0 6) fun x9 =>
(x9, u5)) else (
(a0, u5))
set_option maxHeartbeats 4000000 in
set_option maxRecDepth 100000 in
theorem c_X5_takeNumber (l : Launch) (w : Wp) (g : Nat → Nat → Int32) (v : St) (k0 : Nat) (a0 : Int32) (a1 : Int32) (hq : Inj w) (hw : WF (wk w) g v) (h_k0 : oT w k0) : CTi w l yX5_takeNumber (wsy yX5_takeNumber prog_7_method_16_code 3 (some .int)) (rmL 3) [.ref (wq w k0), .int a0, .int a1] v (fun (r : Int32) (u : St) => (WF (wk w) g u ∧ True) ∧ ((r, u) = F_X5_takeNumber k0 a0 a1 v) ∧ (∀ k j : Nat, ¬ (k = k0 ∧ 3 ≤ j ∧ ¬ j = 7) → u.1 k j = v.1 k j)) := by
  generalize hpost : (fun (r : Int32) (u : St) => (WF (wk w) g u ∧ True) ∧ ((r, u) = F_X5_takeNumber k0 a0 a1 v) ∧ (∀ k j : Nat, ¬ (k = k0 ∧ 3 ≤ j ∧ ¬ j = 7) → u.1 k j = v.1 k j)) = post
  refine CTi.of prog_7_method_16_code 3 (some .int) "StarWalk$Tape" (by decide +kernel) rfl hq hw (Nat.le_of_ble_eq_true rfl) ?_
  intro pg en s m ar bl me cd ls E I hr hlk hl
  have hx := E.1.1
  have hb := E.1.2.1
  have hl : lv_has ls 3 [(0, .ref (wq w k0)), (1, .int a0), (2, .int a1)] := hl
  obtain ⟨res, hres⟩ : ∃ z, z = F_X5_takeNumber k0 a0 a1 v := ⟨_, rfl⟩
  have hF := hres.symm
  unfold F_X5_takeNumber at hF
  replace hres : res = F_X5_takeNumber k0 a0 a1 v := hres
  have rz0 : ∀ k j : Nat, ¬ (k = k0 ∧ 3 ≤ j ∧ ¬ j = 7) → v.1 k j = v.1 k j := fun _ _ _ => rfl
  refine lv_aload_n hx hb dX5_takeNumber_0 rfl (lv_at hl 0 rfl) ?_
  refine cVv E I (c_X5_takeToken l w g v k0 E.2.2.1 I.2.2 h_k0  ) (cwV 0 E.1.2.2.2.2 (gWs (C := "StarWalk$Tape") mw_2_123 mw_2_125 mw_s_0 mw_1_2 mw_2_126) rfl rfl rfl (by decide +kernel) ⟨by decide, by decide⟩) h_k0.1.1 ((ce_o h_k0.1.2).trans rfl) rfl rfl hl.1 rfl (Nat.le_of_ble_eq_true rfl) dX5_takeNumber_1 ⟨Nat.le_refl _, Nat.le_refl _⟩ (fun u1 H lo hp hPS => ?_)
  obtain ⟨hp, hex, hfr⟩ := hp
  replace hF := xl_i hex hF
  obtain ⟨hwf, p2⟩ := hp
  have I : Wo w g s.heap u1 H lo := ⟨hPS.1, hPS.2, hwf⟩
  have rzu1 : ∀ k j : Nat, ¬ (k = k0 ∧ 3 ≤ j ∧ ¬ j = 7) → u1.1 k j = v.1 k j := fun k j h => (hfr k j (fun z => h (by omega))).trans (rz0 k j h)
  refine lv_aload_n hx hb dX5_takeNumber_4 rfl (lv_at hl 0 rfl) ?_
  refine lv_iconst (v := 2) hx hb dX5_takeNumber_5 (by decide) ?_
  refine cVv E I (c_X5_need l w g u1 k0 (2 : Int32) E.2.2.1 I.2.2 h_k0  ) (cwV 1 E.1.2.2.2.2 (gWs (C := "StarWalk$Tape") mw_2_203 mw_2_205 mw_s_7 mw_1_2 mw_2_206) rfl rfl rfl (by decide +kernel) ⟨by decide, by decide⟩) h_k0.1.1 ((ce_o h_k0.1.2).trans rfl) rfl rfl hl.1 rfl (Nat.le_of_ble_eq_true rfl) dX5_takeNumber_6 ⟨Nat.le_refl _, Nat.le_refl _⟩ (fun u3 H lo hp hPS => ?_)
  obtain ⟨hp, hex, hfr⟩ := hp
  replace hF := xl_i hex hF
  obtain ⟨hwf, p4⟩ := hp
  have I : Wo w g s.heap u3 H lo := ⟨hPS.1, hPS.2, hwf⟩
  have rzu3 : ∀ k j : Nat, ¬ (k = k0 ∧ 3 ≤ j ∧ ¬ j = 7) → u3.1 k j = v.1 k j := fun k j h => (hfr k j (fun z => h (by omega))).trans (rzu1 k j h)
  refine lv_aload_n hx hb dX5_takeNumber_9 rfl (lv_at hl 0 rfl) ?_
  refine lv_iload_n hx hb dX5_takeNumber_10 rfl (lv_at hl 1 rfl) ?_
  refine lv_iload_n hx hb dX5_takeNumber_11 rfl (lv_at hl 2 rfl) ?_
  refine cVv E I (c_X5_needWithin l w g u3 k0 a0 a1 E.2.2.1 I.2.2 h_k0  ) (cwV 2 E.1.2.2.2.2 (gWs (C := "StarWalk$Tape") mw_2_207 mw_2_209 mw_s_8 mw_1_2 mw_2_210) rfl rfl rfl (by decide +kernel) ⟨by decide, by decide⟩) h_k0.1.1 ((ce_o h_k0.1.2).trans rfl) rfl rfl hl.1 rfl (Nat.le_of_ble_eq_true rfl) dX5_takeNumber_12 ⟨Nat.le_refl _, Nat.le_refl _⟩ (fun u5 H lo hp hPS => ?_)
  obtain ⟨hp, hex, hfr⟩ := hp
  replace hF := xl_i hex hF
  obtain ⟨hwf, p6⟩ := hp
  have I : Wo w g s.heap u5 H lo := ⟨hPS.1, hPS.2, hwf⟩
  have rzu5 : ∀ k j : Nat, ¬ (k = k0 ∧ 3 ≤ j ∧ ¬ j = 7) → u5.1 k j = v.1 k j := fun k j h => (hfr k j (fun z => h (by omega))).trans (rzu3 k j h)
  refine lv_aload_n hx hb dX5_takeNumber_15 rfl (lv_at hl 0 rfl) ?_
  refine g_Tape_found E I h_k0.1 mw_1_179 dX5_takeNumber_16 ?_
  refine lv_topi (fun x7 ex7 => ?_)
  replace hF := xl_i (ex7) hF
  refine bz_ne E (a := x7.toInt) rfl (tgt := 29) dX5_takeNumber_19 (by decide) (fun c8 => ?_) (fun c8 => ?_)
  ·
    replace hF := if_f c8 hF
    refine lv_iload_n hx hb dX5_takeNumber_29 rfl (lv_at hl 1 rfl) ?_
    exact rI E I hr hlk rfl (by rw [← hpost]; exact ⟨⟨I.2.2, trivial⟩, hF.trans hres, rzu5⟩) dX5_takeNumber_30
  ·
    replace hF := if_t c8 hF
    refine lv_aload_n hx hb dX5_takeNumber_22 rfl (lv_at hl 0 rfl) ?_
    refine g_Tape_value E I h_k0.1 mw_1_177 dX5_takeNumber_23 ?_
    refine lv_topi (fun x9 ex9 => ?_)
    replace hF := xl_i (ex9) hF
    refine lv_goto (tgt := 30) hx hb dX5_takeNumber_26 (by decide) ?_
    exact rI E I hr hlk rfl (by rw [← hpost]; exact ⟨⟨I.2.2, trivial⟩, hF.trans hres, rzu5⟩) dX5_takeNumber_30
def F_X5_takeStop (k0 : Nat) (v : St) : St :=
xl (F_X5_takeToken k0 v) fun u1 =>
xl (F_X5_need k0 (3 : Int32) u1) fun u3 =>
u3
set_option maxHeartbeats 4000000 in
set_option maxRecDepth 100000 in
theorem c_X5_takeStop (l : Launch) (w : Wp) (g : Nat → Nat → Int32) (v : St) (k0 : Nat) (hq : Inj w) (hw : WF (wk w) g v) (h_k0 : oT w k0) : CTv w l yX5_takeStop (wsy yX5_takeStop prog_7_method_17_code 1 none) (rmL 3) [.ref (wq w k0)] v (fun (u : St) => (WF (wk w) g u ∧ True) ∧ (u = F_X5_takeStop k0 v) ∧ (∀ k j : Nat, ¬ (k = k0 ∧ 3 ≤ j ∧ ¬ j = 7) → u.1 k j = v.1 k j)) := by
  generalize hpost : (fun (u : St) => (WF (wk w) g u ∧ True) ∧ (u = F_X5_takeStop k0 v) ∧ (∀ k j : Nat, ¬ (k = k0 ∧ 3 ≤ j ∧ ¬ j = 7) → u.1 k j = v.1 k j)) = post
  refine CTv.of prog_7_method_17_code 1 none "StarWalk$Tape" (by decide +kernel) rfl hq hw (Nat.le_of_ble_eq_true rfl) ?_
  intro pg en s m ar bl me cd ls E I hr hlk hl
  have hx := E.1.1
  have hb := E.1.2.1
  have hl : lv_has ls 1 [(0, .ref (wq w k0))] := hl
  obtain ⟨res, hres⟩ : ∃ z, z = F_X5_takeStop k0 v := ⟨_, rfl⟩
  have hF := hres.symm
  unfold F_X5_takeStop at hF
  replace hres : res = F_X5_takeStop k0 v := hres
  have rz0 : ∀ k j : Nat, ¬ (k = k0 ∧ 3 ≤ j ∧ ¬ j = 7) → v.1 k j = v.1 k j := fun _ _ _ => rfl
  refine lv_aload_n hx hb dX5_takeStop_0 rfl (lv_at hl 0 rfl) ?_
  refine cVv E I (c_X5_takeToken l w g v k0 E.2.2.1 I.2.2 h_k0  ) (cwV 0 E.1.2.2.2.2 (gWs (C := "StarWalk$Tape") mw_2_123 mw_2_125 mw_s_0 mw_1_2 mw_2_126) rfl rfl rfl (by decide +kernel) ⟨by decide, by decide⟩) h_k0.1.1 ((ce_o h_k0.1.2).trans rfl) rfl rfl hl.1 rfl (Nat.le_of_ble_eq_true rfl) dX5_takeStop_1 ⟨Nat.le_refl _, Nat.le_refl _⟩ (fun u1 H lo hp hPS => ?_)
  obtain ⟨hp, hex, hfr⟩ := hp
  replace hF := xl_i hex hF
  obtain ⟨hwf, p2⟩ := hp
  have I : Wo w g s.heap u1 H lo := ⟨hPS.1, hPS.2, hwf⟩
  have rzu1 : ∀ k j : Nat, ¬ (k = k0 ∧ 3 ≤ j ∧ ¬ j = 7) → u1.1 k j = v.1 k j := fun k j h => (hfr k j (fun z => h (by omega))).trans (rz0 k j h)
  refine lv_aload_n hx hb dX5_takeStop_4 rfl (lv_at hl 0 rfl) ?_
  refine lv_iconst (v := 3) hx hb dX5_takeStop_5 (by decide) ?_
  refine cVv E I (c_X5_need l w g u1 k0 (3 : Int32) E.2.2.1 I.2.2 h_k0  ) (cwV 1 E.1.2.2.2.2 (gWs (C := "StarWalk$Tape") mw_2_203 mw_2_205 mw_s_7 mw_1_2 mw_2_206) rfl rfl rfl (by decide +kernel) ⟨by decide, by decide⟩) h_k0.1.1 ((ce_o h_k0.1.2).trans rfl) rfl rfl hl.1 rfl (Nat.le_of_ble_eq_true rfl) dX5_takeStop_6 ⟨Nat.le_refl _, Nat.le_refl _⟩ (fun u3 H lo hp hPS => ?_)
  obtain ⟨hp, hex, hfr⟩ := hp
  replace hF := xl_i hex hF
  obtain ⟨hwf, p4⟩ := hp
  have I : Wo w g s.heap u3 H lo := ⟨hPS.1, hPS.2, hwf⟩
  have rzu3 : ∀ k j : Nat, ¬ (k = k0 ∧ 3 ≤ j ∧ ¬ j = 7) → u3.1 k j = v.1 k j := fun k j h => (hfr k j (fun z => h (by omega))).trans (rzu1 k j h)
  exact rV E I hr hlk (by rw [← hpost]; exact ⟨⟨I.2.2, trivial⟩, hF.trans hres, rzu3⟩) dX5_takeStop_9
def F_X5_readStar (k0 : Nat) (v : St) : St :=
xl (fun (v_20 : St) =>
xm (F_X5_takeNumber k0 (0 : Int32) (9 : Int32) v_20) fun r1 u2 =>
xm (F_X5_takeNumber k0 r1 (9 : Int32) u2) fun r4 u5 =>
xm (F_X5_takeNumber k0 (0 : Int32) (6 : Int32) u5) fun r7 u8 =>
xl (F_X5_takeStop k0 u8) fun u10 =>
xl (u10.1 k0 8) fun x12 =>
if x12.toInt = 0 then (
xm (F_X0_addStar (k0 + 2) r1 r4 r7 u10) fun r14 u15 =>
u15) else (
u10)) fun J_20 =>
xl (v.1 (k0 + 2) 3) fun x17 =>
if x17.toInt < 5 then (
(J_20 v)) else (
xl (v.1 k0 4) fun x19 =>
xl (F_X5_refuse k0 (5 : Int32) x19 v) fun u20 =>
(J_20 u20))
set_option maxHeartbeats 4000000 in
set_option maxRecDepth 100000 in
theorem c_X5_readStar (l : Launch) (w : Wp) (g : Nat → Nat → Int32) (v : St) (k0 : Nat) (hq : Inj w) (hw : WF (wk w) g v) (h_k0 : oT w k0) : CTv w l yX5_readStar (wsy yX5_readStar prog_7_method_7_code 4 none) (rmL 4) [.ref (wq w k0)] v (fun (u : St) => (WF (wk w) g u ∧ True) ∧ (u = F_X5_readStar k0 v) ∧ (∀ k j : Nat, ¬ ((k = k0 ∧ ¬ j = 1) ∨ (k0 + 2 ≤ k ∧ k < k0 + 11)) → u.1 k j = v.1 k j)) := by
  generalize hpost : (fun (u : St) => (WF (wk w) g u ∧ True) ∧ (u = F_X5_readStar k0 v) ∧ (∀ k j : Nat, ¬ ((k = k0 ∧ ¬ j = 1) ∨ (k0 + 2 ≤ k ∧ k < k0 + 11)) → u.1 k j = v.1 k j)) = post
  refine CTv.of prog_7_method_7_code 4 none "StarWalk$Tape" (by decide +kernel) rfl hq hw (Nat.le_of_ble_eq_true rfl) ?_
  intro pg en s m ar bl me cd ls E I hr hlk hl
  have hx := E.1.1
  have hb := E.1.2.1
  have hl : lv_has ls 4 [(0, .ref (wq w k0))] := hl
  obtain ⟨res, hres⟩ : ∃ z, z = F_X5_readStar k0 v := ⟨_, rfl⟩
  have hF := hres.symm
  unfold F_X5_readStar at hF
  replace hres : res = F_X5_readStar k0 v := hres
  have rz0 : ∀ k j : Nat, ¬ ((k = k0 ∧ ¬ j = 1) ∨ (k0 + 2 ≤ k ∧ k < k0 + 11)) → v.1 k j = v.1 k j := fun _ _ _ => rfl
  obtain ⟨J_20, eJ_20, hF⟩ := xl_e hF
  have B_20 : ∀ (H : Heap) (lo : List Loc) (v_20 : St), Wo w g s.heap v_20 H lo → (∀ k j : Nat, ¬ ((k = k0 ∧ ¬ j = 1) ∨ (k0 + 2 ≤ k ∧ k < k0 + 11)) → v_20.1 k j = v.1 k j) → (J_20 v_20 = res) → ∀ (ls : Array Slot), lv_has ls 4 [(0, .ref (wq w k0))] → W pg l en (rmL 4) s m ar bl me cd H lo 0 0 (Zv w bl ar s post) (F0 m 20 ls []) := by
    intro H lo v_20 I  rB20_Z hF ls hl
    replace hF := ap1 eJ_20 hF
    refine lv_aload_n hx hb dX5_readStar_20 rfl (lv_at hl 0 rfl) ?_
    refine lv_iconst (v := 0) hx hb dX5_readStar_21 (by decide) ?_
    refine lv_bipush (v := 9) hx hb dX5_readStar_22 (by decide) ?_
    refine cVi E I (c_X5_takeNumber l w g v_20 k0 (0 : Int32) (9 : Int32) E.2.2.1 I.2.2 h_k0  ) (cwV 2 E.1.2.2.2.2 (gWs (C := "StarWalk$Tape") mw_2_199 mw_2_201 mw_s_6 mw_1_2 mw_2_202) rfl rfl rfl (by decide +kernel) ⟨by decide, by decide⟩) h_k0.1.1 ((ce_o h_k0.1.2).trans rfl) rfl rfl hl.1 rfl (Nat.le_of_ble_eq_true rfl) dX5_readStar_24 ⟨Nat.le_refl _, Nat.le_refl _⟩ (fun r1 u2 H lo hp hPS => ?_)
    obtain ⟨hp, hex, hfr⟩ := hp
    replace hF := xm_i hex hF
    obtain ⟨hwf, p3⟩ := hp
    have I : Wo w g s.heap u2 H lo := ⟨hPS.1, hPS.2, hwf⟩
    have rzu2 : ∀ k j : Nat, ¬ ((k = k0 ∧ ¬ j = 1) ∨ (k0 + 2 ≤ k ∧ k < k0 + 11)) → u2.1 k j = v.1 k j := fun k j h => (hfr k j (fun z => h (by omega))).trans (rB20_Z k j h)
    refine lv_istore_n (lv' := [(1, .int r1), (0, .ref (wq w k0))]) hx hb dX5_readStar_27 rfl hl (by decide) rfl (fun ls hl => ?_)
    refine lv_aload_n hx hb dX5_readStar_28 rfl (lv_at hl 1 rfl) ?_
    refine lv_iload_n hx hb dX5_readStar_29 rfl (lv_at hl 0 rfl) ?_
    refine lv_bipush (v := 9) hx hb dX5_readStar_30 (by decide) ?_
    refine cVi E I (c_X5_takeNumber l w g u2 k0 r1 (9 : Int32) E.2.2.1 I.2.2 h_k0  ) (cwV 2 E.1.2.2.2.2 (gWs (C := "StarWalk$Tape") mw_2_199 mw_2_201 mw_s_6 mw_1_2 mw_2_202) rfl rfl rfl (by decide +kernel) ⟨by decide, by decide⟩) h_k0.1.1 ((ce_o h_k0.1.2).trans rfl) rfl rfl hl.1 rfl (Nat.le_of_ble_eq_true rfl) dX5_readStar_32 ⟨Nat.le_refl _, Nat.le_refl _⟩ (fun r4 u5 H lo hp hPS => ?_)
    obtain ⟨hp, hex, hfr⟩ := hp
    replace hF := xm_i hex hF
    obtain ⟨hwf, p6⟩ := hp
    have I : Wo w g s.heap u5 H lo := ⟨hPS.1, hPS.2, hwf⟩
    have rzu5 : ∀ k j : Nat, ¬ ((k = k0 ∧ ¬ j = 1) ∨ (k0 + 2 ≤ k ∧ k < k0 + 11)) → u5.1 k j = v.1 k j := fun k j h => (hfr k j (fun z => h (by omega))).trans (rzu2 k j h)
    refine lv_istore_n (lv' := [(2, .int r4), (1, .int r1), (0, .ref (wq w k0))]) hx hb dX5_readStar_35 rfl hl (by decide) rfl (fun ls hl => ?_)
    refine lv_aload_n hx hb dX5_readStar_36 rfl (lv_at hl 2 rfl) ?_
    refine lv_iconst (v := 0) hx hb dX5_readStar_37 (by decide) ?_
    refine lv_bipush (v := 6) hx hb dX5_readStar_38 (by decide) ?_
    refine cVi E I (c_X5_takeNumber l w g u5 k0 (0 : Int32) (6 : Int32) E.2.2.1 I.2.2 h_k0  ) (cwV 2 E.1.2.2.2.2 (gWs (C := "StarWalk$Tape") mw_2_199 mw_2_201 mw_s_6 mw_1_2 mw_2_202) rfl rfl rfl (by decide +kernel) ⟨by decide, by decide⟩) h_k0.1.1 ((ce_o h_k0.1.2).trans rfl) rfl rfl hl.1 rfl (Nat.le_of_ble_eq_true rfl) dX5_readStar_40 ⟨Nat.le_refl _, Nat.le_refl _⟩ (fun r7 u8 H lo hp hPS => ?_)
    obtain ⟨hp, hex, hfr⟩ := hp
    replace hF := xm_i hex hF
    obtain ⟨hwf, p9⟩ := hp
    have I : Wo w g s.heap u8 H lo := ⟨hPS.1, hPS.2, hwf⟩
    have rzu8 : ∀ k j : Nat, ¬ ((k = k0 ∧ ¬ j = 1) ∨ (k0 + 2 ≤ k ∧ k < k0 + 11)) → u8.1 k j = v.1 k j := fun k j h => (hfr k j (fun z => h (by omega))).trans (rzu5 k j h)
    refine lv_istore_n (lv' := [(3, .int r7), (2, .int r4), (1, .int r1), (0, .ref (wq w k0))]) hx hb dX5_readStar_43 rfl hl (by decide) rfl (fun ls hl => ?_)
    refine lv_aload_n hx hb dX5_readStar_44 rfl (lv_at hl 3 rfl) ?_
    refine cVv E I (c_X5_takeStop l w g u8 k0 E.2.2.1 I.2.2 h_k0  ) (cwV 0 E.1.2.2.2.2 (gWs (C := "StarWalk$Tape") mw_2_211 mw_2_213 mw_s_9 mw_1_2 mw_2_214) rfl rfl rfl (by decide +kernel) ⟨by decide, by decide⟩) h_k0.1.1 ((ce_o h_k0.1.2).trans rfl) rfl rfl hl.1 rfl (Nat.le_of_ble_eq_true rfl) dX5_readStar_45 ⟨Nat.le_refl _, Nat.le_refl _⟩ (fun u10 H lo hp hPS => ?_)
    obtain ⟨hp, hex, hfr⟩ := hp
    replace hF := xl_i hex hF
    obtain ⟨hwf, p11⟩ := hp
    have I : Wo w g s.heap u10 H lo := ⟨hPS.1, hPS.2, hwf⟩
    have rzu10 : ∀ k j : Nat, ¬ ((k = k0 ∧ ¬ j = 1) ∨ (k0 + 2 ≤ k ∧ k < k0 + 11)) → u10.1 k j = v.1 k j := fun k j h => (hfr k j (fun z => h (by omega))).trans (rzu8 k j h)
    refine lv_aload_n hx hb dX5_readStar_48 rfl (lv_at hl 3 rfl) ?_
    refine g_Tape_found E I h_k0.1 mw_1_179 dX5_readStar_49 ?_
    refine lv_topi (fun x12 ex12 => ?_)
    replace hF := xl_i (ex12) hF
    refine bz_ne E (a := x12.toInt) rfl (tgt := 66) dX5_readStar_52 (by decide) (fun c13 => ?_) (fun c13 => ?_)
    ·
      replace hF := if_f c13 hF
      exact rV E I hr hlk (by rw [← hpost]; exact ⟨⟨I.2.2, trivial⟩, hF.trans hres, rzu10⟩) dX5_readStar_66
    ·
      replace hF := if_t c13 hF
      refine lv_aload_n hx hb dX5_readStar_55 rfl (lv_at hl 3 rfl) ?_
      refine g_Tape_draft E I h_k0.1 mw_1_172 dX5_readStar_56 ?_
      refine lv_iload_n hx hb dX5_readStar_59 rfl (lv_at hl 2 rfl) ?_
      refine lv_iload_n hx hb dX5_readStar_60 rfl (lv_at hl 1 rfl) ?_
      refine lv_iload_n hx hb dX5_readStar_61 rfl (lv_at hl 0 rfl) ?_
      refine cVi E I (c_X0_addStar l w g u10 (k0 + 2) r1 r4 r7 E.2.2.1 I.2.2 h_k0.2.2  ) (cwV 3 E.1.2.2.2.2 (gWs (C := "StarWalk$Night") mw_2_215 mw_2_216 mw_2_217 mw_1_3 mw_2_218) rfl rfl rfl (by decide +kernel) ⟨by decide, by decide⟩) h_k0.2.2.1.1 ((ce_o h_k0.2.2.1.2).trans rfl) rfl rfl hl.1 rfl (Nat.le_of_ble_eq_true rfl) dX5_readStar_62 ⟨Nat.le_refl _, Nat.le_refl _⟩ (fun r14 u15 H lo hp hPS => ?_)
      obtain ⟨hp, hex, hfr⟩ := hp
      replace hF := xm_i hex hF
      obtain ⟨hwf, p16⟩ := hp
      have I : Wo w g s.heap u15 H lo := ⟨hPS.1, hPS.2, hwf⟩
      have rzu15 : ∀ k j : Nat, ¬ ((k = k0 ∧ ¬ j = 1) ∨ (k0 + 2 ≤ k ∧ k < k0 + 11)) → u15.1 k j = v.1 k j := fun k j h => (hfr k j (fun z => h (by omega))).trans (rzu10 k j h)
      refine lv_pop hx hb dX5_readStar_65 rfl ?_
      exact rV E I hr hlk (by rw [← hpost]; exact ⟨⟨I.2.2, trivial⟩, hF.trans hres, rzu15⟩) dX5_readStar_66
  refine lv_aload_n hx hb dX5_readStar_0 rfl (lv_at hl 0 rfl) ?_
  refine g_Tape_draft E I h_k0.1 mw_1_172 dX5_readStar_1 ?_
  refine g_Night_stars E I h_k0.2.2.1 mw_1_84 dX5_readStar_4 ?_
  refine lv_topi (fun x17 ex17 => ?_)
  replace hF := xl_i (ex17) hF
  have hx17 := r_Night_stars I h_k0.2.2.1
  rw [← ex17] at hx17
  refine lv_iconst (v := 5) hx hb dX5_readStar_7 (by decide) ?_
  refine bi_lt E (a := x17.toInt) (b := 5) rfl rfl (tgt := 20) dX5_readStar_8 (by decide) (fun c18 => ?_) (fun c18 => ?_)
  ·
    replace hF := if_t c18 hF
    exact B_20 _ _ v I  rz0 hF ls (lv_sub hl [0] rfl)
  ·
    replace hF := if_l c18 hF
    refine lv_aload_n hx hb dX5_readStar_11 rfl (lv_at hl 0 rfl) ?_
    refine lv_iconst (v := 5) hx hb dX5_readStar_12 (by decide) ?_
    refine lv_aload_n hx hb dX5_readStar_13 rfl (lv_at hl 0 rfl) ?_
    refine g_Tape_first E I h_k0.1 mw_1_175 dX5_readStar_14 ?_
    refine lv_topi (fun x19 ex19 => ?_)
    replace hF := xl_i (ex19) hF
    refine cVv E I (c_X5_refuse l w g v k0 (5 : Int32) x19 E.2.2.1 I.2.2 h_k0  ) (cwV 2 E.1.2.2.2.2 (gWs (C := "StarWalk$Tape") mw_2_134 mw_2_136 mw_s_2 mw_1_2 mw_2_137) rfl rfl rfl (by decide +kernel) ⟨by decide, by decide⟩) h_k0.1.1 ((ce_o h_k0.1.2).trans rfl) rfl rfl hl.1 rfl (Nat.le_of_ble_eq_true rfl) dX5_readStar_17 ⟨Nat.le_refl _, Nat.le_refl _⟩ (fun u20 H lo hp hPS => ?_)
    obtain ⟨hp, hex, hfr⟩ := hp
    replace hF := xl_i hex hF
    obtain ⟨hwf, p21⟩ := hp
    have I : Wo w g s.heap u20 H lo := ⟨hPS.1, hPS.2, hwf⟩
    have rzu20 : ∀ k j : Nat, ¬ ((k = k0 ∧ ¬ j = 1) ∨ (k0 + 2 ≤ k ∧ k < k0 + 11)) → u20.1 k j = v.1 k j := fun k j h => (hfr k j (fun z => h (by omega))).trans (rz0 k j h)
    exact B_20 _ _ u20 I  rzu20 hF ls (lv_sub hl [0] rfl)
def F_X5_readKnown (k0 : Nat) (v : St) : St :=
xl (fun (y34_1 : Int32) (v_34 : St) =>
xl (F_X5_takeStop k0 v_34) fun u1 =>
xl (u1.1 k0 8) fun x3 =>
if x3.toInt = 0 then (
xl (u1.1 (k0 + 2) 4) fun x5 =>
xl (F_X7_withBit x5 y34_1 (1 : Int32) u1) fun r6 =>
xl (up1 u1 (k0 + 2) 4 r6) fun v9 =>
v9) else (
u1)) fun J_34 =>
xm (F_X5_takeNumber k0 (0 : Int32) (4 : Int32) v) fun r10 u11 =>
xl (u11.1 k0 8) fun x13 =>
if x13.toInt = 0 then (
xl (F_X0_isKnown (k0 + 2) r10 u11) fun r15 =>
if r15.toInt = 0 then (
(J_34 r10 u11)) else (
xl (u11.1 k0 4) fun x19 =>
xl (F_X5_refuse k0 (4 : Int32) x19 u11) fun u20 =>
(J_34 r10 u20))) else (
(J_34 r10 u11))
set_option maxHeartbeats 4000000 in
set_option maxRecDepth 100000 in
theorem c_X5_readKnown (l : Launch) (w : Wp) (g : Nat → Nat → Int32) (v : St) (k0 : Nat) (hq : Inj w) (hw : WF (wk w) g v) (h_k0 : oT w k0) : CTv w l yX5_readKnown (wsy yX5_readKnown prog_7_method_8_code 2 none) (rmL 4) [.ref (wq w k0)] v (fun (u : St) => (WF (wk w) g u ∧ True) ∧ (u = F_X5_readKnown k0 v) ∧ (∀ k j : Nat, ¬ ((k = k0 ∧ ¬ j = 1) ∨ (k0 + 2 ≤ k ∧ k < k0 + 11)) → u.1 k j = v.1 k j)) := by
  generalize hpost : (fun (u : St) => (WF (wk w) g u ∧ True) ∧ (u = F_X5_readKnown k0 v) ∧ (∀ k j : Nat, ¬ ((k = k0 ∧ ¬ j = 1) ∨ (k0 + 2 ≤ k ∧ k < k0 + 11)) → u.1 k j = v.1 k j)) = post
  refine CTv.of prog_7_method_8_code 2 none "StarWalk$Tape" (by decide +kernel) rfl hq hw (Nat.le_of_ble_eq_true rfl) ?_
  intro pg en s m ar bl me cd ls E I hr hlk hl
  have hx := E.1.1
  have hb := E.1.2.1
  have hl : lv_has ls 2 [(0, .ref (wq w k0))] := hl
  obtain ⟨res, hres⟩ : ∃ z, z = F_X5_readKnown k0 v := ⟨_, rfl⟩
  have hF := hres.symm
  unfold F_X5_readKnown at hF
  replace hres : res = F_X5_readKnown k0 v := hres
  have rz0 : ∀ k j : Nat, ¬ ((k = k0 ∧ ¬ j = 1) ∨ (k0 + 2 ≤ k ∧ k < k0 + 11)) → v.1 k j = v.1 k j := fun _ _ _ => rfl
  obtain ⟨J_34, eJ_34, hF⟩ := xl_e hF
  have B_34 : ∀ (H : Heap) (lo : List Loc) (v_34 : St), Wo w g s.heap v_34 H lo → ∀ (y34_1 : Int32), (∀ k j : Nat, ¬ ((k = k0 ∧ ¬ j = 1) ∨ (k0 + 2 ≤ k ∧ k < k0 + 11)) → v_34.1 k j = v.1 k j) → (J_34 y34_1 v_34 = res) → ∀ (ls : Array Slot), lv_has ls 2 [(0, .ref (wq w k0)), (1, .int y34_1)] → W pg l en (rmL 4) s m ar bl me cd H lo 0 0 (Zv w bl ar s post) (F0 m 34 ls []) := by
    intro H lo v_34 I y34_1 rB34_Z hF ls hl
    replace hF := ap2 eJ_34 hF
    refine lv_aload_n hx hb dX5_readKnown_34 rfl (lv_at hl 0 rfl) ?_
    refine cVv E I (c_X5_takeStop l w g v_34 k0 E.2.2.1 I.2.2 h_k0  ) (cwV 0 E.1.2.2.2.2 (gWs (C := "StarWalk$Tape") mw_2_211 mw_2_213 mw_s_9 mw_1_2 mw_2_214) rfl rfl rfl (by decide +kernel) ⟨by decide, by decide⟩) h_k0.1.1 ((ce_o h_k0.1.2).trans rfl) rfl rfl hl.1 rfl (Nat.le_of_ble_eq_true rfl) dX5_readKnown_35 ⟨Nat.le_refl _, Nat.le_refl _⟩ (fun u1 H lo hp hPS => ?_)
    obtain ⟨hp, hex, hfr⟩ := hp
    replace hF := xl_i hex hF
    obtain ⟨hwf, p2⟩ := hp
    have I : Wo w g s.heap u1 H lo := ⟨hPS.1, hPS.2, hwf⟩
    have rzu1 : ∀ k j : Nat, ¬ ((k = k0 ∧ ¬ j = 1) ∨ (k0 + 2 ≤ k ∧ k < k0 + 11)) → u1.1 k j = v.1 k j := fun k j h => (hfr k j (fun z => h (by omega))).trans (rB34_Z k j h)
    refine lv_aload_n hx hb dX5_readKnown_38 rfl (lv_at hl 0 rfl) ?_
    refine g_Tape_found E I h_k0.1 mw_1_179 dX5_readKnown_39 ?_
    refine lv_topi (fun x3 ex3 => ?_)
    replace hF := xl_i (ex3) hF
    refine bz_ne E (a := x3.toInt) rfl (tgt := 64) dX5_readKnown_42 (by decide) (fun c4 => ?_) (fun c4 => ?_)
    ·
      replace hF := if_f c4 hF
      exact rV E I hr hlk (by rw [← hpost]; exact ⟨⟨I.2.2, trivial⟩, hF.trans hres, rzu1⟩) dX5_readKnown_64
    ·
      replace hF := if_t c4 hF
      refine lv_aload_n hx hb dX5_readKnown_45 rfl (lv_at hl 0 rfl) ?_
      refine g_Tape_draft E I h_k0.1 mw_1_172 dX5_readKnown_46 ?_
      refine lv_aload_n hx hb dX5_readKnown_49 rfl (lv_at hl 0 rfl) ?_
      refine g_Tape_draft E I h_k0.1 mw_1_172 dX5_readKnown_50 ?_
      refine g_Night_known E I h_k0.2.2.1 mw_1_87 dX5_readKnown_53 ?_
      refine lv_topi (fun x5 ex5 => ?_)
      replace hF := xl_i (ex5) hF
      refine lv_iload_n hx hb dX5_readKnown_56 rfl (lv_at hl 1 rfl) ?_
      refine lv_iconst (v := 1) hx hb dX5_readKnown_57 (by decide) ?_
      refine cNi E I (c_X7_withBit l w g u1 x5 y34_1 (1 : Int32) E.2.2.1 I.2.2   ) ⟨va_cnB 3 E.1.2.2.2.2 (gYs mw_2_230) rfl rfl rfl (E.2.2.2.1.2.2.2.2.2.2.2.1) (Ew E mw_1_1 rfl) (by decide +kernel) ⟨by decide, by decide⟩, Ew E mw_2_229 rfl, trivial⟩ rfl hl.1 rfl (Nat.le_of_ble_eq_true rfl) dX5_readKnown_58 ⟨Nat.le_refl _, Nat.le_refl _⟩ (fun r6 u7 H lo hp hPS => ?_)
      obtain ⟨hp, hex, hfr⟩ := hp
      replace hF := xl_i hex hF
      obtain ⟨hu, p8⟩ := hp
      rw [hu] at hPS
      have I : Wo w g s.heap u1 H lo := ⟨hPS.1, hPS.2, I.2.2⟩
      refine p_Night_known E I h_k0.2.2.1 mw_1_87 dX5_readKnown_61 (fun H lo I => ?_)
      generalize ev9 : up1 u1 (k0 + 2) 4 r6 = v9 at I
      replace hF := xl_i (ev9.symm) hF
      have rzv9 : ∀ k j : Nat, ¬ ((k = k0 ∧ ¬ j = 1) ∨ (k0 + 2 ≤ k ∧ k < k0 + 11)) → v9.1 k j = v.1 k j := fun k j h => fz_u ev9 (by omega) (rzu1 k j h)
      exact rV E I hr hlk (by rw [← hpost]; exact ⟨⟨I.2.2, trivial⟩, hF.trans hres, rzv9⟩) dX5_readKnown_64
  refine lv_aload_n hx hb dX5_readKnown_0 rfl (lv_at hl 0 rfl) ?_
  refine lv_iconst (v := 0) hx hb dX5_readKnown_1 (by decide) ?_
  refine lv_iconst (v := 4) hx hb dX5_readKnown_2 (by decide) ?_
  refine cVi E I (c_X5_takeNumber l w g v k0 (0 : Int32) (4 : Int32) E.2.2.1 I.2.2 h_k0  ) (cwV 2 E.1.2.2.2.2 (gWs (C := "StarWalk$Tape") mw_2_199 mw_2_201 mw_s_6 mw_1_2 mw_2_202) rfl rfl rfl (by decide +kernel) ⟨by decide, by decide⟩) h_k0.1.1 ((ce_o h_k0.1.2).trans rfl) rfl rfl hl.1 rfl (Nat.le_of_ble_eq_true rfl) dX5_readKnown_3 ⟨Nat.le_refl _, Nat.le_refl _⟩ (fun r10 u11 H lo hp hPS => ?_)
  obtain ⟨hp, hex, hfr⟩ := hp
  replace hF := xm_i hex hF
  obtain ⟨hwf, p12⟩ := hp
  have I : Wo w g s.heap u11 H lo := ⟨hPS.1, hPS.2, hwf⟩
  have rzu11 : ∀ k j : Nat, ¬ ((k = k0 ∧ ¬ j = 1) ∨ (k0 + 2 ≤ k ∧ k < k0 + 11)) → u11.1 k j = v.1 k j := fun k j h => (hfr k j (fun z => h (by omega))).trans (rz0 k j h)
  refine lv_istore_n (lv' := [(1, .int r10), (0, .ref (wq w k0))]) hx hb dX5_readKnown_6 rfl hl (by decide) rfl (fun ls hl => ?_)
  refine lv_aload_n hx hb dX5_readKnown_7 rfl (lv_at hl 1 rfl) ?_
  refine g_Tape_found E I h_k0.1 mw_1_179 dX5_readKnown_8 ?_
  refine lv_topi (fun x13 ex13 => ?_)
  replace hF := xl_i (ex13) hF
  refine bz_ne E (a := x13.toInt) rfl (tgt := 34) dX5_readKnown_11 (by decide) (fun c14 => ?_) (fun c14 => ?_)
  ·
    replace hF := if_f c14 hF
    exact B_34 _ _ u11 I r10 rzu11 hF ls (lv_sub hl [1, 0] rfl)
  ·
    replace hF := if_t c14 hF
    refine lv_aload_n hx hb dX5_readKnown_14 rfl (lv_at hl 1 rfl) ?_
    refine g_Tape_draft E I h_k0.1 mw_1_172 dX5_readKnown_15 ?_
    refine lv_iload_n hx hb dX5_readKnown_18 rfl (lv_at hl 0 rfl) ?_
    refine cVi E I (c_X0_isKnown l w g u11 (k0 + 2) r10 E.2.2.1 I.2.2 h_k0.2.2  ) (cwV 1 E.1.2.2.2.2 (gWs (C := "StarWalk$Night") mw_2_224 mw_2_225 mw_2_226 mw_1_3 mw_2_227) rfl rfl rfl (by decide +kernel) ⟨by decide, by decide⟩) h_k0.2.2.1.1 ((ce_o h_k0.2.2.1.2).trans rfl) rfl rfl hl.1 rfl (Nat.le_of_ble_eq_true rfl) dX5_readKnown_19 ⟨Nat.le_refl _, Nat.le_refl _⟩ (fun r15 u16 H lo hp hPS => ?_)
    obtain ⟨hp, hex, hfr⟩ := hp
    replace hF := xl_i hex hF
    obtain ⟨hu, p17⟩ := hp
    rw [hu] at hPS
    have I : Wo w g s.heap u11 H lo := ⟨hPS.1, hPS.2, I.2.2⟩
    refine bz_eq E (a := r15.toInt) rfl (tgt := 34) dX5_readKnown_22 (by decide) (fun c18 => ?_) (fun c18 => ?_)
    ·
      replace hF := if_t c18 hF
      exact B_34 _ _ u11 I r10 rzu11 hF ls (lv_sub hl [1, 0] rfl)
    ·
      replace hF := if_f c18 hF
      refine lv_aload_n hx hb dX5_readKnown_25 rfl (lv_at hl 1 rfl) ?_
      refine lv_iconst (v := 4) hx hb dX5_readKnown_26 (by decide) ?_
      refine lv_aload_n hx hb dX5_readKnown_27 rfl (lv_at hl 1 rfl) ?_
      refine g_Tape_first E I h_k0.1 mw_1_175 dX5_readKnown_28 ?_
      refine lv_topi (fun x19 ex19 => ?_)
      replace hF := xl_i (ex19) hF
      refine cVv E I (c_X5_refuse l w g u11 k0 (4 : Int32) x19 E.2.2.1 I.2.2 h_k0  ) (cwV 2 E.1.2.2.2.2 (gWs (C := "StarWalk$Tape") mw_2_134 mw_2_136 mw_s_2 mw_1_2 mw_2_137) rfl rfl rfl (by decide +kernel) ⟨by decide, by decide⟩) h_k0.1.1 ((ce_o h_k0.1.2).trans rfl) rfl rfl hl.1 rfl (Nat.le_of_ble_eq_true rfl) dX5_readKnown_31 ⟨Nat.le_refl _, Nat.le_refl _⟩ (fun u20 H lo hp hPS => ?_)
      obtain ⟨hp, hex, hfr⟩ := hp
      replace hF := xl_i hex hF
      obtain ⟨hwf, p21⟩ := hp
      have I : Wo w g s.heap u20 H lo := ⟨hPS.1, hPS.2, hwf⟩
      have rzu20 : ∀ k j : Nat, ¬ ((k = k0 ∧ ¬ j = 1) ∨ (k0 + 2 ≤ k ∧ k < k0 + 11)) → u20.1 k j = v.1 k j := fun k j h => (hfr k j (fun z => h (by omega))).trans (rzu11 k j h)
      exact B_34 _ _ u20 I r10 rzu20 hF ls (lv_sub hl [1, 0] rfl)
def F_X5_readWell (k0 : Nat) (v : St) : St :=
xl (F_X5_tellOnce k0 (1 : Int32) v) fun u1 =>
xm (F_X5_takeNumber k0 (1 : Int32) (40 : Int32) u1) fun r3 u4 =>
xl (up1 u4 (k0 + 2) 8 r3) fun v6 =>
xm (F_X5_takeNumber k0 (0 : Int32) (9 : Int32) v6) fun r7 u8 =>
xl (up1 u8 (k0 + 2) 9 r7) fun v10 =>
xl (F_X5_takeStop k0 v10) fun u11 =>
u11
set_option maxHeartbeats 4000000 in
set_option maxRecDepth 100000 in
theorem c_X5_readWell (l : Launch) (w : Wp) (g : Nat → Nat → Int32) (v : St) (k0 : Nat) (hq : Inj w) (hw : WF (wk w) g v) (h_k0 : oT w k0) : CTv w l yX5_readWell (wsy yX5_readWell prog_7_method_10_code 1 none) (rmL 4) [.ref (wq w k0)] v (fun (u : St) => (WF (wk w) g u ∧ True) ∧ (u = F_X5_readWell k0 v) ∧ (∀ k j : Nat, ¬ ((k = k0 ∧ ¬ j = 1) ∨ (k0 + 2 ≤ k ∧ k < k0 + 11)) → u.1 k j = v.1 k j)) := by
  generalize hpost : (fun (u : St) => (WF (wk w) g u ∧ True) ∧ (u = F_X5_readWell k0 v) ∧ (∀ k j : Nat, ¬ ((k = k0 ∧ ¬ j = 1) ∨ (k0 + 2 ≤ k ∧ k < k0 + 11)) → u.1 k j = v.1 k j)) = post
  refine CTv.of prog_7_method_10_code 1 none "StarWalk$Tape" (by decide +kernel) rfl hq hw (Nat.le_of_ble_eq_true rfl) ?_
  intro pg en s m ar bl me cd ls E I hr hlk hl
  have hx := E.1.1
  have hb := E.1.2.1
  have hl : lv_has ls 1 [(0, .ref (wq w k0))] := hl
  obtain ⟨res, hres⟩ : ∃ z, z = F_X5_readWell k0 v := ⟨_, rfl⟩
  have hF := hres.symm
  unfold F_X5_readWell at hF
  replace hres : res = F_X5_readWell k0 v := hres
  have rz0 : ∀ k j : Nat, ¬ ((k = k0 ∧ ¬ j = 1) ∨ (k0 + 2 ≤ k ∧ k < k0 + 11)) → v.1 k j = v.1 k j := fun _ _ _ => rfl
  refine lv_aload_n hx hb dX5_readWell_0 rfl (lv_at hl 0 rfl) ?_
  refine lv_iconst (v := 1) hx hb dX5_readWell_1 (by decide) ?_
  refine cVv E I (c_X5_tellOnce l w g v k0 (1 : Int32) E.2.2.1 I.2.2 h_k0  ) (cwV 1 E.1.2.2.2.2 (gWs (C := "StarWalk$Tape") mw_3_8 mw_3_10 mw_s_13 mw_1_2 mw_3_11) rfl rfl rfl (by decide +kernel) ⟨by decide, by decide⟩) h_k0.1.1 ((ce_o h_k0.1.2).trans rfl) rfl rfl hl.1 rfl (Nat.le_of_ble_eq_true rfl) dX5_readWell_2 ⟨Nat.le_refl _, Nat.le_refl _⟩ (fun u1 H lo hp hPS => ?_)
  obtain ⟨hp, hex, hfr⟩ := hp
  replace hF := xl_i hex hF
  obtain ⟨hwf, p2⟩ := hp
  have I : Wo w g s.heap u1 H lo := ⟨hPS.1, hPS.2, hwf⟩
  have rzu1 : ∀ k j : Nat, ¬ ((k = k0 ∧ ¬ j = 1) ∨ (k0 + 2 ≤ k ∧ k < k0 + 11)) → u1.1 k j = v.1 k j := fun k j h => (hfr k j (fun z => h (by omega))).trans (rz0 k j h)
  refine lv_aload_n hx hb dX5_readWell_5 rfl (lv_at hl 0 rfl) ?_
  refine g_Tape_draft E I h_k0.1 mw_1_172 dX5_readWell_6 ?_
  refine lv_aload_n hx hb dX5_readWell_9 rfl (lv_at hl 0 rfl) ?_
  refine lv_iconst (v := 1) hx hb dX5_readWell_10 (by decide) ?_
  refine lv_bipush (v := 40) hx hb dX5_readWell_11 (by decide) ?_
  refine cVi E I (c_X5_takeNumber l w g u1 k0 (1 : Int32) (40 : Int32) E.2.2.1 I.2.2 h_k0  ) (cwV 2 E.1.2.2.2.2 (gWs (C := "StarWalk$Tape") mw_2_199 mw_2_201 mw_s_6 mw_1_2 mw_2_202) rfl rfl rfl (by decide +kernel) ⟨by decide, by decide⟩) h_k0.1.1 ((ce_o h_k0.1.2).trans rfl) rfl rfl hl.1 rfl (Nat.le_of_ble_eq_true rfl) dX5_readWell_13 ⟨Nat.le_refl _, Nat.le_refl _⟩ (fun r3 u4 H lo hp hPS => ?_)
  obtain ⟨hp, hex, hfr⟩ := hp
  replace hF := xm_i hex hF
  obtain ⟨hwf, p5⟩ := hp
  have I : Wo w g s.heap u4 H lo := ⟨hPS.1, hPS.2, hwf⟩
  have rzu4 : ∀ k j : Nat, ¬ ((k = k0 ∧ ¬ j = 1) ∨ (k0 + 2 ≤ k ∧ k < k0 + 11)) → u4.1 k j = v.1 k j := fun k j h => (hfr k j (fun z => h (by omega))).trans (rzu1 k j h)
  refine p_Night_wellMiles E I h_k0.2.2.1 mw_1_98 dX5_readWell_16 (fun H lo I => ?_)
  generalize ev6 : up1 u4 (k0 + 2) 8 r3 = v6 at I
  replace hF := xl_i (ev6.symm) hF
  have rzv6 : ∀ k j : Nat, ¬ ((k = k0 ∧ ¬ j = 1) ∨ (k0 + 2 ≤ k ∧ k < k0 + 11)) → v6.1 k j = v.1 k j := fun k j h => fz_u ev6 (by omega) (rzu4 k j h)
  refine lv_aload_n hx hb dX5_readWell_19 rfl (lv_at hl 0 rfl) ?_
  refine g_Tape_draft E I h_k0.1 mw_1_172 dX5_readWell_20 ?_
  refine lv_aload_n hx hb dX5_readWell_23 rfl (lv_at hl 0 rfl) ?_
  refine lv_iconst (v := 0) hx hb dX5_readWell_24 (by decide) ?_
  refine lv_bipush (v := 9) hx hb dX5_readWell_25 (by decide) ?_
  refine cVi E I (c_X5_takeNumber l w g v6 k0 (0 : Int32) (9 : Int32) E.2.2.1 I.2.2 h_k0  ) (cwV 2 E.1.2.2.2.2 (gWs (C := "StarWalk$Tape") mw_2_199 mw_2_201 mw_s_6 mw_1_2 mw_2_202) rfl rfl rfl (by decide +kernel) ⟨by decide, by decide⟩) h_k0.1.1 ((ce_o h_k0.1.2).trans rfl) rfl rfl hl.1 rfl (Nat.le_of_ble_eq_true rfl) dX5_readWell_27 ⟨Nat.le_refl _, Nat.le_refl _⟩ (fun r7 u8 H lo hp hPS => ?_)
  obtain ⟨hp, hex, hfr⟩ := hp
  replace hF := xm_i hex hF
  obtain ⟨hwf, p9⟩ := hp
  have I : Wo w g s.heap u8 H lo := ⟨hPS.1, hPS.2, hwf⟩
  have rzu8 : ∀ k j : Nat, ¬ ((k = k0 ∧ ¬ j = 1) ∨ (k0 + 2 ≤ k ∧ k < k0 + 11)) → u8.1 k j = v.1 k j := fun k j h => (hfr k j (fun z => h (by omega))).trans (rzv6 k j h)
  refine p_Night_broad E I h_k0.2.2.1 mw_1_101 dX5_readWell_30 (fun H lo I => ?_)
  generalize ev10 : up1 u8 (k0 + 2) 9 r7 = v10 at I
  replace hF := xl_i (ev10.symm) hF
  have rzv10 : ∀ k j : Nat, ¬ ((k = k0 ∧ ¬ j = 1) ∨ (k0 + 2 ≤ k ∧ k < k0 + 11)) → v10.1 k j = v.1 k j := fun k j h => fz_u ev10 (by omega) (rzu8 k j h)
  refine lv_aload_n hx hb dX5_readWell_33 rfl (lv_at hl 0 rfl) ?_
  refine cVv E I (c_X5_takeStop l w g v10 k0 E.2.2.1 I.2.2 h_k0  ) (cwV 0 E.1.2.2.2.2 (gWs (C := "StarWalk$Tape") mw_2_211 mw_2_213 mw_s_9 mw_1_2 mw_2_214) rfl rfl rfl (by decide +kernel) ⟨by decide, by decide⟩) h_k0.1.1 ((ce_o h_k0.1.2).trans rfl) rfl rfl hl.1 rfl (Nat.le_of_ble_eq_true rfl) dX5_readWell_34 ⟨Nat.le_refl _, Nat.le_refl _⟩ (fun u11 H lo hp hPS => ?_)
  obtain ⟨hp, hex, hfr⟩ := hp
  replace hF := xl_i hex hF
  obtain ⟨hwf, p12⟩ := hp
  have I : Wo w g s.heap u11 H lo := ⟨hPS.1, hPS.2, hwf⟩
  have rzu11 : ∀ k j : Nat, ¬ ((k = k0 ∧ ¬ j = 1) ∨ (k0 + 2 ≤ k ∧ k < k0 + 11)) → u11.1 k j = v.1 k j := fun k j h => (hfr k j (fun z => h (by omega))).trans (rzv10 k j h)
  exact rV E I hr hlk (by rw [← hpost]; exact ⟨⟨I.2.2, trivial⟩, hF.trans hres, rzu11⟩) dX5_readWell_37
def F_X5_readWind (k0 : Nat) (v : St) : St :=
xl (F_X5_tellOnce k0 (2 : Int32) v) fun u1 =>
xm (F_X5_takeNumber k0 (0 : Int32) (10 : Int32) u1) fun r3 u4 =>
xl (up1 u4 (k0 + 2) 10 r3) fun v6 =>
xl (F_X5_takeStop k0 v6) fun u7 =>
u7
set_option maxHeartbeats 4000000 in
set_option maxRecDepth 100000 in
theorem c_X5_readWind (l : Launch) (w : Wp) (g : Nat → Nat → Int32) (v : St) (k0 : Nat) (hq : Inj w) (hw : WF (wk w) g v) (h_k0 : oT w k0) : CTv w l yX5_readWind (wsy yX5_readWind prog_7_method_11_code 1 none) (rmL 4) [.ref (wq w k0)] v (fun (u : St) => (WF (wk w) g u ∧ True) ∧ (u = F_X5_readWind k0 v) ∧ (∀ k j : Nat, ¬ ((k = k0 ∧ ¬ j = 1) ∨ (k0 + 2 ≤ k ∧ k < k0 + 11)) → u.1 k j = v.1 k j)) := by
  generalize hpost : (fun (u : St) => (WF (wk w) g u ∧ True) ∧ (u = F_X5_readWind k0 v) ∧ (∀ k j : Nat, ¬ ((k = k0 ∧ ¬ j = 1) ∨ (k0 + 2 ≤ k ∧ k < k0 + 11)) → u.1 k j = v.1 k j)) = post
  refine CTv.of prog_7_method_11_code 1 none "StarWalk$Tape" (by decide +kernel) rfl hq hw (Nat.le_of_ble_eq_true rfl) ?_
  intro pg en s m ar bl me cd ls E I hr hlk hl
  have hx := E.1.1
  have hb := E.1.2.1
  have hl : lv_has ls 1 [(0, .ref (wq w k0))] := hl
  obtain ⟨res, hres⟩ : ∃ z, z = F_X5_readWind k0 v := ⟨_, rfl⟩
  have hF := hres.symm
  unfold F_X5_readWind at hF
  replace hres : res = F_X5_readWind k0 v := hres
  have rz0 : ∀ k j : Nat, ¬ ((k = k0 ∧ ¬ j = 1) ∨ (k0 + 2 ≤ k ∧ k < k0 + 11)) → v.1 k j = v.1 k j := fun _ _ _ => rfl
  refine lv_aload_n hx hb dX5_readWind_0 rfl (lv_at hl 0 rfl) ?_
  refine lv_iconst (v := 2) hx hb dX5_readWind_1 (by decide) ?_
  refine cVv E I (c_X5_tellOnce l w g v k0 (2 : Int32) E.2.2.1 I.2.2 h_k0  ) (cwV 1 E.1.2.2.2.2 (gWs (C := "StarWalk$Tape") mw_3_8 mw_3_10 mw_s_13 mw_1_2 mw_3_11) rfl rfl rfl (by decide +kernel) ⟨by decide, by decide⟩) h_k0.1.1 ((ce_o h_k0.1.2).trans rfl) rfl rfl hl.1 rfl (Nat.le_of_ble_eq_true rfl) dX5_readWind_2 ⟨Nat.le_refl _, Nat.le_refl _⟩ (fun u1 H lo hp hPS => ?_)
  obtain ⟨hp, hex, hfr⟩ := hp
  replace hF := xl_i hex hF
  obtain ⟨hwf, p2⟩ := hp
  have I : Wo w g s.heap u1 H lo := ⟨hPS.1, hPS.2, hwf⟩
  have rzu1 : ∀ k j : Nat, ¬ ((k = k0 ∧ ¬ j = 1) ∨ (k0 + 2 ≤ k ∧ k < k0 + 11)) → u1.1 k j = v.1 k j := fun k j h => (hfr k j (fun z => h (by omega))).trans (rz0 k j h)
  refine lv_aload_n hx hb dX5_readWind_5 rfl (lv_at hl 0 rfl) ?_
  refine g_Tape_draft E I h_k0.1 mw_1_172 dX5_readWind_6 ?_
  refine lv_aload_n hx hb dX5_readWind_9 rfl (lv_at hl 0 rfl) ?_
  refine lv_iconst (v := 0) hx hb dX5_readWind_10 (by decide) ?_
  refine lv_bipush (v := 10) hx hb dX5_readWind_11 (by decide) ?_
  refine cVi E I (c_X5_takeNumber l w g u1 k0 (0 : Int32) (10 : Int32) E.2.2.1 I.2.2 h_k0  ) (cwV 2 E.1.2.2.2.2 (gWs (C := "StarWalk$Tape") mw_2_199 mw_2_201 mw_s_6 mw_1_2 mw_2_202) rfl rfl rfl (by decide +kernel) ⟨by decide, by decide⟩) h_k0.1.1 ((ce_o h_k0.1.2).trans rfl) rfl rfl hl.1 rfl (Nat.le_of_ble_eq_true rfl) dX5_readWind_13 ⟨Nat.le_refl _, Nat.le_refl _⟩ (fun r3 u4 H lo hp hPS => ?_)
  obtain ⟨hp, hex, hfr⟩ := hp
  replace hF := xm_i hex hF
  obtain ⟨hwf, p5⟩ := hp
  have I : Wo w g s.heap u4 H lo := ⟨hPS.1, hPS.2, hwf⟩
  have rzu4 : ∀ k j : Nat, ¬ ((k = k0 ∧ ¬ j = 1) ∨ (k0 + 2 ≤ k ∧ k < k0 + 11)) → u4.1 k j = v.1 k j := fun k j h => (hfr k j (fun z => h (by omega))).trans (rzu1 k j h)
  refine p_Night_till E I h_k0.2.2.1 mw_1_104 dX5_readWind_16 (fun H lo I => ?_)
  generalize ev6 : up1 u4 (k0 + 2) 10 r3 = v6 at I
  replace hF := xl_i (ev6.symm) hF
  have rzv6 : ∀ k j : Nat, ¬ ((k = k0 ∧ ¬ j = 1) ∨ (k0 + 2 ≤ k ∧ k < k0 + 11)) → v6.1 k j = v.1 k j := fun k j h => fz_u ev6 (by omega) (rzu4 k j h)
  refine lv_aload_n hx hb dX5_readWind_19 rfl (lv_at hl 0 rfl) ?_
  refine cVv E I (c_X5_takeStop l w g v6 k0 E.2.2.1 I.2.2 h_k0  ) (cwV 0 E.1.2.2.2.2 (gWs (C := "StarWalk$Tape") mw_2_211 mw_2_213 mw_s_9 mw_1_2 mw_2_214) rfl rfl rfl (by decide +kernel) ⟨by decide, by decide⟩) h_k0.1.1 ((ce_o h_k0.1.2).trans rfl) rfl rfl hl.1 rfl (Nat.le_of_ble_eq_true rfl) dX5_readWind_20 ⟨Nat.le_refl _, Nat.le_refl _⟩ (fun u7 H lo hp hPS => ?_)
  obtain ⟨hp, hex, hfr⟩ := hp
  replace hF := xl_i hex hF
  obtain ⟨hwf, p8⟩ := hp
  have I : Wo w g s.heap u7 H lo := ⟨hPS.1, hPS.2, hwf⟩
  have rzu7 : ∀ k j : Nat, ¬ ((k = k0 ∧ ¬ j = 1) ∨ (k0 + 2 ≤ k ∧ k < k0 + 11)) → u7.1 k j = v.1 k j := fun k j h => (hfr k j (fun z => h (by omega))).trans (rzv6 k j h)
  exact rV E I hr hlk (by rw [← hpost]; exact ⟨⟨I.2.2, trivial⟩, hF.trans hres, rzu7⟩) dX5_readWind_23
def F_X5_readWater (k0 : Nat) (v : St) : St :=
xl (F_X5_tellOnce k0 (4 : Int32) v) fun u1 =>
xm (F_X5_takeNumber k0 (0 : Int32) (99 : Int32) u1) fun r3 u4 =>
xl (up1 u4 (k0 + 2 + 5) 3 r3) fun v6 =>
xl (F_X5_takeStop k0 v6) fun u7 =>
u7
set_option maxHeartbeats 4000000 in
set_option maxRecDepth 100000 in
theorem c_X5_readWater (l : Launch) (w : Wp) (g : Nat → Nat → Int32) (v : St) (k0 : Nat) (hq : Inj w) (hw : WF (wk w) g v) (h_k0 : oT w k0) : CTv w l yX5_readWater (wsy yX5_readWater prog_7_method_12_code 1 none) (rmL 4) [.ref (wq w k0)] v (fun (u : St) => (WF (wk w) g u ∧ True) ∧ (u = F_X5_readWater k0 v) ∧ (∀ k j : Nat, ¬ ((k = k0 ∧ ¬ j = 1) ∨ (k0 + 2 ≤ k ∧ k < k0 + 11)) → u.1 k j = v.1 k j)) := by
  generalize hpost : (fun (u : St) => (WF (wk w) g u ∧ True) ∧ (u = F_X5_readWater k0 v) ∧ (∀ k j : Nat, ¬ ((k = k0 ∧ ¬ j = 1) ∨ (k0 + 2 ≤ k ∧ k < k0 + 11)) → u.1 k j = v.1 k j)) = post
  refine CTv.of prog_7_method_12_code 1 none "StarWalk$Tape" (by decide +kernel) rfl hq hw (Nat.le_of_ble_eq_true rfl) ?_
  intro pg en s m ar bl me cd ls E I hr hlk hl
  have hx := E.1.1
  have hb := E.1.2.1
  have hl : lv_has ls 1 [(0, .ref (wq w k0))] := hl
  obtain ⟨res, hres⟩ : ∃ z, z = F_X5_readWater k0 v := ⟨_, rfl⟩
  have hF := hres.symm
  unfold F_X5_readWater at hF
  replace hres : res = F_X5_readWater k0 v := hres
  have rz0 : ∀ k j : Nat, ¬ ((k = k0 ∧ ¬ j = 1) ∨ (k0 + 2 ≤ k ∧ k < k0 + 11)) → v.1 k j = v.1 k j := fun _ _ _ => rfl
  refine lv_aload_n hx hb dX5_readWater_0 rfl (lv_at hl 0 rfl) ?_
  refine lv_iconst (v := 4) hx hb dX5_readWater_1 (by decide) ?_
  refine cVv E I (c_X5_tellOnce l w g v k0 (4 : Int32) E.2.2.1 I.2.2 h_k0  ) (cwV 1 E.1.2.2.2.2 (gWs (C := "StarWalk$Tape") mw_3_8 mw_3_10 mw_s_13 mw_1_2 mw_3_11) rfl rfl rfl (by decide +kernel) ⟨by decide, by decide⟩) h_k0.1.1 ((ce_o h_k0.1.2).trans rfl) rfl rfl hl.1 rfl (Nat.le_of_ble_eq_true rfl) dX5_readWater_2 ⟨Nat.le_refl _, Nat.le_refl _⟩ (fun u1 H lo hp hPS => ?_)
  obtain ⟨hp, hex, hfr⟩ := hp
  replace hF := xl_i hex hF
  obtain ⟨hwf, p2⟩ := hp
  have I : Wo w g s.heap u1 H lo := ⟨hPS.1, hPS.2, hwf⟩
  have rzu1 : ∀ k j : Nat, ¬ ((k = k0 ∧ ¬ j = 1) ∨ (k0 + 2 ≤ k ∧ k < k0 + 11)) → u1.1 k j = v.1 k j := fun k j h => (hfr k j (fun z => h (by omega))).trans (rz0 k j h)
  refine lv_aload_n hx hb dX5_readWater_5 rfl (lv_at hl 0 rfl) ?_
  refine g_Tape_draft E I h_k0.1 mw_1_172 dX5_readWater_6 ?_
  refine g_Night_place E I h_k0.2.2.1 mw_1_114 dX5_readWater_9 ?_
  refine lv_aload_n hx hb dX5_readWater_12 rfl (lv_at hl 0 rfl) ?_
  refine lv_iconst (v := 0) hx hb dX5_readWater_13 (by decide) ?_
  refine lv_bipush (v := 99) hx hb dX5_readWater_14 (by decide) ?_
  refine cVi E I (c_X5_takeNumber l w g u1 k0 (0 : Int32) (99 : Int32) E.2.2.1 I.2.2 h_k0  ) (cwV 2 E.1.2.2.2.2 (gWs (C := "StarWalk$Tape") mw_2_199 mw_2_201 mw_s_6 mw_1_2 mw_2_202) rfl rfl rfl (by decide +kernel) ⟨by decide, by decide⟩) h_k0.1.1 ((ce_o h_k0.1.2).trans rfl) rfl rfl hl.1 rfl (Nat.le_of_ble_eq_true rfl) dX5_readWater_16 ⟨Nat.le_refl _, Nat.le_refl _⟩ (fun r3 u4 H lo hp hPS => ?_)
  obtain ⟨hp, hex, hfr⟩ := hp
  replace hF := xm_i hex hF
  obtain ⟨hwf, p5⟩ := hp
  have I : Wo w g s.heap u4 H lo := ⟨hPS.1, hPS.2, hwf⟩
  have rzu4 : ∀ k j : Nat, ¬ ((k = k0 ∧ ¬ j = 1) ∨ (k0 + 2 ≤ k ∧ k < k0 + 11)) → u4.1 k j = v.1 k j := fun k j h => (hfr k j (fun z => h (by omega))).trans (rzu1 k j h)
  refine p_Place_water E I h_k0.2.2.2.2.2.2.2.1 mw_1_61 dX5_readWater_19 (fun H lo I => ?_)
  generalize ev6 : up1 u4 (k0 + 2 + 5) 3 r3 = v6 at I
  replace hF := xl_i (ev6.symm) hF
  have rzv6 : ∀ k j : Nat, ¬ ((k = k0 ∧ ¬ j = 1) ∨ (k0 + 2 ≤ k ∧ k < k0 + 11)) → v6.1 k j = v.1 k j := fun k j h => fz_u ev6 (by omega) (rzu4 k j h)
  refine lv_aload_n hx hb dX5_readWater_22 rfl (lv_at hl 0 rfl) ?_
  refine cVv E I (c_X5_takeStop l w g v6 k0 E.2.2.1 I.2.2 h_k0  ) (cwV 0 E.1.2.2.2.2 (gWs (C := "StarWalk$Tape") mw_2_211 mw_2_213 mw_s_9 mw_1_2 mw_2_214) rfl rfl rfl (by decide +kernel) ⟨by decide, by decide⟩) h_k0.1.1 ((ce_o h_k0.1.2).trans rfl) rfl rfl hl.1 rfl (Nat.le_of_ble_eq_true rfl) dX5_readWater_23 ⟨Nat.le_refl _, Nat.le_refl _⟩ (fun u7 H lo hp hPS => ?_)
  obtain ⟨hp, hex, hfr⟩ := hp
  replace hF := xl_i hex hF
  obtain ⟨hwf, p8⟩ := hp
  have I : Wo w g s.heap u7 H lo := ⟨hPS.1, hPS.2, hwf⟩
  have rzu7 : ∀ k j : Nat, ¬ ((k = k0 ∧ ¬ j = 1) ∨ (k0 + 2 ≤ k ∧ k < k0 + 11)) → u7.1 k j = v.1 k j := fun k j h => (hfr k j (fun z => h (by omega))).trans (rzv6 k j h)
  exact rV E I hr hlk (by rw [← hpost]; exact ⟨⟨I.2.2, trivial⟩, hF.trans hres, rzu7⟩) dX5_readWater_26
def F_X5_readCloud (k0 : Nat) (v : St) : St :=
xl (fun (y35_1 : Int32) (v_35 : St) =>
xl (F_X5_takeStop k0 v_35) fun u1 =>
xl (u1.1 k0 8) fun x3 =>
if x3.toInt = 0 then (
xl (u1.1 (k0 + 2) 11) fun x5 =>
xl (F_X7_withBit x5 y35_1 (1 : Int32) u1) fun r6 =>
xl (up1 u1 (k0 + 2) 11 r6) fun v9 =>
v9) else (
u1)) fun J_35 =>
xm (F_X5_takeNumber k0 (0 : Int32) (9 : Int32) v) fun r10 u11 =>
xl (u11.1 k0 8) fun x13 =>
if x13.toInt = 0 then (
xl (F_X0_isCloudy (k0 + 2) r10 u11) fun r15 =>
if r15.toInt = 0 then (
(J_35 r10 u11)) else (
xl (u11.1 k0 4) fun x19 =>
xl (F_X5_refuse k0 (4 : Int32) x19 u11) fun u20 =>
(J_35 r10 u20))) else (
(J_35 r10 u11))
set_option maxHeartbeats 4000000 in
set_option maxRecDepth 100000 in
theorem c_X5_readCloud (l : Launch) (w : Wp) (g : Nat → Nat → Int32) (v : St) (k0 : Nat) (hq : Inj w) (hw : WF (wk w) g v) (h_k0 : oT w k0) : CTv w l yX5_readCloud (wsy yX5_readCloud prog_7_method_13_code 2 none) (rmL 4) [.ref (wq w k0)] v (fun (u : St) => (WF (wk w) g u ∧ True) ∧ (u = F_X5_readCloud k0 v) ∧ (∀ k j : Nat, ¬ ((k = k0 ∧ ¬ j = 1) ∨ (k0 + 2 ≤ k ∧ k < k0 + 11)) → u.1 k j = v.1 k j)) := by
  generalize hpost : (fun (u : St) => (WF (wk w) g u ∧ True) ∧ (u = F_X5_readCloud k0 v) ∧ (∀ k j : Nat, ¬ ((k = k0 ∧ ¬ j = 1) ∨ (k0 + 2 ≤ k ∧ k < k0 + 11)) → u.1 k j = v.1 k j)) = post
  refine CTv.of prog_7_method_13_code 2 none "StarWalk$Tape" (by decide +kernel) rfl hq hw (Nat.le_of_ble_eq_true rfl) ?_
  intro pg en s m ar bl me cd ls E I hr hlk hl
  have hx := E.1.1
  have hb := E.1.2.1
  have hl : lv_has ls 2 [(0, .ref (wq w k0))] := hl
  obtain ⟨res, hres⟩ : ∃ z, z = F_X5_readCloud k0 v := ⟨_, rfl⟩
  have hF := hres.symm
  unfold F_X5_readCloud at hF
  replace hres : res = F_X5_readCloud k0 v := hres
  have rz0 : ∀ k j : Nat, ¬ ((k = k0 ∧ ¬ j = 1) ∨ (k0 + 2 ≤ k ∧ k < k0 + 11)) → v.1 k j = v.1 k j := fun _ _ _ => rfl
  obtain ⟨J_35, eJ_35, hF⟩ := xl_e hF
  have B_35 : ∀ (H : Heap) (lo : List Loc) (v_35 : St), Wo w g s.heap v_35 H lo → ∀ (y35_1 : Int32), (∀ k j : Nat, ¬ ((k = k0 ∧ ¬ j = 1) ∨ (k0 + 2 ≤ k ∧ k < k0 + 11)) → v_35.1 k j = v.1 k j) → (J_35 y35_1 v_35 = res) → ∀ (ls : Array Slot), lv_has ls 2 [(0, .ref (wq w k0)), (1, .int y35_1)] → W pg l en (rmL 4) s m ar bl me cd H lo 0 0 (Zv w bl ar s post) (F0 m 35 ls []) := by
    intro H lo v_35 I y35_1 rB35_Z hF ls hl
    replace hF := ap2 eJ_35 hF
    refine lv_aload_n hx hb dX5_readCloud_35 rfl (lv_at hl 0 rfl) ?_
    refine cVv E I (c_X5_takeStop l w g v_35 k0 E.2.2.1 I.2.2 h_k0  ) (cwV 0 E.1.2.2.2.2 (gWs (C := "StarWalk$Tape") mw_2_211 mw_2_213 mw_s_9 mw_1_2 mw_2_214) rfl rfl rfl (by decide +kernel) ⟨by decide, by decide⟩) h_k0.1.1 ((ce_o h_k0.1.2).trans rfl) rfl rfl hl.1 rfl (Nat.le_of_ble_eq_true rfl) dX5_readCloud_36 ⟨Nat.le_refl _, Nat.le_refl _⟩ (fun u1 H lo hp hPS => ?_)
    obtain ⟨hp, hex, hfr⟩ := hp
    replace hF := xl_i hex hF
    obtain ⟨hwf, p2⟩ := hp
    have I : Wo w g s.heap u1 H lo := ⟨hPS.1, hPS.2, hwf⟩
    have rzu1 : ∀ k j : Nat, ¬ ((k = k0 ∧ ¬ j = 1) ∨ (k0 + 2 ≤ k ∧ k < k0 + 11)) → u1.1 k j = v.1 k j := fun k j h => (hfr k j (fun z => h (by omega))).trans (rB35_Z k j h)
    refine lv_aload_n hx hb dX5_readCloud_39 rfl (lv_at hl 0 rfl) ?_
    refine g_Tape_found E I h_k0.1 mw_1_179 dX5_readCloud_40 ?_
    refine lv_topi (fun x3 ex3 => ?_)
    replace hF := xl_i (ex3) hF
    refine bz_ne E (a := x3.toInt) rfl (tgt := 65) dX5_readCloud_43 (by decide) (fun c4 => ?_) (fun c4 => ?_)
    ·
      replace hF := if_f c4 hF
      exact rV E I hr hlk (by rw [← hpost]; exact ⟨⟨I.2.2, trivial⟩, hF.trans hres, rzu1⟩) dX5_readCloud_65
    ·
      replace hF := if_t c4 hF
      refine lv_aload_n hx hb dX5_readCloud_46 rfl (lv_at hl 0 rfl) ?_
      refine g_Tape_draft E I h_k0.1 mw_1_172 dX5_readCloud_47 ?_
      refine lv_aload_n hx hb dX5_readCloud_50 rfl (lv_at hl 0 rfl) ?_
      refine g_Tape_draft E I h_k0.1 mw_1_172 dX5_readCloud_51 ?_
      refine g_Night_clouds E I h_k0.2.2.1 mw_1_108 dX5_readCloud_54 ?_
      refine lv_topi (fun x5 ex5 => ?_)
      replace hF := xl_i (ex5) hF
      refine lv_iload_n hx hb dX5_readCloud_57 rfl (lv_at hl 1 rfl) ?_
      refine lv_iconst (v := 1) hx hb dX5_readCloud_58 (by decide) ?_
      refine cNi E I (c_X7_withBit l w g u1 x5 y35_1 (1 : Int32) E.2.2.1 I.2.2   ) ⟨va_cnB 3 E.1.2.2.2.2 (gYs mw_2_230) rfl rfl rfl (E.2.2.2.1.2.2.2.2.2.2.2.1) (Ew E mw_1_1 rfl) (by decide +kernel) ⟨by decide, by decide⟩, Ew E mw_2_229 rfl, trivial⟩ rfl hl.1 rfl (Nat.le_of_ble_eq_true rfl) dX5_readCloud_59 ⟨Nat.le_refl _, Nat.le_refl _⟩ (fun r6 u7 H lo hp hPS => ?_)
      obtain ⟨hp, hex, hfr⟩ := hp
      replace hF := xl_i hex hF
      obtain ⟨hu, p8⟩ := hp
      rw [hu] at hPS
      have I : Wo w g s.heap u1 H lo := ⟨hPS.1, hPS.2, I.2.2⟩
      refine p_Night_clouds E I h_k0.2.2.1 mw_1_108 dX5_readCloud_62 (fun H lo I => ?_)
      generalize ev9 : up1 u1 (k0 + 2) 11 r6 = v9 at I
      replace hF := xl_i (ev9.symm) hF
      have rzv9 : ∀ k j : Nat, ¬ ((k = k0 ∧ ¬ j = 1) ∨ (k0 + 2 ≤ k ∧ k < k0 + 11)) → v9.1 k j = v.1 k j := fun k j h => fz_u ev9 (by omega) (rzu1 k j h)
      exact rV E I hr hlk (by rw [← hpost]; exact ⟨⟨I.2.2, trivial⟩, hF.trans hres, rzv9⟩) dX5_readCloud_65
  refine lv_aload_n hx hb dX5_readCloud_0 rfl (lv_at hl 0 rfl) ?_
  refine lv_iconst (v := 0) hx hb dX5_readCloud_1 (by decide) ?_
  refine lv_bipush (v := 9) hx hb dX5_readCloud_2 (by decide) ?_
  refine cVi E I (c_X5_takeNumber l w g v k0 (0 : Int32) (9 : Int32) E.2.2.1 I.2.2 h_k0  ) (cwV 2 E.1.2.2.2.2 (gWs (C := "StarWalk$Tape") mw_2_199 mw_2_201 mw_s_6 mw_1_2 mw_2_202) rfl rfl rfl (by decide +kernel) ⟨by decide, by decide⟩) h_k0.1.1 ((ce_o h_k0.1.2).trans rfl) rfl rfl hl.1 rfl (Nat.le_of_ble_eq_true rfl) dX5_readCloud_4 ⟨Nat.le_refl _, Nat.le_refl _⟩ (fun r10 u11 H lo hp hPS => ?_)
  obtain ⟨hp, hex, hfr⟩ := hp
  replace hF := xm_i hex hF
  obtain ⟨hwf, p12⟩ := hp
  have I : Wo w g s.heap u11 H lo := ⟨hPS.1, hPS.2, hwf⟩
  have rzu11 : ∀ k j : Nat, ¬ ((k = k0 ∧ ¬ j = 1) ∨ (k0 + 2 ≤ k ∧ k < k0 + 11)) → u11.1 k j = v.1 k j := fun k j h => (hfr k j (fun z => h (by omega))).trans (rz0 k j h)
  refine lv_istore_n (lv' := [(1, .int r10), (0, .ref (wq w k0))]) hx hb dX5_readCloud_7 rfl hl (by decide) rfl (fun ls hl => ?_)
  refine lv_aload_n hx hb dX5_readCloud_8 rfl (lv_at hl 1 rfl) ?_
  refine g_Tape_found E I h_k0.1 mw_1_179 dX5_readCloud_9 ?_
  refine lv_topi (fun x13 ex13 => ?_)
  replace hF := xl_i (ex13) hF
  refine bz_ne E (a := x13.toInt) rfl (tgt := 35) dX5_readCloud_12 (by decide) (fun c14 => ?_) (fun c14 => ?_)
  ·
    replace hF := if_f c14 hF
    exact B_35 _ _ u11 I r10 rzu11 hF ls (lv_sub hl [1, 0] rfl)
  ·
    replace hF := if_t c14 hF
    refine lv_aload_n hx hb dX5_readCloud_15 rfl (lv_at hl 1 rfl) ?_
    refine g_Tape_draft E I h_k0.1 mw_1_172 dX5_readCloud_16 ?_
    refine lv_iload_n hx hb dX5_readCloud_19 rfl (lv_at hl 0 rfl) ?_
    refine cVi E I (c_X0_isCloudy l w g u11 (k0 + 2) r10 E.2.2.1 I.2.2 h_k0.2.2  ) (cwV 1 E.1.2.2.2.2 (gWs (C := "StarWalk$Night") mw_3_27 mw_3_28 mw_3_29 mw_1_3 mw_3_30) rfl rfl rfl (by decide +kernel) ⟨by decide, by decide⟩) h_k0.2.2.1.1 ((ce_o h_k0.2.2.1.2).trans rfl) rfl rfl hl.1 rfl (Nat.le_of_ble_eq_true rfl) dX5_readCloud_20 ⟨Nat.le_refl _, Nat.le_refl _⟩ (fun r15 u16 H lo hp hPS => ?_)
    obtain ⟨hp, hex, hfr⟩ := hp
    replace hF := xl_i hex hF
    obtain ⟨hu, p17⟩ := hp
    rw [hu] at hPS
    have I : Wo w g s.heap u11 H lo := ⟨hPS.1, hPS.2, I.2.2⟩
    refine bz_eq E (a := r15.toInt) rfl (tgt := 35) dX5_readCloud_23 (by decide) (fun c18 => ?_) (fun c18 => ?_)
    ·
      replace hF := if_t c18 hF
      exact B_35 _ _ u11 I r10 rzu11 hF ls (lv_sub hl [1, 0] rfl)
    ·
      replace hF := if_f c18 hF
      refine lv_aload_n hx hb dX5_readCloud_26 rfl (lv_at hl 1 rfl) ?_
      refine lv_iconst (v := 4) hx hb dX5_readCloud_27 (by decide) ?_
      refine lv_aload_n hx hb dX5_readCloud_28 rfl (lv_at hl 1 rfl) ?_
      refine g_Tape_first E I h_k0.1 mw_1_175 dX5_readCloud_29 ?_
      refine lv_topi (fun x19 ex19 => ?_)
      replace hF := xl_i (ex19) hF
      refine cVv E I (c_X5_refuse l w g u11 k0 (4 : Int32) x19 E.2.2.1 I.2.2 h_k0  ) (cwV 2 E.1.2.2.2.2 (gWs (C := "StarWalk$Tape") mw_2_134 mw_2_136 mw_s_2 mw_1_2 mw_2_137) rfl rfl rfl (by decide +kernel) ⟨by decide, by decide⟩) h_k0.1.1 ((ce_o h_k0.1.2).trans rfl) rfl rfl hl.1 rfl (Nat.le_of_ble_eq_true rfl) dX5_readCloud_32 ⟨Nat.le_refl _, Nat.le_refl _⟩ (fun u20 H lo hp hPS => ?_)
      obtain ⟨hp, hex, hfr⟩ := hp
      replace hF := xl_i hex hF
      obtain ⟨hwf, p21⟩ := hp
      have I : Wo w g s.heap u20 H lo := ⟨hPS.1, hPS.2, hwf⟩
      have rzu20 : ∀ k j : Nat, ¬ ((k = k0 ∧ ¬ j = 1) ∨ (k0 + 2 ≤ k ∧ k < k0 + 11)) → u20.1 k j = v.1 k j := fun k j h => (hfr k j (fun z => h (by omega))).trans (rzu11 k j h)
      exact B_35 _ _ u20 I r10 rzu20 hF ls (lv_sub hl [1, 0] rfl)
def F_X5_readPlan (k0 : Nat) (v : St) : St :=
xl (fun (v_80 : St) =>
xl (F_X5_need k0 (3 : Int32) v_80) fun u1 =>
u1) fun J_80 =>
xl (fun (self_12 : Int32 → St → St) (y12_1 : Int32) (v_12 : St) =>
xl (fun (v_70 : St) =>
xl (F_X5_takeToken k0 v_70) fun u3 =>
xl (y12_1 + 1) fun x5 =>
(self_12 x5 u3)) fun J_70 =>
if 8 < y12_1.toInt then (
(J_80 v_12)) else (
xl (v_12.1 k0 8) fun x7 =>
if x7.toInt = 0 then (
xl (v_12.1 k0 3) fun x9 =>
if x9.toInt = 2 then (
xl (F_X5_needWithin k0 (0 : Int32) (6 : Int32) v_12) fun u11 =>
xl (u11.1 k0 8) fun x13 =>
if x13.toInt = 0 then (
xl (u11.1 k0 6) fun x15 =>
xm (F_X0_addAim (k0 + 2) x15 u11) fun r16 u17 =>
if r16.toInt = 0 then (
xl (u17.1 k0 4) fun x20 =>
xl (F_X5_refuse k0 (5 : Int32) x20 u17) fun u21 =>
(J_70 u21)) else (
(J_70 u17))) else (
(J_70 u11))) else (
(J_80 v_12))) else (
(J_80 v_12)))) fun P_12 =>
xl (F_X5_tellOnce k0 (8 : Int32) v) fun u23 =>
xl (F_X5_takeToken k0 u23) fun u25 =>
(lp P_12 (fun _ _ => v) ((2147483647 - (0 : Int32).toInt).toNat + 1) (0 : Int32) u25)
set_option maxHeartbeats 4000000 in
set_option maxRecDepth 100000 in
theorem c_X5_readPlan (l : Launch) (w : Wp) (g : Nat → Nat → Int32) (v : St) (k0 : Nat) (hq : Inj w) (hw : WF (wk w) g v) (h_k0 : oT w k0) : CTv w l yX5_readPlan (wsy yX5_readPlan prog_7_method_14_code 2 none) (rmL 4) [.ref (wq w k0)] v (fun (u : St) => (WF (wk w) g u ∧ True) ∧ (u = F_X5_readPlan k0 v) ∧ (∀ k j : Nat, ¬ ((k = k0 ∧ ¬ j = 1) ∨ (k0 + 2 ≤ k ∧ k < k0 + 11)) → u.1 k j = v.1 k j)) := by
  generalize hpost : (fun (u : St) => (WF (wk w) g u ∧ True) ∧ (u = F_X5_readPlan k0 v) ∧ (∀ k j : Nat, ¬ ((k = k0 ∧ ¬ j = 1) ∨ (k0 + 2 ≤ k ∧ k < k0 + 11)) → u.1 k j = v.1 k j)) = post
  refine CTv.of prog_7_method_14_code 2 none "StarWalk$Tape" (by decide +kernel) rfl hq hw (Nat.le_of_ble_eq_true rfl) ?_
  intro pg en s m ar bl me cd ls E I hr hlk hl
  have hx := E.1.1
  have hb := E.1.2.1
  have hl : lv_has ls 2 [(0, .ref (wq w k0))] := hl
  obtain ⟨res, hres⟩ : ∃ z, z = F_X5_readPlan k0 v := ⟨_, rfl⟩
  have hF := hres.symm
  unfold F_X5_readPlan at hF
  replace hres : res = F_X5_readPlan k0 v := hres
  have rz0 : ∀ k j : Nat, ¬ ((k = k0 ∧ ¬ j = 1) ∨ (k0 + 2 ≤ k ∧ k < k0 + 11)) → v.1 k j = v.1 k j := fun _ _ _ => rfl
  obtain ⟨J_80, eJ_80, hF⟩ := xl_e hF
  have B_80 : ∀ (H : Heap) (lo : List Loc) (v_80 : St), Wo w g s.heap v_80 H lo → (∀ k j : Nat, ¬ ((k = k0 ∧ ¬ j = 1) ∨ (k0 + 2 ≤ k ∧ k < k0 + 11)) → v_80.1 k j = v.1 k j) → (J_80 v_80 = res) → ∀ (ls : Array Slot), lv_has ls 2 [(0, .ref (wq w k0))] → W pg l en (rmL 4) s m ar bl me cd H lo 0 0 (Zv w bl ar s post) (F0 m 80 ls []) := by
    intro H lo v_80 I  rB80_Z hF ls hl
    replace hF := ap1 eJ_80 hF
    refine lv_aload_n hx hb dX5_readPlan_80 rfl (lv_at hl 0 rfl) ?_
    refine lv_iconst (v := 3) hx hb dX5_readPlan_81 (by decide) ?_
    refine cVv E I (c_X5_need l w g v_80 k0 (3 : Int32) E.2.2.1 I.2.2 h_k0  ) (cwV 1 E.1.2.2.2.2 (gWs (C := "StarWalk$Tape") mw_2_203 mw_2_205 mw_s_7 mw_1_2 mw_2_206) rfl rfl rfl (by decide +kernel) ⟨by decide, by decide⟩) h_k0.1.1 ((ce_o h_k0.1.2).trans rfl) rfl rfl hl.1 rfl (Nat.le_of_ble_eq_true rfl) dX5_readPlan_82 ⟨Nat.le_refl _, Nat.le_refl _⟩ (fun u1 H lo hp hPS => ?_)
    obtain ⟨hp, hex, hfr⟩ := hp
    replace hF := xl_i hex hF
    obtain ⟨hwf, p2⟩ := hp
    have I : Wo w g s.heap u1 H lo := ⟨hPS.1, hPS.2, hwf⟩
    have rzu1 : ∀ k j : Nat, ¬ ((k = k0 ∧ ¬ j = 1) ∨ (k0 + 2 ≤ k ∧ k < k0 + 11)) → u1.1 k j = v.1 k j := fun k j h => (hfr k j (fun z => h (by omega))).trans (rB80_Z k j h)
    exact rV E I hr hlk (by rw [← hpost]; exact ⟨⟨I.2.2, trivial⟩, hF.trans hres, rzu1⟩) dX5_readPlan_85
  obtain ⟨P_12, eP_12, hF⟩ := xl_e hF
  have L_12 : ∀ (n : Nat), ∀ (H : Heap) (lo : List Loc) (v_12 : St), Wo w g s.heap v_12 H lo → ∀ (y12_1 : Int32), (0 ≤ y12_1.toInt ∧ y12_1.toInt ≤ 9) → (∀ k j : Nat, ¬ ((k = k0 ∧ ¬ j = 1) ∨ (k0 + 2 ≤ k ∧ k < k0 + 11)) → v_12.1 k j = v.1 k j) → (lp P_12 (fun _ _ => v) n y12_1 v_12 = res) → (2147483647 - y12_1.toInt).toNat < n → ∀ (ls : Array Slot), lv_has ls 2 [(0, .ref (wq w k0)), (1, .int y12_1)] → W pg l en (rmL 4) s m ar bl me cd H lo 0 0 (Zv w bl ar s post) (F0 m 12 ls []) := by
    intro n
    induction n with
    | zero => intro H lo v_12 I y12_1 hy12_1 rB12_Z hF hm; exact absurd hm (Nat.not_lt_zero _)
    | succ n ih_12 =>
      intro H lo v_12 I y12_1 hy12_1 rB12_Z hF hm ls hl
      replace hF := lpa2 eP_12 hF
      obtain ⟨J_70, eJ_70, hF⟩ := xl_e hF
      have B_70 : ∀ (H : Heap) (lo : List Loc) (v_70 : St), Wo w g s.heap v_70 H lo → (0 ≤ y12_1.toInt ∧ y12_1.toInt ≤ 8) → (∀ k j : Nat, ¬ ((k = k0 ∧ ¬ j = 1) ∨ (k0 + 2 ≤ k ∧ k < k0 + 11)) → v_70.1 k j = v.1 k j) → (J_70 v_70 = res) → ∀ (ls : Array Slot), lv_has ls 2 [(0, .ref (wq w k0)), (1, .int y12_1)] → W pg l en (rmL 4) s m ar bl me cd H lo 0 0 (Zv w bl ar s post) (F0 m 70 ls []) := by
        intro H lo v_70 I  hE70_0 rB70_Z hF ls hl
        replace hF := ap1 eJ_70 hF
        refine lv_aload_n hx hb dX5_readPlan_70 rfl (lv_at hl 0 rfl) ?_
        refine cVv E I (c_X5_takeToken l w g v_70 k0 E.2.2.1 I.2.2 h_k0  ) (cwV 0 E.1.2.2.2.2 (gWs (C := "StarWalk$Tape") mw_2_123 mw_2_125 mw_s_0 mw_1_2 mw_2_126) rfl rfl rfl (by decide +kernel) ⟨by decide, by decide⟩) h_k0.1.1 ((ce_o h_k0.1.2).trans rfl) rfl rfl hl.1 rfl (Nat.le_of_ble_eq_true rfl) dX5_readPlan_71 ⟨Nat.le_refl _, Nat.le_refl _⟩ (fun u3 H lo hp hPS => ?_)
        obtain ⟨hp, hex, hfr⟩ := hp
        replace hF := xl_i hex hF
        obtain ⟨hwf, p4⟩ := hp
        have I : Wo w g s.heap u3 H lo := ⟨hPS.1, hPS.2, hwf⟩
        have rzu3 : ∀ k j : Nat, ¬ ((k = k0 ∧ ¬ j = 1) ∨ (k0 + 2 ≤ k ∧ k < k0 + 11)) → u3.1 k j = v.1 k j := fun k j h => (hfr k j (fun z => h (by omega))).trans (rB70_Z k j h)
        obtain ⟨x5, ex5⟩ : ∃ z : Int32, z = y12_1 + 1 := ⟨_, rfl⟩
        replace hF := xl_i (ex5) hF
        have hx5 : x5.toInt = y12_1.toInt + (1) := by rw [ex5]; exact adI (a := y12_1.toInt) (b := 1) rfl rfl (by omega) (by omega)
        refine lv_iinc (v := x5) (lv' := [(1, .int x5), (0, .ref (wq w k0))]) hx hb dX5_readPlan_74 hl (k := 1) rfl (by rw [ex5]; rfl) (by decide) rfl (fun ls hl => ?_)
        refine lv_goto (tgt := 12) hx hb dX5_readPlan_77 (by decide) ?_
        exact ih_12 _ _ u3 I x5 (by omega) rzu3 hF (by omega) ls (lv_sub hl [1, 0] rfl)
      refine lv_iload_n hx hb dX5_readPlan_12 rfl (lv_at hl 1 rfl) ?_
      refine lv_bipush (v := 8) hx hb dX5_readPlan_13 (by decide) ?_
      refine bi_gt E (a := y12_1.toInt) (b := 8) rfl rfl (tgt := 80) dX5_readPlan_15 (by decide) (fun c6 => ?_) (fun c6 => ?_)
      ·
        replace hF := if_t c6 hF
        exact B_80 _ _ v_12 I  rB12_Z hF ls (lv_sub hl [0] rfl)
      ·
        replace hF := if_l c6 hF
        refine lv_aload_n hx hb dX5_readPlan_18 rfl (lv_at hl 0 rfl) ?_
        refine g_Tape_found E I h_k0.1 mw_1_179 dX5_readPlan_19 ?_
        refine lv_topi (fun x7 ex7 => ?_)
        replace hF := xl_i (ex7) hF
        refine bz_ne E (a := x7.toInt) rfl (tgt := 80) dX5_readPlan_22 (by decide) (fun c8 => ?_) (fun c8 => ?_)
        ·
          replace hF := if_f c8 hF
          exact B_80 _ _ v_12 I  rB12_Z hF ls (lv_sub hl [0] rfl)
        ·
          replace hF := if_t c8 hF
          refine lv_aload_n hx hb dX5_readPlan_25 rfl (lv_at hl 0 rfl) ?_
          refine g_Tape_kind E I h_k0.1 mw_1_174 dX5_readPlan_26 ?_
          refine lv_topi (fun x9 ex9 => ?_)
          replace hF := xl_i (ex9) hF
          refine lv_iconst (v := 2) hx hb dX5_readPlan_29 (by decide) ?_
          refine bi_ne E (a := x9.toInt) (b := 2) rfl rfl (tgt := 80) dX5_readPlan_30 (by decide) (fun c10 => ?_) (fun c10 => ?_)
          ·
            replace hF := if_f c10 hF
            exact B_80 _ _ v_12 I  rB12_Z hF ls (lv_sub hl [0] rfl)
          ·
            replace hF := if_t c10 hF
            refine lv_aload_n hx hb dX5_readPlan_33 rfl (lv_at hl 0 rfl) ?_
            refine lv_iconst (v := 0) hx hb dX5_readPlan_34 (by decide) ?_
            refine lv_bipush (v := 6) hx hb dX5_readPlan_35 (by decide) ?_
            refine cVv E I (c_X5_needWithin l w g v_12 k0 (0 : Int32) (6 : Int32) E.2.2.1 I.2.2 h_k0  ) (cwV 2 E.1.2.2.2.2 (gWs (C := "StarWalk$Tape") mw_2_207 mw_2_209 mw_s_8 mw_1_2 mw_2_210) rfl rfl rfl (by decide +kernel) ⟨by decide, by decide⟩) h_k0.1.1 ((ce_o h_k0.1.2).trans rfl) rfl rfl hl.1 rfl (Nat.le_of_ble_eq_true rfl) dX5_readPlan_37 ⟨Nat.le_refl _, Nat.le_refl _⟩ (fun u11 H lo hp hPS => ?_)
            obtain ⟨hp, hex, hfr⟩ := hp
            replace hF := xl_i hex hF
            obtain ⟨hwf, p12⟩ := hp
            have I : Wo w g s.heap u11 H lo := ⟨hPS.1, hPS.2, hwf⟩
            have rzu11 : ∀ k j : Nat, ¬ ((k = k0 ∧ ¬ j = 1) ∨ (k0 + 2 ≤ k ∧ k < k0 + 11)) → u11.1 k j = v.1 k j := fun k j h => (hfr k j (fun z => h (by omega))).trans (rB12_Z k j h)
            refine lv_aload_n hx hb dX5_readPlan_40 rfl (lv_at hl 0 rfl) ?_
            refine g_Tape_found E I h_k0.1 mw_1_179 dX5_readPlan_41 ?_
            refine lv_topi (fun x13 ex13 => ?_)
            replace hF := xl_i (ex13) hF
            refine bz_ne E (a := x13.toInt) rfl (tgt := 70) dX5_readPlan_44 (by decide) (fun c14 => ?_) (fun c14 => ?_)
            ·
              replace hF := if_f c14 hF
              exact B_70 _ _ u11 I  (by omega) rzu11 hF ls (lv_sub hl [0, 1] rfl)
            ·
              replace hF := if_t c14 hF
              refine lv_aload_n hx hb dX5_readPlan_47 rfl (lv_at hl 0 rfl) ?_
              refine g_Tape_draft E I h_k0.1 mw_1_172 dX5_readPlan_48 ?_
              refine lv_aload_n hx hb dX5_readPlan_51 rfl (lv_at hl 0 rfl) ?_
              refine g_Tape_value E I h_k0.1 mw_1_177 dX5_readPlan_52 ?_
              refine lv_topi (fun x15 ex15 => ?_)
              replace hF := xl_i (ex15) hF
              refine cVi E I (c_X0_addAim l w g u11 (k0 + 2) x15 E.2.2.1 I.2.2 h_k0.2.2  ) (cwV 1 E.1.2.2.2.2 (gWs (C := "StarWalk$Night") mw_3_36 mw_3_37 mw_3_38 mw_1_3 mw_3_39) rfl rfl rfl (by decide +kernel) ⟨by decide, by decide⟩) h_k0.2.2.1.1 ((ce_o h_k0.2.2.1.2).trans rfl) rfl rfl hl.1 rfl (Nat.le_of_ble_eq_true rfl) dX5_readPlan_55 ⟨Nat.le_refl _, Nat.le_refl _⟩ (fun r16 u17 H lo hp hPS => ?_)
              obtain ⟨hp, hex, hfr⟩ := hp
              replace hF := xm_i hex hF
              obtain ⟨hwf, p18⟩ := hp
              have I : Wo w g s.heap u17 H lo := ⟨hPS.1, hPS.2, hwf⟩
              have rzu17 : ∀ k j : Nat, ¬ ((k = k0 ∧ ¬ j = 1) ∨ (k0 + 2 ≤ k ∧ k < k0 + 11)) → u17.1 k j = v.1 k j := fun k j h => (hfr k j (fun z => h (by omega))).trans (rzu11 k j h)
              refine bz_ne E (a := r16.toInt) rfl (tgt := 70) dX5_readPlan_58 (by decide) (fun c19 => ?_) (fun c19 => ?_)
              ·
                replace hF := if_f c19 hF
                exact B_70 _ _ u17 I  (by omega) rzu17 hF ls (lv_sub hl [0, 1] rfl)
              ·
                replace hF := if_t c19 hF
                refine lv_aload_n hx hb dX5_readPlan_61 rfl (lv_at hl 0 rfl) ?_
                refine lv_iconst (v := 5) hx hb dX5_readPlan_62 (by decide) ?_
                refine lv_aload_n hx hb dX5_readPlan_63 rfl (lv_at hl 0 rfl) ?_
                refine g_Tape_first E I h_k0.1 mw_1_175 dX5_readPlan_64 ?_
                refine lv_topi (fun x20 ex20 => ?_)
                replace hF := xl_i (ex20) hF
                refine cVv E I (c_X5_refuse l w g u17 k0 (5 : Int32) x20 E.2.2.1 I.2.2 h_k0  ) (cwV 2 E.1.2.2.2.2 (gWs (C := "StarWalk$Tape") mw_2_134 mw_2_136 mw_s_2 mw_1_2 mw_2_137) rfl rfl rfl (by decide +kernel) ⟨by decide, by decide⟩) h_k0.1.1 ((ce_o h_k0.1.2).trans rfl) rfl rfl hl.1 rfl (Nat.le_of_ble_eq_true rfl) dX5_readPlan_67 ⟨Nat.le_refl _, Nat.le_refl _⟩ (fun u21 H lo hp hPS => ?_)
                obtain ⟨hp, hex, hfr⟩ := hp
                replace hF := xl_i hex hF
                obtain ⟨hwf, p22⟩ := hp
                have I : Wo w g s.heap u21 H lo := ⟨hPS.1, hPS.2, hwf⟩
                have rzu21 : ∀ k j : Nat, ¬ ((k = k0 ∧ ¬ j = 1) ∨ (k0 + 2 ≤ k ∧ k < k0 + 11)) → u21.1 k j = v.1 k j := fun k j h => (hfr k j (fun z => h (by omega))).trans (rzu17 k j h)
                exact B_70 _ _ u21 I  (by omega) rzu21 hF ls (lv_sub hl [0, 1] rfl)
  refine lv_aload_n hx hb dX5_readPlan_0 rfl (lv_at hl 0 rfl) ?_
  refine lv_bipush (v := 8) hx hb dX5_readPlan_1 (by decide) ?_
  refine cVv E I (c_X5_tellOnce l w g v k0 (8 : Int32) E.2.2.1 I.2.2 h_k0  ) (cwV 1 E.1.2.2.2.2 (gWs (C := "StarWalk$Tape") mw_3_8 mw_3_10 mw_s_13 mw_1_2 mw_3_11) rfl rfl rfl (by decide +kernel) ⟨by decide, by decide⟩) h_k0.1.1 ((ce_o h_k0.1.2).trans rfl) rfl rfl hl.1 rfl (Nat.le_of_ble_eq_true rfl) dX5_readPlan_3 ⟨Nat.le_refl _, Nat.le_refl _⟩ (fun u23 H lo hp hPS => ?_)
  obtain ⟨hp, hex, hfr⟩ := hp
  replace hF := xl_i hex hF
  obtain ⟨hwf, p24⟩ := hp
  have I : Wo w g s.heap u23 H lo := ⟨hPS.1, hPS.2, hwf⟩
  have rzu23 : ∀ k j : Nat, ¬ ((k = k0 ∧ ¬ j = 1) ∨ (k0 + 2 ≤ k ∧ k < k0 + 11)) → u23.1 k j = v.1 k j := fun k j h => (hfr k j (fun z => h (by omega))).trans (rz0 k j h)
  refine lv_aload_n hx hb dX5_readPlan_6 rfl (lv_at hl 0 rfl) ?_
  refine cVv E I (c_X5_takeToken l w g u23 k0 E.2.2.1 I.2.2 h_k0  ) (cwV 0 E.1.2.2.2.2 (gWs (C := "StarWalk$Tape") mw_2_123 mw_2_125 mw_s_0 mw_1_2 mw_2_126) rfl rfl rfl (by decide +kernel) ⟨by decide, by decide⟩) h_k0.1.1 ((ce_o h_k0.1.2).trans rfl) rfl rfl hl.1 rfl (Nat.le_of_ble_eq_true rfl) dX5_readPlan_7 ⟨Nat.le_refl _, Nat.le_refl _⟩ (fun u25 H lo hp hPS => ?_)
  obtain ⟨hp, hex, hfr⟩ := hp
  replace hF := xl_i hex hF
  obtain ⟨hwf, p26⟩ := hp
  have I : Wo w g s.heap u25 H lo := ⟨hPS.1, hPS.2, hwf⟩
  have rzu25 : ∀ k j : Nat, ¬ ((k = k0 ∧ ¬ j = 1) ∨ (k0 + 2 ≤ k ∧ k < k0 + 11)) → u25.1 k j = v.1 k j := fun k j h => (hfr k j (fun z => h (by omega))).trans (rzu23 k j h)
  refine lv_iconst (v := 0) hx hb dX5_readPlan_10 (by decide) ?_
  refine lv_istore_n (lv' := [(1, .int 0), (0, .ref (wq w k0))]) hx hb dX5_readPlan_11 rfl hl (by decide) rfl (fun ls hl => ?_)
  exact L_12 ((2147483647 - (0 : Int32).toInt).toNat + 1) _ _ u25 I (0 : Int32) (by decide) rzu25 hF (Nat.lt_succ_self _) ls (lv_sub hl [1, 0] rfl)
def F_X5_readWalker (k0 : Nat) (a0 : Int32) (v : St) : St :=
xl (fun (v_20 : St) =>
xl (F_X5_takeStop k0 v_20) fun u1 =>
xl (u1.1 k0 8) fun x3 =>
if x3.toInt = 0 then (
xm (F_X0_addWalker (k0 + 2) a0 u1) fun r5 u6 =>
u6) else (
u1)) fun J_20 =>
xl (v.1 (k0 + 2) 6) fun x8 =>
if x8.toInt < 3 then (
(J_20 v)) else (
xl (v.1 k0 4) fun x10 =>
xl (F_X5_refuse k0 (5 : Int32) x10 v) fun u11 =>
(J_20 u11))
set_option maxHeartbeats 4000000 in
set_option maxRecDepth 100000 in
theorem c_X5_readWalker (l : Launch) (w : Wp) (g : Nat → Nat → Int32) (v : St) (k0 : Nat) (a0 : Int32) (hq : Inj w) (hw : WF (wk w) g v) (h_k0 : oT w k0) : CTv w l yX5_readWalker (wsy yX5_readWalker prog_7_method_9_code 2 none) (rmL 4) [.ref (wq w k0), .int a0] v (fun (u : St) => (WF (wk w) g u ∧ True) ∧ (u = F_X5_readWalker k0 a0 v) ∧ (∀ k j : Nat, ¬ ((k = k0 ∧ ¬ j = 1) ∨ (k0 + 2 ≤ k ∧ k < k0 + 11)) → u.1 k j = v.1 k j)) := by
  generalize hpost : (fun (u : St) => (WF (wk w) g u ∧ True) ∧ (u = F_X5_readWalker k0 a0 v) ∧ (∀ k j : Nat, ¬ ((k = k0 ∧ ¬ j = 1) ∨ (k0 + 2 ≤ k ∧ k < k0 + 11)) → u.1 k j = v.1 k j)) = post
  refine CTv.of prog_7_method_9_code 2 none "StarWalk$Tape" (by decide +kernel) rfl hq hw (Nat.le_of_ble_eq_true rfl) ?_
  intro pg en s m ar bl me cd ls E I hr hlk hl
  have hx := E.1.1
  have hb := E.1.2.1
  have hl : lv_has ls 2 [(0, .ref (wq w k0)), (1, .int a0)] := hl
  obtain ⟨res, hres⟩ : ∃ z, z = F_X5_readWalker k0 a0 v := ⟨_, rfl⟩
  have hF := hres.symm
  unfold F_X5_readWalker at hF
  replace hres : res = F_X5_readWalker k0 a0 v := hres
  have rz0 : ∀ k j : Nat, ¬ ((k = k0 ∧ ¬ j = 1) ∨ (k0 + 2 ≤ k ∧ k < k0 + 11)) → v.1 k j = v.1 k j := fun _ _ _ => rfl
  obtain ⟨J_20, eJ_20, hF⟩ := xl_e hF
  have B_20 : ∀ (H : Heap) (lo : List Loc) (v_20 : St), Wo w g s.heap v_20 H lo → (∀ k j : Nat, ¬ ((k = k0 ∧ ¬ j = 1) ∨ (k0 + 2 ≤ k ∧ k < k0 + 11)) → v_20.1 k j = v.1 k j) → (J_20 v_20 = res) → ∀ (ls : Array Slot), lv_has ls 2 [(0, .ref (wq w k0)), (1, .int a0)] → W pg l en (rmL 4) s m ar bl me cd H lo 0 0 (Zv w bl ar s post) (F0 m 20 ls []) := by
    intro H lo v_20 I  rB20_Z hF ls hl
    replace hF := ap1 eJ_20 hF
    refine lv_aload_n hx hb dX5_readWalker_20 rfl (lv_at hl 0 rfl) ?_
    refine cVv E I (c_X5_takeStop l w g v_20 k0 E.2.2.1 I.2.2 h_k0  ) (cwV 0 E.1.2.2.2.2 (gWs (C := "StarWalk$Tape") mw_2_211 mw_2_213 mw_s_9 mw_1_2 mw_2_214) rfl rfl rfl (by decide +kernel) ⟨by decide, by decide⟩) h_k0.1.1 ((ce_o h_k0.1.2).trans rfl) rfl rfl hl.1 rfl (Nat.le_of_ble_eq_true rfl) dX5_readWalker_21 ⟨Nat.le_refl _, Nat.le_refl _⟩ (fun u1 H lo hp hPS => ?_)
    obtain ⟨hp, hex, hfr⟩ := hp
    replace hF := xl_i hex hF
    obtain ⟨hwf, p2⟩ := hp
    have I : Wo w g s.heap u1 H lo := ⟨hPS.1, hPS.2, hwf⟩
    have rzu1 : ∀ k j : Nat, ¬ ((k = k0 ∧ ¬ j = 1) ∨ (k0 + 2 ≤ k ∧ k < k0 + 11)) → u1.1 k j = v.1 k j := fun k j h => (hfr k j (fun z => h (by omega))).trans (rB20_Z k j h)
    refine lv_aload_n hx hb dX5_readWalker_24 rfl (lv_at hl 0 rfl) ?_
    refine g_Tape_found E I h_k0.1 mw_1_179 dX5_readWalker_25 ?_
    refine lv_topi (fun x3 ex3 => ?_)
    replace hF := xl_i (ex3) hF
    refine bz_ne E (a := x3.toInt) rfl (tgt := 40) dX5_readWalker_28 (by decide) (fun c4 => ?_) (fun c4 => ?_)
    ·
      replace hF := if_f c4 hF
      exact rV E I hr hlk (by rw [← hpost]; exact ⟨⟨I.2.2, trivial⟩, hF.trans hres, rzu1⟩) dX5_readWalker_40
    ·
      replace hF := if_t c4 hF
      refine lv_aload_n hx hb dX5_readWalker_31 rfl (lv_at hl 0 rfl) ?_
      refine g_Tape_draft E I h_k0.1 mw_1_172 dX5_readWalker_32 ?_
      refine lv_iload_n hx hb dX5_readWalker_35 rfl (lv_at hl 1 rfl) ?_
      refine cVi E I (c_X0_addWalker l w g u1 (k0 + 2) a0 E.2.2.1 I.2.2 h_k0.2.2  ) (cwV 1 E.1.2.2.2.2 (gWs (C := "StarWalk$Night") mw_2_236 mw_2_237 mw_2_238 mw_1_3 mw_2_239) rfl rfl rfl (by decide +kernel) ⟨by decide, by decide⟩) h_k0.2.2.1.1 ((ce_o h_k0.2.2.1.2).trans rfl) rfl rfl hl.1 rfl (Nat.le_of_ble_eq_true rfl) dX5_readWalker_36 ⟨Nat.le_refl _, Nat.le_refl _⟩ (fun r5 u6 H lo hp hPS => ?_)
      obtain ⟨hp, hex, hfr⟩ := hp
      replace hF := xm_i hex hF
      obtain ⟨hwf, p7⟩ := hp
      have I : Wo w g s.heap u6 H lo := ⟨hPS.1, hPS.2, hwf⟩
      have rzu6 : ∀ k j : Nat, ¬ ((k = k0 ∧ ¬ j = 1) ∨ (k0 + 2 ≤ k ∧ k < k0 + 11)) → u6.1 k j = v.1 k j := fun k j h => (hfr k j (fun z => h (by omega))).trans (rzu1 k j h)
      refine lv_pop hx hb dX5_readWalker_39 rfl ?_
      exact rV E I hr hlk (by rw [← hpost]; exact ⟨⟨I.2.2, trivial⟩, hF.trans hres, rzu6⟩) dX5_readWalker_40
  refine lv_aload_n hx hb dX5_readWalker_0 rfl (lv_at hl 0 rfl) ?_
  refine g_Tape_draft E I h_k0.1 mw_1_172 dX5_readWalker_1 ?_
  refine g_Night_walkers E I h_k0.2.2.1 mw_1_93 dX5_readWalker_4 ?_
  refine lv_topi (fun x8 ex8 => ?_)
  replace hF := xl_i (ex8) hF
  have hx8 := r_Night_walkers I h_k0.2.2.1
  rw [← ex8] at hx8
  refine lv_iconst (v := 3) hx hb dX5_readWalker_7 (by decide) ?_
  refine bi_lt E (a := x8.toInt) (b := 3) rfl rfl (tgt := 20) dX5_readWalker_8 (by decide) (fun c9 => ?_) (fun c9 => ?_)
  ·
    replace hF := if_t c9 hF
    exact B_20 _ _ v I  rz0 hF ls (lv_sub hl [0, 1] rfl)
  ·
    replace hF := if_l c9 hF
    refine lv_aload_n hx hb dX5_readWalker_11 rfl (lv_at hl 0 rfl) ?_
    refine lv_iconst (v := 5) hx hb dX5_readWalker_12 (by decide) ?_
    refine lv_aload_n hx hb dX5_readWalker_13 rfl (lv_at hl 0 rfl) ?_
    refine g_Tape_first E I h_k0.1 mw_1_175 dX5_readWalker_14 ?_
    refine lv_topi (fun x10 ex10 => ?_)
    replace hF := xl_i (ex10) hF
    refine cVv E I (c_X5_refuse l w g v k0 (5 : Int32) x10 E.2.2.1 I.2.2 h_k0  ) (cwV 2 E.1.2.2.2.2 (gWs (C := "StarWalk$Tape") mw_2_134 mw_2_136 mw_s_2 mw_1_2 mw_2_137) rfl rfl rfl (by decide +kernel) ⟨by decide, by decide⟩) h_k0.1.1 ((ce_o h_k0.1.2).trans rfl) rfl rfl hl.1 rfl (Nat.le_of_ble_eq_true rfl) dX5_readWalker_17 ⟨Nat.le_refl _, Nat.le_refl _⟩ (fun u11 H lo hp hPS => ?_)
    obtain ⟨hp, hex, hfr⟩ := hp
    replace hF := xl_i hex hF
    obtain ⟨hwf, p12⟩ := hp
    have I : Wo w g s.heap u11 H lo := ⟨hPS.1, hPS.2, hwf⟩
    have rzu11 : ∀ k j : Nat, ¬ ((k = k0 ∧ ¬ j = 1) ∨ (k0 + 2 ≤ k ∧ k < k0 + 11)) → u11.1 k j = v.1 k j := fun k j h => (hfr k j (fun z => h (by omega))).trans (rz0 k j h)
    exact B_20 _ _ u11 I  rzu11 hF ls (lv_sub hl [0, 1] rfl)
def F_X5_namesNoStar (k0 : Nat) (v : St) : Int32 :=
xl (fun (self_22 : Int32 → Int32) (y22_1 : Int32) =>
if y22_1.toInt < 8 then (
xl (F_X0_hasPlanned (k0 + 2) y22_1 v) fun r2 =>
if r2.toInt = 0 then (
(0 : Int32)) else (
xl (v.1 (k0 + 2 + 6) y22_1.toNatClampNeg) fun x6 =>
xl (F_X0_hasAim (k0 + 2) x6 v) fun r7 =>
if r7.toInt = 0 then (
(1 : Int32)) else (
xl (y22_1 + 1) fun x11 =>
(self_22 x11)))) else (
(0 : Int32))) fun P_22 =>
xl (v.1 (k0 + 2) 4) fun x12 =>
xl (v.1 (k0 + 2) 3) fun x13 =>
xl (x12 >>> (x13 &&& 31)) fun x14 =>
if x14.toInt = 0 then (
(lp P_22 (fun _ => (0 : Int32)) ((2147483647 - (0 : Int32).toInt).toNat + 1) (0 : Int32))) else (
(1 : Int32))
set_option maxHeartbeats 4000000 in
set_option maxRecDepth 100000 in
theorem c_X5_namesNoStar (l : Launch) (w : Wp) (g : Nat → Nat → Int32) (v : St) (k0 : Nat) (hq : Inj w) (hw : WF (wk w) g v) (h_k0 : oT w k0) : CTi w l yX5_namesNoStar (wsy yX5_namesNoStar prog_7_method_4_code 2 (some .boolean)) (rmL 3) [.ref (wq w k0)] v (fun (r : Int32) (u : St) => (u = v ∧ 0 ≤ r.toInt ∧ r.toInt ≤ 1) ∧ (r = F_X5_namesNoStar k0 v) ∧ True) := by
  generalize hpost : (fun (r : Int32) (u : St) => (u = v ∧ 0 ≤ r.toInt ∧ r.toInt ≤ 1) ∧ (r = F_X5_namesNoStar k0 v) ∧ True) = post
  refine CTi.of prog_7_method_4_code 2 (some .boolean) "StarWalk$Tape" (by decide +kernel) rfl hq hw (Nat.le_of_ble_eq_true rfl) ?_
  intro pg en s m ar bl me cd ls E I hr hlk hl
  have hx := E.1.1
  have hb := E.1.2.1
  have hl : lv_has ls 2 [(0, .ref (wq w k0))] := hl
  obtain ⟨res, hres⟩ : ∃ z, z = F_X5_namesNoStar k0 v := ⟨_, rfl⟩
  have hF := hres.symm
  unfold F_X5_namesNoStar at hF
  replace hres : res = F_X5_namesNoStar k0 v := hres
  obtain ⟨P_22, eP_22, hF⟩ := xl_e hF
  have L_22 : ∀ (n : Nat), ∀ (H : Heap) (lo : List Loc), Wo w g s.heap v H lo → ∀ (y22_1 : Int32), (0 ≤ y22_1.toInt ∧ y22_1.toInt ≤ 8) → (lp P_22 (fun _ => (0 : Int32)) n y22_1 = res) → (2147483647 - y22_1.toInt).toNat < n → ∀ (ls : Array Slot), lv_has ls 2 [(0, .ref (wq w k0)), (1, .int y22_1)] → W pg l en (rmL 3) s m ar bl me cd H lo 0 0 (Zi w bl ar s post) (F0 m 22 ls []) := by
    intro n
    induction n with
    | zero => intro H lo  I y22_1 hy22_1 hF hm; exact absurd hm (Nat.not_lt_zero _)
    | succ n ih_22 =>
      intro H lo  I y22_1 hy22_1 hF hm ls hl
      replace hF := lpa1 eP_22 hF
      refine lv_iload_n hx hb dX5_namesNoStar_22 rfl (lv_at hl 1 rfl) ?_
      refine lv_bipush (v := 8) hx hb dX5_namesNoStar_23 (by decide) ?_
      refine bi_ge E (a := y22_1.toInt) (b := 8) rfl rfl (tgt := 66) dX5_namesNoStar_25 (by decide) (fun c1 => ?_) (fun c1 => ?_)
      ·
        replace hF := if_l c1 hF
        refine lv_iconst (v := 0) hx hb dX5_namesNoStar_66 (by decide) ?_
        exact rI E I hr hlk rfl (by rw [← hpost]; exact ⟨⟨rfl, by have eL : (0 : Int32).toInt = 0 := rfl; omega⟩, hF.trans hres, trivial⟩) dX5_namesNoStar_67
      ·
        replace hF := if_t c1 hF
        refine lv_aload_n hx hb dX5_namesNoStar_28 rfl (lv_at hl 0 rfl) ?_
        refine g_Tape_draft E I h_k0.1 mw_1_172 dX5_namesNoStar_29 ?_
        refine lv_iload_n hx hb dX5_namesNoStar_32 rfl (lv_at hl 1 rfl) ?_
        refine cVi E I (c_X0_hasPlanned l w g v (k0 + 2) y22_1 E.2.2.1 I.2.2 h_k0.2.2  ) (cwV 1 E.1.2.2.2.2 (gWs (C := "StarWalk$Night") mw_3_44 mw_3_45 mw_3_46 mw_1_3 mw_3_47) rfl rfl rfl (by decide +kernel) ⟨by decide, by decide⟩) h_k0.2.2.1.1 ((ce_o h_k0.2.2.1.2).trans rfl) rfl rfl hl.1 rfl (Nat.le_of_ble_eq_true rfl) dX5_namesNoStar_33 ⟨Nat.le_refl _, Nat.le_refl _⟩ (fun r2 u3 H lo hp hPS => ?_)
        obtain ⟨hp, hex, hfr⟩ := hp
        replace hF := xl_i hex hF
        obtain ⟨hu, p4⟩ := hp
        rw [hu] at hPS
        have I : Wo w g s.heap v H lo := ⟨hPS.1, hPS.2, I.2.2⟩
        refine bz_eq E (a := r2.toInt) rfl (tgt := 66) dX5_namesNoStar_36 (by decide) (fun c5 => ?_) (fun c5 => ?_)
        ·
          replace hF := if_t c5 hF
          refine lv_iconst (v := 0) hx hb dX5_namesNoStar_66 (by decide) ?_
          exact rI E I hr hlk rfl (by rw [← hpost]; exact ⟨⟨rfl, by have eL : (0 : Int32).toInt = 0 := rfl; omega⟩, hF.trans hres, trivial⟩) dX5_namesNoStar_67
        ·
          replace hF := if_f c5 hF
          refine lv_aload_n hx hb dX5_namesNoStar_39 rfl (lv_at hl 0 rfl) ?_
          refine g_Tape_draft E I h_k0.1 mw_1_172 dX5_namesNoStar_40 ?_
          refine lv_aload_n hx hb dX5_namesNoStar_43 rfl (lv_at hl 0 rfl) ?_
          refine g_Tape_draft E I h_k0.1 mw_1_172 dX5_namesNoStar_44 ?_
          refine g_Night_plannedAims E I h_k0.2.2.1 mw_1_118 dX5_namesNoStar_47 ?_
          refine lv_iload_n hx hb dX5_namesNoStar_50 rfl (lv_at hl 1 rfl) ?_
          refine ga_12 E I h_k0.2.2.2.2.2.2.2.2.1 (by omega) dX5_namesNoStar_51 ?_
          refine lv_topi (fun x6 ex6 => ?_)
          replace hF := xl_i (ex6) hF
          refine cVi E I (c_X0_hasAim l w g v (k0 + 2) x6 E.2.2.1 I.2.2 h_k0.2.2  ) (cwV 1 E.1.2.2.2.2 (gWs (C := "StarWalk$Night") mw_3_48 mw_3_49 mw_3_50 mw_1_3 mw_3_51) rfl rfl rfl (by decide +kernel) ⟨by decide, by decide⟩) h_k0.2.2.1.1 ((ce_o h_k0.2.2.1.2).trans rfl) rfl rfl hl.1 rfl (Nat.le_of_ble_eq_true rfl) dX5_namesNoStar_52 ⟨Nat.le_refl _, Nat.le_refl _⟩ (fun r7 u8 H lo hp hPS => ?_)
          obtain ⟨hp, hex, hfr⟩ := hp
          replace hF := xl_i hex hF
          obtain ⟨hu, p9⟩ := hp
          rw [hu] at hPS
          have I : Wo w g s.heap v H lo := ⟨hPS.1, hPS.2, I.2.2⟩
          refine bz_ne E (a := r7.toInt) rfl (tgt := 60) dX5_namesNoStar_55 (by decide) (fun c10 => ?_) (fun c10 => ?_)
          ·
            replace hF := if_f c10 hF
            obtain ⟨x11, ex11⟩ : ∃ z : Int32, z = y22_1 + 1 := ⟨_, rfl⟩
            replace hF := xl_i (ex11) hF
            have hx11 : x11.toInt = y22_1.toInt + (1) := by rw [ex11]; exact adI (a := y22_1.toInt) (b := 1) rfl rfl (by omega) (by omega)
            refine lv_iinc (v := x11) (lv' := [(1, .int x11), (0, .ref (wq w k0))]) hx hb dX5_namesNoStar_60 hl (k := 1) rfl (by rw [ex11]; rfl) (by decide) rfl (fun ls hl => ?_)
            refine lv_goto (tgt := 22) hx hb dX5_namesNoStar_63 (by decide) ?_
            exact ih_22 _ _ I x11 (by omega) hF (by omega) ls (lv_sub hl [1, 0] rfl)
          ·
            replace hF := if_t c10 hF
            refine lv_iconst (v := 1) hx hb dX5_namesNoStar_58 (by decide) ?_
            exact rI E I hr hlk rfl (by rw [← hpost]; exact ⟨⟨rfl, by have eL : (1 : Int32).toInt = 1 := rfl; omega⟩, hF.trans hres, trivial⟩) dX5_namesNoStar_59
  refine lv_aload_n hx hb dX5_namesNoStar_0 rfl (lv_at hl 0 rfl) ?_
  refine g_Tape_draft E I h_k0.1 mw_1_172 dX5_namesNoStar_1 ?_
  refine g_Night_known E I h_k0.2.2.1 mw_1_87 dX5_namesNoStar_4 ?_
  refine lv_topi (fun x12 ex12 => ?_)
  replace hF := xl_i (ex12) hF
  refine lv_aload_n hx hb dX5_namesNoStar_7 rfl (lv_at hl 0 rfl) ?_
  refine g_Tape_draft E I h_k0.1 mw_1_172 dX5_namesNoStar_8 ?_
  refine g_Night_stars E I h_k0.2.2.1 mw_1_84 dX5_namesNoStar_11 ?_
  refine lv_topi (fun x13 ex13 => ?_)
  replace hF := xl_i (ex13) hF
  have hx13 := r_Night_stars I h_k0.2.2.1
  rw [← ex13] at hx13
  refine lv_ishr hx hb dX5_namesNoStar_14 ?_
  refine lv_topi (fun x14 ex14 => ?_)
  replace hF := xl_i (ex14) hF
  refine bz_eq E (a := x14.toInt) rfl (tgt := 20) dX5_namesNoStar_15 (by decide) (fun c15 => ?_) (fun c15 => ?_)
  ·
    replace hF := if_t c15 hF
    refine lv_iconst (v := 0) hx hb dX5_namesNoStar_20 (by decide) ?_
    refine lv_istore_n (lv' := [(1, .int 0), (0, .ref (wq w k0))]) hx hb dX5_namesNoStar_21 rfl hl (by decide) rfl (fun ls hl => ?_)
    exact L_22 ((2147483647 - (0 : Int32).toInt).toNat + 1) _ _ I (0 : Int32) (by decide) hF (Nat.lt_succ_self _) ls (lv_sub hl [1, 0] rfl)
  ·
    replace hF := if_f c15 hF
    refine lv_iconst (v := 1) hx hb dX5_namesNoStar_18 (by decide) ?_
    exact rI E I hr hlk rfl (by rw [← hpost]; exact ⟨⟨rfl, by have eL : (1 : Int32).toInt = 1 := rfl; omega⟩, hF.trans hres, trivial⟩) dX5_namesNoStar_19
def F_X5_addByte (k0 : Nat) (a0 : Int32) (v : St) : Int32 × St :=
xl (v.1 k0 1) fun x1 =>
if x1.toInt < 160 then (
xl (a0.toInt8.toInt32) fun x4 =>
xl (up1 v (k0 + 1) x1.toNatClampNeg (vp_nar .byte x4)) fun v5 =>
xl (x1 + (1 : Int32)) fun x7 =>
xl (up1 v5 k0 1 x7) fun v8 =>
((1 : Int32), v8)) else (
((0 : Int32), v))
set_option maxHeartbeats 4000000 in
set_option maxRecDepth 100000 in
theorem c_X5_addByte (l : Launch) (w : Wp) (g : Nat → Nat → Int32) (v : St) (k0 : Nat) (a0 : Int32) (hq : Inj w) (hw : WF (wk w) g v) (h_k0 : oT w k0) : CTi w l yX5_addByte (wsy yX5_addByte prog_7_method_2_code 2 (some .boolean)) (rmL 1) [.ref (wq w k0), .int a0] v (fun (r : Int32) (u : St) => (WF (wk w) g u ∧ 0 ≤ r.toInt ∧ r.toInt ≤ 1) ∧ ((r, u) = F_X5_addByte k0 a0 v) ∧ (∀ k j : Nat, ¬ ((k = k0 ∧ j = 1) ∨ k = k0 + 1) → u.1 k j = v.1 k j)) := by
  generalize hpost : (fun (r : Int32) (u : St) => (WF (wk w) g u ∧ 0 ≤ r.toInt ∧ r.toInt ≤ 1) ∧ ((r, u) = F_X5_addByte k0 a0 v) ∧ (∀ k j : Nat, ¬ ((k = k0 ∧ j = 1) ∨ k = k0 + 1) → u.1 k j = v.1 k j)) = post
  refine CTi.of prog_7_method_2_code 2 (some .boolean) "StarWalk$Tape" (by decide +kernel) rfl hq hw (Nat.le_of_ble_eq_true rfl) ?_
  intro pg en s m ar bl me cd ls E I hr hlk hl
  have hx := E.1.1
  have hb := E.1.2.1
  have hl : lv_has ls 2 [(0, .ref (wq w k0)), (1, .int a0)] := hl
  obtain ⟨res, hres⟩ : ∃ z, z = F_X5_addByte k0 a0 v := ⟨_, rfl⟩
  have hF := hres.symm
  unfold F_X5_addByte at hF
  replace hres : res = F_X5_addByte k0 a0 v := hres
  have rz0 : ∀ k j : Nat, ¬ ((k = k0 ∧ j = 1) ∨ k = k0 + 1) → v.1 k j = v.1 k j := fun _ _ _ => rfl
  refine lv_aload_n hx hb dX5_addByte_0 rfl (lv_at hl 0 rfl) ?_
  refine g_Tape_length E I h_k0.1 mw_1_170 dX5_addByte_1 ?_
  refine lv_topi (fun x1 ex1 => ?_)
  replace hF := xl_i (ex1) hF
  have hx1 := r_Tape_length I h_k0.1
  rw [← ex1] at hx1
  refine lv_sipush (v := 160) hx hb dX5_addByte_4 (by decide) ?_
  refine bi_lt E (a := x1.toInt) (b := 160) rfl rfl (tgt := 12) dX5_addByte_7 (by decide) (fun c2 => ?_) (fun c2 => ?_)
  ·
    replace hF := if_t c2 hF
    refine lv_aload_n hx hb dX5_addByte_12 rfl (lv_at hl 0 rfl) ?_
    refine g_Tape_bytes E I h_k0.1 mw_1_169 dX5_addByte_13 ?_
    refine lv_aload_n hx hb dX5_addByte_16 rfl (lv_at hl 0 rfl) ?_
    refine g_Tape_length E I h_k0.1 mw_1_170 dX5_addByte_17 ?_
    refine lv_topi (fun x3 ex3 => ?_)
    obtain rfl : x1 = x3 := ex1.symm.symm.trans ex3.symm
    refine lv_iload_n hx hb dX5_addByte_20 rfl (lv_at hl 1 rfl) ?_
    refine lv_i2b (v := _) hx hb dX5_addByte_21 rfl ?_
    refine lv_topi (fun x4 ex4 => ?_)
    replace hF := xl_i (ex4) hF
    refine pa_17 E I h_k0.2.1 (by omega) dX5_addByte_22 (fun H lo I => ?_)
    generalize ev5 : up1 v (k0 + 1) x1.toNatClampNeg (vp_nar .byte x4) = v5 at I
    replace hF := xl_i (ev5.symm) hF
    have mv5_0 : v5.1 k0 1 = x1 := by rw [← ev5, up1_n _ _ (Or.inl (by omega))] <;> exact ex1.symm
    have rzv5 : ∀ k j : Nat, ¬ ((k = k0 ∧ j = 1) ∨ k = k0 + 1) → v5.1 k j = v.1 k j := fun k j h => fz_u ev5 (by have czx1 := cnI (x := x1) (by omega); omega) (rz0 k j h)
    refine lv_aload_n hx hb dX5_addByte_23 rfl (lv_at hl 0 rfl) ?_
    refine lv_dup hx hb dX5_addByte_24 rfl ?_
    refine g_Tape_length E I h_k0.1 mw_1_170 dX5_addByte_25 ?_
    refine lv_topi (fun x6 ex6 => ?_)
    obtain rfl : x1 = x6 := mv5_0.symm.trans ex6.symm
    refine lv_iconst (v := 1) hx hb dX5_addByte_28 (by decide) ?_
    refine lv_iadd hx hb dX5_addByte_29 ?_
    refine lv_topi (fun x7 ex7 => ?_)
    replace hF := xl_i (ex7) hF
    have hx7 : x7.toInt = x1.toInt + 1 := by rw [ex7]; exact adI (a := x1.toInt) (b := 1) rfl rfl (by omega) (by omega)
    refine p_Tape_length E I h_k0.1 mw_1_170 (by omega) dX5_addByte_30 (fun H lo I => ?_)
    generalize ev8 : up1 v5 k0 1 x7 = v8 at I
    replace hF := xl_i (ev8.symm) hF
    have rzv8 : ∀ k j : Nat, ¬ ((k = k0 ∧ j = 1) ∨ k = k0 + 1) → v8.1 k j = v.1 k j := fun k j h => fz_u ev8 (by omega) (rzv5 k j h)
    refine lv_iconst (v := 1) hx hb dX5_addByte_33 (by decide) ?_
    exact rI E I hr hlk rfl (by rw [← hpost]; exact ⟨⟨I.2.2, by have eL : (1 : Int32).toInt = 1 := rfl; omega⟩, hF.trans hres, rzv8⟩) dX5_addByte_34
  ·
    replace hF := if_l c2 hF
    refine lv_iconst (v := 0) hx hb dX5_addByte_10 (by decide) ?_
    exact rI E I hr hlk rfl (by rw [← hpost]; exact ⟨⟨I.2.2, by have eL : (0 : Int32).toInt = 0 := rfl; omega⟩, hF.trans hres, rz0⟩) dX5_addByte_11
set_option maxHeartbeats 4000000 in
set_option maxRecDepth 100000 in
theorem c_J3n (l : Launch) (w : Wp) (g : Nat → Nat → Int32) (v : St) (a0 a1 : Int32) (hq : Inj w) (hw : WF (wk w) g v) (h : 0 ≤ a0.toInt ∧ a0.toInt < a1.toInt) : CTi w l yJ3_checkIndex_8e157 (wsy yJ3_checkIndex_8e157 prog_17_method_11_code 3 (some .int)) (rmL 1) [.int a0, .int a1, .null] v (fun (r : Int32) (u : St) => u = v ∧ True) := by
  generalize hpost : (fun (r : Int32) (u : St) => u = v ∧ True) = post
  refine CTi.of prog_17_method_11_code 3 (some .int) "jdk/internal/util/Preconditions" (by decide +kernel) rfl hq hw (Nat.le_of_ble_eq_true rfl) ?_
  intro pg en s m ar bl me cd ls E I hr hlk hl
  have hx := E.1.1
  have hb := E.1.2.1
  have hl : lv_has ls 3 [(0, .int a0), (1, .int a1), (2, .null)] := hl
  refine lv_iload_n hx hb dJ3_checkIndex_8e157_0 rfl (lv_at hl 0 rfl) ?_
  refine bz_lt E (a := a0.toInt) rfl (tgt := 9) dJ3_checkIndex_8e157_1 (by decide) (fun c => ?_) (fun c => ?_)
  · exfalso; omega
  · refine lv_iload_n hx hb dJ3_checkIndex_8e157_4 rfl (lv_at hl 0 rfl) ?_
    refine lv_iload_n hx hb dJ3_checkIndex_8e157_5 rfl (lv_at hl 1 rfl) ?_
    refine bi_lt E (a := a0.toInt) (b := a1.toInt) rfl rfl (tgt := 16) dJ3_checkIndex_8e157_6 (by decide) (fun c2 => ?_) (fun c2 => ?_)
    · refine lv_iload_n hx hb dJ3_checkIndex_8e157_16 rfl (lv_at hl 0 rfl) ?_
      exact rI E I hr hlk rfl (by rw [← hpost]; exact ⟨rfl, trivial⟩) dJ3_checkIndex_8e157_17
    · exfalso; omega
set_option maxHeartbeats 4000000 in
set_option maxRecDepth 100000 in
theorem c_J3r (l : Launch) (w : Wp) (g : Nat → Nat → Int32) (v : St) (a0 a1 : Int32) (t : Nat) (hq : Inj w) (hw : WF (wk w) g v) (h : 0 ≤ a0.toInt ∧ a0.toInt < a1.toInt) : CTi w l yJ3_checkIndex_8e157 (wsy yJ3_checkIndex_8e157 prog_17_method_11_code 3 (some .int)) (rmL 1) [.int a0, .int a1, .ref t] v (fun (r : Int32) (u : St) => u = v ∧ True) := by
  generalize hpost : (fun (r : Int32) (u : St) => u = v ∧ True) = post
  refine CTi.of prog_17_method_11_code 3 (some .int) "jdk/internal/util/Preconditions" (by decide +kernel) rfl hq hw (Nat.le_of_ble_eq_true rfl) ?_
  intro pg en s m ar bl me cd ls E I hr hlk hl
  have hx := E.1.1
  have hb := E.1.2.1
  have hl : lv_has ls 3 [(0, .int a0), (1, .int a1), (2, .ref t)] := hl
  refine lv_iload_n hx hb dJ3_checkIndex_8e157_0 rfl (lv_at hl 0 rfl) ?_
  refine bz_lt E (a := a0.toInt) rfl (tgt := 9) dJ3_checkIndex_8e157_1 (by decide) (fun c => ?_) (fun c => ?_)
  · exfalso; omega
  · refine lv_iload_n hx hb dJ3_checkIndex_8e157_4 rfl (lv_at hl 0 rfl) ?_
    refine lv_iload_n hx hb dJ3_checkIndex_8e157_5 rfl (lv_at hl 1 rfl) ?_
    refine bi_lt E (a := a0.toInt) (b := a1.toInt) rfl rfl (tgt := 16) dJ3_checkIndex_8e157_6 (by decide) (fun c2 => ?_) (fun c2 => ?_)
    · refine lv_iload_n hx hb dJ3_checkIndex_8e157_16 rfl (lv_at hl 0 rfl) ?_
      exact rI E I hr hlk rfl (by rw [← hpost]; exact ⟨rfl, trivial⟩) dJ3_checkIndex_8e157_17
    · exfalso; omega
set_option maxHeartbeats 4000000 in
set_option maxRecDepth 100000 in
theorem c_J0_checkIndex (l : Launch) (w : Wp) (g : Nat → Nat → Int32) (v : St) (a0 a1 : Int32) (hq : Inj w) (hw : WF (wk w) g v) (h : 0 ≤ a0.toInt ∧ a0.toInt < a1.toInt) : CTv w l yJ0_checkIndex_df160 (wsy yJ0_checkIndex_df160 prog_13_method_155_code 2 none) (rmL 2) [.int a0, .int a1] v (fun (u : St) => u = v ∧ True) := by
  generalize hpost : (fun (u : St) => u = v ∧ True) = post
  refine CTv.of prog_13_method_155_code 2 none "java/lang/String" (by decide +kernel) rfl hq hw (Nat.le_of_ble_eq_true rfl) ?_
  intro pg en s m ar bl me cd ls E I hr hlk hl
  have hx := E.1.1
  have hb := E.1.2.1
  have hl : lv_has ls 2 [(0, .int a0), (1, .int a1)] := hl
  refine lv_iload_n hx hb dJ0_checkIndex_df160_0 rfl (lv_at hl 0 rfl) ?_
  refine lv_iload_n hx hb dJ0_checkIndex_df160_1 rfl (lv_at hl 1 rfl) ?_
  rcases E.2.2.2.2.2.2.2 with hz | ⟨t, hz⟩
  · refine va_gets hx hb hz I.2.1 E.1.2.2.2.1 (Ew E mw_2_171 rfl) (fun _ h => h) dJ0_checkIndex_df160_2 ?_
    refine cSi E I (c_J3n l w g v a0 a1 E.2.2.1 I.2.2 h) (va_cwS 3 E.1.2.2.2.2 (gSs mw_2_173 mw_2_174 mw_1_12 mw_2_175) rfl rfl rfl (by decide +kernel) ⟨by decide, by decide⟩) rfl hl.1 rfl (Nat.le_of_ble_eq_true rfl) dJ0_checkIndex_df160_5 ⟨Nat.le_refl _, Nat.le_refl _⟩ (fun r1 u1 H lo hp hPS => ?_)
    obtain ⟨hu, -⟩ := hp
    rw [hu] at hPS
    have I : Wo w g s.heap v H lo := ⟨hPS.1, hPS.2, I.2.2⟩
    refine lv_pop hx hb dJ0_checkIndex_df160_8 rfl ?_
    exact rV E I hr hlk (by rw [← hpost]; exact ⟨rfl, trivial⟩) dJ0_checkIndex_df160_9
  · refine va_gets hx hb hz I.2.1 E.1.2.2.2.1 (Ew E mw_2_171 rfl) (fun _ h => h) dJ0_checkIndex_df160_2 ?_
    refine cSi E I (c_J3r l w g v a0 a1 t E.2.2.1 I.2.2 h) (va_cwS 3 E.1.2.2.2.2 (gSs mw_2_173 mw_2_174 mw_1_12 mw_2_175) rfl rfl rfl (by decide +kernel) ⟨by decide, by decide⟩) rfl hl.1 rfl (Nat.le_of_ble_eq_true rfl) dJ0_checkIndex_df160_5 ⟨Nat.le_refl _, Nat.le_refl _⟩ (fun r1 u1 H lo hp hPS => ?_)
    obtain ⟨hu, -⟩ := hp
    rw [hu] at hPS
    have I : Wo w g s.heap v H lo := ⟨hPS.1, hPS.2, I.2.2⟩
    refine lv_pop hx hb dJ0_checkIndex_df160_8 rfl ?_
    exact rV E I hr hlk (by rw [← hpost]; exact ⟨rfl, trivial⟩) dJ0_checkIndex_df160_9
def chz (i j : Nat) : Int32 := (((sbt.getD i []).getD j 0 &&& 255).toUInt32 % 65536).toInt32
theorem sl_rng : ∀ i, i < 11 → sln.getD i 0 < 10 := by decide
theorem sl_int : ∀ i, i < 11 → (Int32.ofNat (sln.getD i 0)).toInt = (sln.getD i 0 : Nat) := by decide
theorem sl_shr : ∀ i, i < 11 → ((Int32.ofNat (sln.getD i 0)) >>> ((0 : Int32) &&& 31)).toInt = (sln.getD i 0 : Nat) := by decide
set_option maxHeartbeats 4000000 in
set_option maxRecDepth 100000 in
theorem c_J1_charAt (l : Launch) (w : Wp) (g : Nat → Nat → Int32) (v : St) (i : Nat) (a0 : Int32) (hq : Inj w) (hw : WF (wk w) g v) (hi : i < 11) (h : 0 ≤ a0.toInt ∧ a0.toInt < (sln.getD i 0 : Nat)) : CTi w l yJ1_charAt_3b067 (wsy yJ1_charAt_3b067 prog_14_method_2_code 2 (some .char)) (rmL 3) [.ref (wv w i), .int a0] v (fun (r : Int32) (u : St) => u = v ∧ r = chz i a0.toNatClampNeg) := by
  generalize hpost : (fun (r : Int32) (u : St) => u = v ∧ r = chz i a0.toNatClampNeg) = post
  refine CTi.of prog_14_method_2_code 2 (some .char) "java/lang/StringLatin1" (by decide +kernel) rfl hq hw (Nat.le_of_ble_eq_true rfl) ?_
  intro pg en s m ar bl me cd ls E I hr hlk hl
  have hx := E.1.1
  have hb := E.1.2.1
  have hl : lv_has ls 2 [(0, .ref (wv w i)), (1, .int a0)] := hl
  have hT := (E.2.2.2.2.2.1.1 i hi).2.2.2
  refine lv_iload_n hx hb dJ1_charAt_3b067_0 rfl (lv_at hl 1 rfl) ?_
  refine lv_aload_n hx hb dJ1_charAt_3b067_1 rfl (lv_at hl 0 rfl) ?_
  refine va_tlen hx hb hT I.2.1 rfl dJ1_charAt_3b067_2 ?_
  refine cSv E I (c_J0_checkIndex l w g v a0 (Int32.ofNat (sln.getD i 0)) E.2.2.1 I.2.2 (by rw [sl_int i hi]; exact h)) (va_cwS 2 E.1.2.2.2.2 (gSs mw_2_168 mw_2_169 mw_1_10 mw_2_170) rfl rfl rfl (by decide +kernel) ⟨by decide, by decide⟩) rfl hl.1 rfl (Nat.le_of_ble_eq_true rfl) dJ1_charAt_3b067_3 ⟨Nat.le_refl _, Nat.le_refl _⟩ (fun u1 H lo hp hPS => ?_)
  obtain ⟨hu, -⟩ := hp
  rw [hu] at hPS
  have I : Wo w g s.heap v H lo := ⟨hPS.1, hPS.2, I.2.2⟩
  refine lv_aload_n hx hb dJ1_charAt_3b067_6 rfl (lv_at hl 0 rfl) ?_
  refine lv_iload_n hx hb dJ1_charAt_3b067_7 rfl (lv_at hl 1 rfl) ?_
  refine va_tb hx hb hT I.2.1 (vp_in_iff.mpr h) rfl dJ1_charAt_3b067_8 ?_
  refine lv_sipush (v := 255) hx hb dJ1_charAt_3b067_9 (by decide) ?_
  refine lv_iand hx hb dJ1_charAt_3b067_12 ?_
  refine lv_i2c (v := _) hx hb dJ1_charAt_3b067_13 rfl ?_
  exact rI E I hr hlk (pk_nc _) (by rw [← hpost]; exact ⟨rfl, rfl⟩) dJ1_charAt_3b067_14
set_option maxHeartbeats 4000000 in
set_option maxRecDepth 100000 in
theorem c_J0_coder (l : Launch) (w : Wp) (g : Nat → Nat → Int32) (v : St) (i : Nat) (hq : Inj w) (hw : WF (wk w) g v) (hi : i < 11) : CTi w l yJ0_coder_7d493 (wsy yJ0_coder_7d493 prog_13_method_152_code 1 (some .byte)) (rmL 1) [.ref (wa w i)] v (fun (r : Int32) (u : St) => u = v ∧ r.toInt = 0) := by
  generalize hpost : (fun (r : Int32) (u : St) => u = v ∧ r.toInt = 0) = post
  refine CTi.of prog_13_method_152_code 1 (some .byte) "java/lang/String" (by decide +kernel) rfl hq hw (Nat.le_of_ble_eq_true rfl) ?_
  intro pg en s m ar bl me cd ls E I hr hlk hl
  have hx := E.1.1
  have hb := E.1.2.1
  have hl : lv_has ls 1 [(0, .ref (wa w i))] := hl
  have hO := (E.2.2.2.2.2.1.1 i hi).2.1
  refine va_gets hx hb E.2.2.2.2.2.2.1 I.2.1 E.1.2.2.2.1 (Ew E mw_2_155 rfl) (fun _ h => h) dJ0_coder_7d493_0 ?_
  refine bz_eq E (a := 1) rfl (tgt := 13) dJ0_coder_7d493_3 (by decide) (fun c => ?_) (fun c => ?_)
  · exfalso; omega
  · refine lv_aload_n hx hb dJ0_coder_7d493_6 rfl (lv_at hl 0 rfl) ?_
    refine vk_getf hx hb hO I.2.1 E.1.2.2.2.1 (Ew E mw_6_142 rfl) (fun _ h => h) dJ0_coder_7d493_7 ?_
    refine lv_goto (tgt := 14) hx hb dJ0_coder_7d493_10 (by decide) ?_
    exact rI E I hr hlk rfl (by rw [← hpost]; exact ⟨rfl, rfl⟩) dJ0_coder_7d493_14
set_option maxHeartbeats 4000000 in
set_option maxRecDepth 100000 in
theorem c_J0_isLatin1 (l : Launch) (w : Wp) (g : Nat → Nat → Int32) (v : St) (i : Nat) (hq : Inj w) (hw : WF (wk w) g v) (hi : i < 11) : CTi w l yJ0_isLatin1_aae02 (wsy yJ0_isLatin1_aae02 prog_13_method_154_code 1 (some .boolean)) (rmL 1) [.ref (wa w i)] v (fun (r : Int32) (u : St) => u = v ∧ r.toInt = 1) := by
  generalize hpost : (fun (r : Int32) (u : St) => u = v ∧ r.toInt = 1) = post
  refine CTi.of prog_13_method_154_code 1 (some .boolean) "java/lang/String" (by decide +kernel) rfl hq hw (Nat.le_of_ble_eq_true rfl) ?_
  intro pg en s m ar bl me cd ls E I hr hlk hl
  have hx := E.1.1
  have hb := E.1.2.1
  have hl : lv_has ls 1 [(0, .ref (wa w i))] := hl
  have hO := (E.2.2.2.2.2.1.1 i hi).2.1
  refine va_gets hx hb E.2.2.2.2.2.2.1 I.2.1 E.1.2.2.2.1 (Ew E mw_2_155 rfl) (fun _ h => h) dJ0_isLatin1_aae02_0 ?_
  refine bz_eq E (a := 1) rfl (tgt := 17) dJ0_isLatin1_aae02_3 (by decide) (fun c => ?_) (fun c => ?_)
  · exfalso; omega
  · refine lv_aload_n hx hb dJ0_isLatin1_aae02_6 rfl (lv_at hl 0 rfl) ?_
    refine vk_getf hx hb hO I.2.1 E.1.2.2.2.1 (Ew E mw_6_142 rfl) (fun _ h => h) dJ0_isLatin1_aae02_7 ?_
    refine bz_ne E (a := 0) rfl (tgt := 17) dJ0_isLatin1_aae02_10 (by decide) (fun c2 => ?_) (fun c2 => ?_)
    · exfalso; omega
    · refine lv_iconst (v := 1) hx hb dJ0_isLatin1_aae02_13 (by decide) ?_
      refine lv_goto (tgt := 18) hx hb dJ0_isLatin1_aae02_14 (by decide) ?_
      exact rI E I hr hlk rfl (by rw [← hpost]; exact ⟨rfl, rfl⟩) dJ0_isLatin1_aae02_18
set_option maxHeartbeats 4000000 in
set_option maxRecDepth 100000 in
theorem c_J0_length (l : Launch) (w : Wp) (g : Nat → Nat → Int32) (v : St) (i : Nat) (hq : Inj w) (hw : WF (wk w) g v) (hi : i < 11) : CTi w l yJ0_length_8abf5 (wsy yJ0_length_8abf5 prog_13_method_54_code 1 (some .int)) (rmL 2) [.ref (wa w i)] v (fun (r : Int32) (u : St) => u = v ∧ r.toInt = (sln.getD i 0 : Nat)) := by
  generalize hpost : (fun (r : Int32) (u : St) => u = v ∧ r.toInt = (sln.getD i 0 : Nat)) = post
  refine CTi.of prog_13_method_54_code 1 (some .int) "java/lang/String" (by decide +kernel) rfl hq hw (Nat.le_of_ble_eq_true rfl) ?_
  intro pg en s m ar bl me cd ls E I hr hlk hl
  have hx := E.1.1
  have hb := E.1.2.1
  have hl : lv_has ls 1 [(0, .ref (wa w i))] := hl
  have hS := E.2.2.2.2.2.1
  have hT := (hS.1 i hi).2.2.2
  refine lv_aload_n hx hb dJ0_length_8abf5_0 rfl (lv_at hl 0 rfl) ?_
  refine vk_getf hx hb (hS.1 i hi).2.2.1 I.2.1 E.1.2.2.2.1 (Ew E mw_6_141 rfl) (fun _ h => h) dJ0_length_8abf5_1 ?_
  refine va_tlen hx hb hT I.2.1 rfl dJ0_length_8abf5_4 ?_
  refine lv_aload_n hx hb dJ0_length_8abf5_5 rfl (lv_at hl 0 rfl) ?_
  refine cVxi E I (c_J0_coder l w g v i E.2.2.1 I.2.2 hi) (cwV 0 E.1.2.2.2.2 (gWs (C := "java/lang/String") mw_2_151 mw_2_152 mw_2_153 mw_1_10 mw_2_154) rfl rfl rfl (by decide +kernel) ⟨by decide, by decide⟩) (vk_recv hS hi I.2.1) rfl hl.1 rfl (Nat.le_of_ble_eq_true rfl) dJ0_length_8abf5_6 ⟨Nat.le_refl _, Nat.le_refl _⟩ (fun r1 u1 H lo hp hPS => ?_)
  obtain ⟨hu, h0⟩ := hp
  rw [hu] at hPS
  have I : Wo w g s.heap v H lo := ⟨hPS.1, hPS.2, I.2.2⟩
  have hz : r1 = 0 := Int32.toInt_inj.mp (by rw [h0]; rfl)
  rw [hz]
  refine lv_ishr hx hb dJ0_length_8abf5_9 ?_
  exact rI E I hr hlk rfl (by rw [← hpost]; exact ⟨rfl, sl_shr i hi⟩) dJ0_length_8abf5_10
set_option maxHeartbeats 4000000 in
set_option maxRecDepth 100000 in
theorem c_J0_charAt (l : Launch) (w : Wp) (g : Nat → Nat → Int32) (v : St) (i : Nat) (a0 : Int32) (hq : Inj w) (hw : WF (wk w) g v) (hi : i < 11) (h : 0 ≤ a0.toInt ∧ a0.toInt < (sln.getD i 0 : Nat)) : CTi w l yJ0_charAt_5068e (wsy yJ0_charAt_5068e prog_13_method_56_code 2 (some .char)) (rmL 4) [.ref (wa w i), .int a0] v (fun (r : Int32) (u : St) => u = v ∧ r = chz i a0.toNatClampNeg) := by
  generalize hpost : (fun (r : Int32) (u : St) => u = v ∧ r = chz i a0.toNatClampNeg) = post
  refine CTi.of prog_13_method_56_code 2 (some .char) "java/lang/String" (by decide +kernel) rfl hq hw (Nat.le_of_ble_eq_true rfl) ?_
  intro pg en s m ar bl me cd ls E I hr hlk hl
  have hx := E.1.1
  have hb := E.1.2.1
  have hl : lv_has ls 2 [(0, .ref (wa w i)), (1, .int a0)] := hl
  have hS := E.2.2.2.2.2.1
  refine lv_aload_n hx hb dJ0_charAt_5068e_0 rfl (lv_at hl 0 rfl) ?_
  refine cVxi E I (c_J0_isLatin1 l w g v i E.2.2.1 I.2.2 hi) (cwV 0 E.1.2.2.2.2 (gWs (C := "java/lang/String") mw_2_161 mw_2_162 mw_2_163 mw_1_10 mw_2_164) rfl rfl rfl (by decide +kernel) ⟨by decide, by decide⟩) (vk_recv hS hi I.2.1) rfl hl.1 rfl (Nat.le_of_ble_eq_true rfl) dJ0_charAt_5068e_1 ⟨Nat.le_refl _, Nat.le_refl _⟩ (fun r1 u1 H lo hp hPS => ?_)
  obtain ⟨hu, h0⟩ := hp
  rw [hu] at hPS
  have I : Wo w g s.heap v H lo := ⟨hPS.1, hPS.2, I.2.2⟩
  refine bz_eq E (a := r1.toInt) rfl (tgt := 16) dJ0_charAt_5068e_4 (by decide) (fun c => ?_) (fun c => ?_)
  · exfalso; omega
  · refine lv_aload_n hx hb dJ0_charAt_5068e_7 rfl (lv_at hl 0 rfl) ?_
    refine vk_getf hx hb (hS.1 i hi).2.2.1 I.2.1 E.1.2.2.2.1 (Ew E mw_6_141 rfl) (fun _ h => h) dJ0_charAt_5068e_8 ?_
    refine lv_iload_n hx hb dJ0_charAt_5068e_11 rfl (lv_at hl 1 rfl) ?_
    refine cSi E I (c_J1_charAt l w g v i a0 E.2.2.1 I.2.2 hi h) (va_cwS 2 E.1.2.2.2.2 (gSs mw_2_165 mw_2_166 mw_1_11 mw_2_167) rfl rfl rfl (by decide +kernel) ⟨by decide, by decide⟩) rfl hl.1 rfl (Nat.le_of_ble_eq_true rfl) dJ0_charAt_5068e_12 ⟨Nat.le_refl _, Nat.le_refl _⟩ (fun r2 u2 H lo hp hPS => ?_)
    obtain ⟨hu, hz⟩ := hp
    rw [hu] at hPS
    have I : Wo w g s.heap v H lo := ⟨hPS.1, hPS.2, I.2.2⟩
    rw [hz]
    exact rI E I hr hlk (show narrow .char (.int (chz i a0.toNatClampNeg)) = .int (chz i a0.toNatClampNeg) from pk_nc _) (by rw [← hpost]; exact ⟨rfl, rfl⟩) dJ0_charAt_5068e_15
def F_X5_isName (k0 i : Nat) (v : St) : Int32 :=
  xl (v.1 k0 3) fun x1 =>
  if x1.toInt = 1 then (
  xl (v.1 k0 5) fun x2 =>
  xl (v.1 k0 4) fun x3 =>
  if (x2 - x3).toInt = (sln.getD i 0 : Nat) then (
  xl (fun (self : Int32 → Int32) (y : Int32) => if y.toInt < (sln.getD i 0 : Nat) then (if (F_X5_byteAt k0 (x3 + y) v).toInt = (chz i y.toNatClampNeg).toInt then self (y + 1) else (0 : Int32)) else (1 : Int32)) fun P =>
  lp P (fun _ => (0 : Int32)) ((2147483647 - (0 : Int32).toInt).toNat + 1) (0 : Int32)) else (0 : Int32)) else (0 : Int32)
set_option maxHeartbeats 4000000 in
set_option maxRecDepth 100000 in
theorem c_X5_isName (l : Launch) (w : Wp) (g : Nat → Nat → Int32) (v : St) (k0 : Nat) (i : Nat) (hq : Inj w) (hw : WF (wk w) g v) (h_k0 : oT w k0) (hi : i < 11) : CTi w l yX5_isName (wsy yX5_isName prog_7_method_23_code 3 (some .boolean)) (rmL 5) [.ref (wq w k0), .ref (wa w i)] v (fun (r : Int32) (u : St) => (u = v ∧ 0 ≤ r.toInt ∧ r.toInt ≤ 1) ∧ (r = F_X5_isName k0 i v) ∧ True) := by
  generalize hpost : (fun (r : Int32) (u : St) => (u = v ∧ 0 ≤ r.toInt ∧ r.toInt ≤ 1) ∧ (r = F_X5_isName k0 i v) ∧ True) = post
  refine CTi.of prog_7_method_23_code 3 (some .boolean) "StarWalk$Tape" (by decide +kernel) rfl hq hw (Nat.le_of_ble_eq_true rfl) ?_
  intro pg en s m ar bl me cd ls E I hr hlk hl
  have hx := E.1.1
  have hb := E.1.2.1
  have hl : lv_has ls 3 [(0, .ref (wq w k0)), (1, .ref (wa w i))] := hl
  have hsl := sl_rng i hi
  obtain ⟨res, hres⟩ : ∃ z, z = F_X5_isName k0 i v := ⟨_, rfl⟩
  have hF := hres.symm
  unfold F_X5_isName at hF
  replace hres : res = F_X5_isName k0 i v := hres
  have L_28 : ∀ (P : (Int32 → Int32) → (Int32 → Int32)), P = (fun (self : Int32 → Int32) (y : Int32) => if y.toInt < (sln.getD i 0 : Nat) then (if (F_X5_byteAt k0 (v.1 k0 4 + y) v).toInt = (chz i y.toNatClampNeg).toInt then self (y + 1) else (0 : Int32)) else (1 : Int32)) → ∀ (n : Nat), ∀ (H : Heap) (lo : List Loc), Wo w g s.heap v H lo → ∀ (y : Int32), (0 ≤ y.toInt ∧ y.toInt ≤ 20) → lp P (fun _ => (0 : Int32)) n y = res → (2147483647 - y.toInt).toNat < n → ∀ (ls : Array Slot), lv_has ls 3 [(0, .ref (wq w k0)), (1, .ref (wa w i)), (2, .int y)] → W pg l en (rmL 5) s m ar bl me cd H lo 0 0 (Zi w bl ar s post) (F0 m 28 ls []) := by
    intro P eP n
    induction n with
    | zero => intro H lo I y hy hF hm; exact absurd hm (Nat.not_lt_zero _)
    | succ n ih =>
      intro H lo I y hy hF hm ls hl
      replace hF := lpa1 eP hF
      refine lv_iload_n hx hb dX5_isName_28 rfl (lv_at hl 2 rfl) ?_
      refine lv_aload_n hx hb dX5_isName_29 rfl (lv_at hl 1 rfl) ?_
      refine cVxi E I (c_J0_length l w g v i E.2.2.1 I.2.2 hi) (cwV 0 E.1.2.2.2.2 (gWs (C := "java/lang/String") mw_2_147 mw_2_148 mw_2_149 mw_1_10 mw_2_150) rfl rfl rfl (by decide +kernel) ⟨by decide, by decide⟩) (vk_recv E.2.2.2.2.2.1 hi I.2.1) rfl hl.1 rfl (Nat.le_of_ble_eq_true rfl) dX5_isName_30 ⟨Nat.le_refl _, Nat.le_refl _⟩ (fun r30 u30 H lo hp hPS => ?_)
      obtain ⟨hu, hln⟩ := hp
      rw [hu] at hPS
      have I : Wo w g s.heap v H lo := ⟨hPS.1, hPS.2, I.2.2⟩
      refine bi_ge E (a := y.toInt) (b := r30.toInt) rfl rfl (tgt := 62) dX5_isName_33 (by decide) (fun c1 => ?_) (fun c1 => ?_)
      · replace hF := if_l (by omega) hF
        refine lv_iconst (v := 1) hx hb dX5_isName_62 (by decide) ?_
        exact rI E I hr hlk rfl (by rw [← hpost]; exact ⟨⟨rfl, by decide⟩, hF.trans hres, trivial⟩) dX5_isName_63
      · replace hF := if_t (by omega) hF
        refine lv_aload_n hx hb dX5_isName_36 rfl (lv_at hl 0 rfl) ?_
        refine lv_aload_n hx hb dX5_isName_37 rfl (lv_at hl 0 rfl) ?_
        refine g_Tape_first E I h_k0.1 mw_1_175 dX5_isName_38 ?_
        refine lv_topi (fun x1 ex1 => ?_)
        refine lv_iload_n hx hb dX5_isName_41 rfl (lv_at hl 2 rfl) ?_
        refine lv_iadd hx hb dX5_isName_42 ?_
        refine lv_topi (fun x2 ex2 => ?_)
        refine cVi E I (c_X5_byteAt l w g v k0 x2 E.2.2.1 I.2.2 h_k0) (cwV 1 E.1.2.2.2.2 (gWs (C := "StarWalk$Tape") mw_2_127 mw_2_129 mw_s_1 mw_1_2 mw_2_130) rfl rfl rfl (by decide +kernel) ⟨by decide, by decide⟩) h_k0.1.1 ((ce_o h_k0.1.2).trans rfl) rfl rfl hl.1 rfl (Nat.le_of_ble_eq_true rfl) dX5_isName_43 ⟨Nat.le_refl _, Nat.le_refl _⟩ (fun r43 u43 H lo hp hPS => ?_)
        obtain ⟨⟨hu, -⟩, hex43, -⟩ := hp
        rw [hu] at hPS
        have I : Wo w g s.heap v H lo := ⟨hPS.1, hPS.2, I.2.2⟩
        refine lv_aload_n hx hb dX5_isName_46 rfl (lv_at hl 1 rfl) ?_
        refine lv_iload_n hx hb dX5_isName_47 rfl (lv_at hl 2 rfl) ?_
        refine cVxi E I (c_J0_charAt l w g v i y E.2.2.1 I.2.2 hi (by omega)) (cwV 1 E.1.2.2.2.2 (gWs (C := "java/lang/String") mw_2_157 mw_2_158 mw_2_159 mw_1_10 mw_2_160) rfl rfl rfl (by decide +kernel) ⟨by decide, by decide⟩) (vk_recv E.2.2.2.2.2.1 hi I.2.1) rfl hl.1 rfl (Nat.le_of_ble_eq_true rfl) dX5_isName_48 ⟨Nat.le_refl _, Nat.le_refl _⟩ (fun r48 u48 H lo hp hPS => ?_)
        obtain ⟨hu, hch48⟩ := hp
        rw [hu] at hPS
        have I : Wo w g s.heap v H lo := ⟨hPS.1, hPS.2, I.2.2⟩
        refine bi_eq E (a := r43.toInt) (b := r48.toInt) rfl rfl (tgt := 56) dX5_isName_51 (by decide) (fun c2 => ?_) (fun c2 => ?_)
        · replace hF := if_t (by rw [← ex1, ← ex2, ← hex43, ← hch48]; exact c2) hF
          obtain ⟨y2, ey2⟩ : ∃ z : Int32, z = y + 1 := ⟨_, rfl⟩
          have hy2 : y2.toInt = y.toInt + 1 := by rw [ey2]; exact adI (a := y.toInt) (b := 1) rfl rfl (by omega) (by omega)
          refine lv_iinc (v := y2) (lv' := [(2, .int y2), (0, .ref (wq w k0)), (1, .ref (wa w i))]) hx hb dX5_isName_56 hl (k := 2) rfl (by rw [ey2]; rfl) (by decide) rfl (fun ls hl => ?_)
          refine lv_goto (tgt := 28) hx hb dX5_isName_59 (by decide) ?_
          exact ih _ _ I y2 (by omega) (by rw [ey2]; exact hF) (by omega) ls (lv_sub hl [1, 2, 0] rfl)
        · replace hF := if_f (by rw [← ex1, ← ex2, ← hex43, ← hch48]; exact c2) hF
          refine lv_iconst (v := 0) hx hb dX5_isName_54 (by decide) ?_
          exact rI E I hr hlk rfl (by rw [← hpost]; exact ⟨⟨rfl, by decide⟩, hF.trans hres, trivial⟩) dX5_isName_55
  refine lv_aload_n hx hb dX5_isName_0 rfl (lv_at hl 0 rfl) ?_
  refine g_Tape_kind E I h_k0.1 mw_1_174 dX5_isName_1 ?_
  refine lv_topi (fun x1 ex1 => ?_)
  refine lv_iconst (v := 1) hx hb dX5_isName_4 (by decide) ?_
  refine bi_ne E (a := x1.toInt) (b := 1) rfl rfl (tgt := 24) dX5_isName_5 (by decide) (fun c1 => ?_) (fun c1 => ?_)
  · replace hF := if_f (fun z => c1 (by rw [ex1]; exact z)) hF
    refine lv_iconst (v := 0) hx hb dX5_isName_24 (by decide) ?_
    exact rI E I hr hlk rfl (by rw [← hpost]; exact ⟨⟨rfl, by decide⟩, hF.trans hres, trivial⟩) dX5_isName_25
  · replace hF := if_t (by rw [← ex1]; exact c1) hF
    refine lv_aload_n hx hb dX5_isName_8 rfl (lv_at hl 0 rfl) ?_
    refine g_Tape_behind E I h_k0.1 mw_1_176 dX5_isName_9 ?_
    refine lv_topi (fun x2 ex2 => ?_)
    refine lv_aload_n hx hb dX5_isName_12 rfl (lv_at hl 0 rfl) ?_
    refine g_Tape_first E I h_k0.1 mw_1_175 dX5_isName_13 ?_
    refine lv_topi (fun x3 ex3 => ?_)
    refine lv_isub hx hb dX5_isName_16 ?_
    refine lv_topi (fun x4 ex4 => ?_)
    refine lv_aload_n hx hb dX5_isName_17 rfl (lv_at hl 1 rfl) ?_
    refine cVxi E I (c_J0_length l w g v i E.2.2.1 I.2.2 hi) (cwV 0 E.1.2.2.2.2 (gWs (C := "java/lang/String") mw_2_147 mw_2_148 mw_2_149 mw_1_10 mw_2_150) rfl rfl rfl (by decide +kernel) ⟨by decide, by decide⟩) (vk_recv E.2.2.2.2.2.1 hi I.2.1) rfl hl.1 rfl (Nat.le_of_ble_eq_true rfl) dX5_isName_18 ⟨Nat.le_refl _, Nat.le_refl _⟩ (fun r18 u18 H lo hp hPS => ?_)
    obtain ⟨hu, hln⟩ := hp
    rw [hu] at hPS
    have I : Wo w g s.heap v H lo := ⟨hPS.1, hPS.2, I.2.2⟩
    refine bi_eq E (a := x4.toInt) (b := r18.toInt) rfl rfl (tgt := 26) dX5_isName_21 (by decide) (fun c2 => ?_) (fun c2 => ?_)
    · replace hF := if_t (by rw [← ex2, ← ex3, ← ex4, ← hln]; exact c2) hF
      obtain ⟨P, eP, hF⟩ := xl_e hF
      refine lv_iconst (v := 0) hx hb dX5_isName_26 (by decide) ?_
      refine lv_istore_n (lv' := [(2, .int 0), (0, .ref (wq w k0)), (1, .ref (wa w i))]) hx hb dX5_isName_27 rfl hl (by decide) rfl (fun ls hl => ?_)
      exact L_28 P eP _ _ _ I 0 (by decide) hF (Nat.lt_succ_self _) ls (lv_sub hl [1, 2, 0] rfl)
    · replace hF := if_f (by rw [← ex2, ← ex3, ← ex4, ← hln]; exact c2) hF
      refine lv_iconst (v := 0) hx hb dX5_isName_24 (by decide) ?_
      exact rI E I hr hlk rfl (by rw [← hpost]; exact ⟨⟨rfl, by decide⟩, hF.trans hres, trivial⟩) dX5_isName_25
def F_X5_readLine (k0 : Nat) (v : St) : St :=
xl (F_X5_isName k0 0 v) fun r1 =>
if r1.toInt = 0 then (
xl (F_X5_isName k0 1 v) fun r5 =>
if r5.toInt = 0 then (
xl (F_X5_isName k0 2 v) fun r9 =>
if r9.toInt = 0 then (
xl (F_X5_isName k0 3 v) fun r13 =>
if r13.toInt = 0 then (
xl (F_X5_isName k0 4 v) fun r17 =>
if r17.toInt = 0 then (
xl (F_X5_isName k0 5 v) fun r21 =>
if r21.toInt = 0 then (
xl (F_X5_isName k0 6 v) fun r25 =>
if r25.toInt = 0 then (
xl (F_X5_isName k0 7 v) fun r29 =>
if r29.toInt = 0 then (
xl (F_X5_isName k0 8 v) fun r33 =>
if r33.toInt = 0 then (
xl (F_X5_isName k0 9 v) fun r37 =>
if r37.toInt = 0 then (
xl (F_X5_isName k0 10 v) fun r41 =>
if r41.toInt = 0 then (
xl (v.1 k0 4) fun x45 =>
xl (F_X5_refuse k0 (2 : Int32) x45 v) fun u46 =>
u46) else (
xl (F_X5_readPlan k0 v) fun u48 =>
u48)) else (
xl (F_X5_readCloud k0 v) fun u50 =>
u50)) else (
xl (F_X5_readWater k0 v) fun u52 =>
u52)) else (
xl (F_X5_readWind k0 v) fun u54 =>
u54)) else (
xl (F_X5_readWell k0 v) fun u56 =>
u56)) else (
xl (F_X5_readWalker k0 (3 : Int32) v) fun u58 =>
u58)) else (
xl (F_X5_readWalker k0 (2 : Int32) v) fun u60 =>
u60)) else (
xl (F_X5_readWalker k0 (1 : Int32) v) fun u62 =>
u62)) else (
xl (F_X5_readWalker k0 (0 : Int32) v) fun u64 =>
u64)) else (
xl (F_X5_readKnown k0 v) fun u66 =>
u66)) else (
xl (F_X5_readStar k0 v) fun u68 =>
u68)
set_option maxHeartbeats 4000000 in
set_option maxRecDepth 100000 in
theorem c_X5_readLine (l : Launch) (w : Wp) (g : Nat → Nat → Int32) (v : St) (k0 : Nat) (hq : Inj w) (hw : WF (wk w) g v) (h_k0 : oT w k0) : CTv w l yX5_readLine (wsy yX5_readLine prog_7_method_6_code 1 none) (rmL 6) [.ref (wq w k0)] v (fun (u : St) => (WF (wk w) g u ∧ True) ∧ (u = F_X5_readLine k0 v) ∧ (∀ k j : Nat, ¬ ((k = k0 ∧ ¬ j = 1) ∨ (k0 + 2 ≤ k ∧ k < k0 + 11)) → u.1 k j = v.1 k j)) := by
  generalize hpost : (fun (u : St) => (WF (wk w) g u ∧ True) ∧ (u = F_X5_readLine k0 v) ∧ (∀ k j : Nat, ¬ ((k = k0 ∧ ¬ j = 1) ∨ (k0 + 2 ≤ k ∧ k < k0 + 11)) → u.1 k j = v.1 k j)) = post
  refine CTv.of prog_7_method_6_code 1 none "StarWalk$Tape" (by decide +kernel) rfl hq hw (Nat.le_of_ble_eq_true rfl) ?_
  intro pg en s m ar bl me cd ls E I hr hlk hl
  have hx := E.1.1
  have hb := E.1.2.1
  have hl : lv_has ls 1 [(0, .ref (wq w k0))] := hl
  obtain ⟨res, hres⟩ : ∃ z, z = F_X5_readLine k0 v := ⟨_, rfl⟩
  have hF := hres.symm
  unfold F_X5_readLine at hF
  replace hres : res = F_X5_readLine k0 v := hres
  have rz0 : ∀ k j : Nat, ¬ ((k = k0 ∧ ¬ j = 1) ∨ (k0 + 2 ≤ k ∧ k < k0 + 11)) → v.1 k j = v.1 k j := fun _ _ _ => rfl
  refine lv_aload_n hx hb dX5_readLine_0 rfl (lv_at hl 0 rfl) ?_
  refine va_ldcS hx hb E.1.2.2.2.1 (E.2.2.2.2.1.1) dX5_readLine_1 ?_
  refine cVi E I (c_X5_isName l w g v k0 0 E.2.2.1 I.2.2 h_k0 (by decide) ) (cwV 1 E.1.2.2.2.2 (gWs (C := "StarWalk$Tape") mw_2_143 mw_2_145 mw_s_4 mw_1_2 mw_2_146) rfl rfl rfl (by decide +kernel) ⟨by decide, by decide⟩) h_k0.1.1 ((ce_o h_k0.1.2).trans rfl) rfl rfl hl.1 rfl (Nat.le_of_ble_eq_true rfl) dX5_readLine_3 ⟨Nat.le_refl _, Nat.le_refl _⟩ (fun r1 u2 H lo hp hPS => ?_)
  obtain ⟨hp, hex, hfr⟩ := hp
  replace hF := xl_i hex hF
  obtain ⟨hu, p3⟩ := hp
  rw [hu] at hPS
  have I : Wo w g s.heap v H lo := ⟨hPS.1, hPS.2, I.2.2⟩
  refine bz_eq E (a := r1.toInt) rfl (tgt := 16) dX5_readLine_6 (by decide) (fun c4 => ?_) (fun c4 => ?_)
  ·
    replace hF := if_t c4 hF
    refine lv_aload_n hx hb dX5_readLine_16 rfl (lv_at hl 0 rfl) ?_
    refine va_ldcS hx hb E.1.2.2.2.1 (E.2.2.2.2.1.2.1) dX5_readLine_17 ?_
    refine cVi E I (c_X5_isName l w g v k0 1 E.2.2.1 I.2.2 h_k0 (by decide) ) (cwV 1 E.1.2.2.2.2 (gWs (C := "StarWalk$Tape") mw_2_143 mw_2_145 mw_s_4 mw_1_2 mw_2_146) rfl rfl rfl (by decide +kernel) ⟨by decide, by decide⟩) h_k0.1.1 ((ce_o h_k0.1.2).trans rfl) rfl rfl hl.1 rfl (Nat.le_of_ble_eq_true rfl) dX5_readLine_19 ⟨Nat.le_refl _, Nat.le_refl _⟩ (fun r5 u6 H lo hp hPS => ?_)
    obtain ⟨hp, hex, hfr⟩ := hp
    replace hF := xl_i hex hF
    obtain ⟨hu, p7⟩ := hp
    rw [hu] at hPS
    have I : Wo w g s.heap v H lo := ⟨hPS.1, hPS.2, I.2.2⟩
    refine bz_eq E (a := r5.toInt) rfl (tgt := 32) dX5_readLine_22 (by decide) (fun c8 => ?_) (fun c8 => ?_)
    ·
      replace hF := if_t c8 hF
      refine lv_aload_n hx hb dX5_readLine_32 rfl (lv_at hl 0 rfl) ?_
      refine va_ldcS hx hb E.1.2.2.2.1 (E.2.2.2.2.1.2.2.1) dX5_readLine_33 ?_
      refine cVi E I (c_X5_isName l w g v k0 2 E.2.2.1 I.2.2 h_k0 (by decide) ) (cwV 1 E.1.2.2.2.2 (gWs (C := "StarWalk$Tape") mw_2_143 mw_2_145 mw_s_4 mw_1_2 mw_2_146) rfl rfl rfl (by decide +kernel) ⟨by decide, by decide⟩) h_k0.1.1 ((ce_o h_k0.1.2).trans rfl) rfl rfl hl.1 rfl (Nat.le_of_ble_eq_true rfl) dX5_readLine_35 ⟨Nat.le_refl _, Nat.le_refl _⟩ (fun r9 u10 H lo hp hPS => ?_)
      obtain ⟨hp, hex, hfr⟩ := hp
      replace hF := xl_i hex hF
      obtain ⟨hu, p11⟩ := hp
      rw [hu] at hPS
      have I : Wo w g s.heap v H lo := ⟨hPS.1, hPS.2, I.2.2⟩
      refine bz_eq E (a := r9.toInt) rfl (tgt := 49) dX5_readLine_38 (by decide) (fun c12 => ?_) (fun c12 => ?_)
      ·
        replace hF := if_t c12 hF
        refine lv_aload_n hx hb dX5_readLine_49 rfl (lv_at hl 0 rfl) ?_
        refine va_ldcS hx hb E.1.2.2.2.1 (E.2.2.2.2.1.2.2.2.1) dX5_readLine_50 ?_
        refine cVi E I (c_X5_isName l w g v k0 3 E.2.2.1 I.2.2 h_k0 (by decide) ) (cwV 1 E.1.2.2.2.2 (gWs (C := "StarWalk$Tape") mw_2_143 mw_2_145 mw_s_4 mw_1_2 mw_2_146) rfl rfl rfl (by decide +kernel) ⟨by decide, by decide⟩) h_k0.1.1 ((ce_o h_k0.1.2).trans rfl) rfl rfl hl.1 rfl (Nat.le_of_ble_eq_true rfl) dX5_readLine_52 ⟨Nat.le_refl _, Nat.le_refl _⟩ (fun r13 u14 H lo hp hPS => ?_)
        obtain ⟨hp, hex, hfr⟩ := hp
        replace hF := xl_i hex hF
        obtain ⟨hu, p15⟩ := hp
        rw [hu] at hPS
        have I : Wo w g s.heap v H lo := ⟨hPS.1, hPS.2, I.2.2⟩
        refine bz_eq E (a := r13.toInt) rfl (tgt := 66) dX5_readLine_55 (by decide) (fun c16 => ?_) (fun c16 => ?_)
        ·
          replace hF := if_t c16 hF
          refine lv_aload_n hx hb dX5_readLine_66 rfl (lv_at hl 0 rfl) ?_
          refine va_ldcS hx hb E.1.2.2.2.1 (E.2.2.2.2.1.2.2.2.2.1) dX5_readLine_67 ?_
          refine cVi E I (c_X5_isName l w g v k0 4 E.2.2.1 I.2.2 h_k0 (by decide) ) (cwV 1 E.1.2.2.2.2 (gWs (C := "StarWalk$Tape") mw_2_143 mw_2_145 mw_s_4 mw_1_2 mw_2_146) rfl rfl rfl (by decide +kernel) ⟨by decide, by decide⟩) h_k0.1.1 ((ce_o h_k0.1.2).trans rfl) rfl rfl hl.1 rfl (Nat.le_of_ble_eq_true rfl) dX5_readLine_69 ⟨Nat.le_refl _, Nat.le_refl _⟩ (fun r17 u18 H lo hp hPS => ?_)
          obtain ⟨hp, hex, hfr⟩ := hp
          replace hF := xl_i hex hF
          obtain ⟨hu, p19⟩ := hp
          rw [hu] at hPS
          have I : Wo w g s.heap v H lo := ⟨hPS.1, hPS.2, I.2.2⟩
          refine bz_eq E (a := r17.toInt) rfl (tgt := 83) dX5_readLine_72 (by decide) (fun c20 => ?_) (fun c20 => ?_)
          ·
            replace hF := if_t c20 hF
            refine lv_aload_n hx hb dX5_readLine_83 rfl (lv_at hl 0 rfl) ?_
            refine va_ldcS hx hb E.1.2.2.2.1 (E.2.2.2.2.1.2.2.2.2.2.1) dX5_readLine_84 ?_
            refine cVi E I (c_X5_isName l w g v k0 5 E.2.2.1 I.2.2 h_k0 (by decide) ) (cwV 1 E.1.2.2.2.2 (gWs (C := "StarWalk$Tape") mw_2_143 mw_2_145 mw_s_4 mw_1_2 mw_2_146) rfl rfl rfl (by decide +kernel) ⟨by decide, by decide⟩) h_k0.1.1 ((ce_o h_k0.1.2).trans rfl) rfl rfl hl.1 rfl (Nat.le_of_ble_eq_true rfl) dX5_readLine_86 ⟨Nat.le_refl _, Nat.le_refl _⟩ (fun r21 u22 H lo hp hPS => ?_)
            obtain ⟨hp, hex, hfr⟩ := hp
            replace hF := xl_i hex hF
            obtain ⟨hu, p23⟩ := hp
            rw [hu] at hPS
            have I : Wo w g s.heap v H lo := ⟨hPS.1, hPS.2, I.2.2⟩
            refine bz_eq E (a := r21.toInt) rfl (tgt := 100) dX5_readLine_89 (by decide) (fun c24 => ?_) (fun c24 => ?_)
            ·
              replace hF := if_t c24 hF
              refine lv_aload_n hx hb dX5_readLine_100 rfl (lv_at hl 0 rfl) ?_
              refine va_ldcS hx hb E.1.2.2.2.1 (E.2.2.2.2.1.2.2.2.2.2.2.1) dX5_readLine_101 ?_
              refine cVi E I (c_X5_isName l w g v k0 6 E.2.2.1 I.2.2 h_k0 (by decide) ) (cwV 1 E.1.2.2.2.2 (gWs (C := "StarWalk$Tape") mw_2_143 mw_2_145 mw_s_4 mw_1_2 mw_2_146) rfl rfl rfl (by decide +kernel) ⟨by decide, by decide⟩) h_k0.1.1 ((ce_o h_k0.1.2).trans rfl) rfl rfl hl.1 rfl (Nat.le_of_ble_eq_true rfl) dX5_readLine_103 ⟨Nat.le_refl _, Nat.le_refl _⟩ (fun r25 u26 H lo hp hPS => ?_)
              obtain ⟨hp, hex, hfr⟩ := hp
              replace hF := xl_i hex hF
              obtain ⟨hu, p27⟩ := hp
              rw [hu] at hPS
              have I : Wo w g s.heap v H lo := ⟨hPS.1, hPS.2, I.2.2⟩
              refine bz_eq E (a := r25.toInt) rfl (tgt := 116) dX5_readLine_106 (by decide) (fun c28 => ?_) (fun c28 => ?_)
              ·
                replace hF := if_t c28 hF
                refine lv_aload_n hx hb dX5_readLine_116 rfl (lv_at hl 0 rfl) ?_
                refine va_ldcS hx hb E.1.2.2.2.1 (E.2.2.2.2.1.2.2.2.2.2.2.2.1) dX5_readLine_117 ?_
                refine cVi E I (c_X5_isName l w g v k0 7 E.2.2.1 I.2.2 h_k0 (by decide) ) (cwV 1 E.1.2.2.2.2 (gWs (C := "StarWalk$Tape") mw_2_143 mw_2_145 mw_s_4 mw_1_2 mw_2_146) rfl rfl rfl (by decide +kernel) ⟨by decide, by decide⟩) h_k0.1.1 ((ce_o h_k0.1.2).trans rfl) rfl rfl hl.1 rfl (Nat.le_of_ble_eq_true rfl) dX5_readLine_119 ⟨Nat.le_refl _, Nat.le_refl _⟩ (fun r29 u30 H lo hp hPS => ?_)
                obtain ⟨hp, hex, hfr⟩ := hp
                replace hF := xl_i hex hF
                obtain ⟨hu, p31⟩ := hp
                rw [hu] at hPS
                have I : Wo w g s.heap v H lo := ⟨hPS.1, hPS.2, I.2.2⟩
                refine bz_eq E (a := r29.toInt) rfl (tgt := 132) dX5_readLine_122 (by decide) (fun c32 => ?_) (fun c32 => ?_)
                ·
                  replace hF := if_t c32 hF
                  refine lv_aload_n hx hb dX5_readLine_132 rfl (lv_at hl 0 rfl) ?_
                  refine va_ldcS hx hb E.1.2.2.2.1 (E.2.2.2.2.1.2.2.2.2.2.2.2.2.1) dX5_readLine_133 ?_
                  refine cVi E I (c_X5_isName l w g v k0 8 E.2.2.1 I.2.2 h_k0 (by decide) ) (cwV 1 E.1.2.2.2.2 (gWs (C := "StarWalk$Tape") mw_2_143 mw_2_145 mw_s_4 mw_1_2 mw_2_146) rfl rfl rfl (by decide +kernel) ⟨by decide, by decide⟩) h_k0.1.1 ((ce_o h_k0.1.2).trans rfl) rfl rfl hl.1 rfl (Nat.le_of_ble_eq_true rfl) dX5_readLine_135 ⟨Nat.le_refl _, Nat.le_refl _⟩ (fun r33 u34 H lo hp hPS => ?_)
                  obtain ⟨hp, hex, hfr⟩ := hp
                  replace hF := xl_i hex hF
                  obtain ⟨hu, p35⟩ := hp
                  rw [hu] at hPS
                  have I : Wo w g s.heap v H lo := ⟨hPS.1, hPS.2, I.2.2⟩
                  refine bz_eq E (a := r33.toInt) rfl (tgt := 148) dX5_readLine_138 (by decide) (fun c36 => ?_) (fun c36 => ?_)
                  ·
                    replace hF := if_t c36 hF
                    refine lv_aload_n hx hb dX5_readLine_148 rfl (lv_at hl 0 rfl) ?_
                    refine va_ldcS hx hb E.1.2.2.2.1 (E.2.2.2.2.1.2.2.2.2.2.2.2.2.2.1) dX5_readLine_149 ?_
                    refine cVi E I (c_X5_isName l w g v k0 9 E.2.2.1 I.2.2 h_k0 (by decide) ) (cwV 1 E.1.2.2.2.2 (gWs (C := "StarWalk$Tape") mw_2_143 mw_2_145 mw_s_4 mw_1_2 mw_2_146) rfl rfl rfl (by decide +kernel) ⟨by decide, by decide⟩) h_k0.1.1 ((ce_o h_k0.1.2).trans rfl) rfl rfl hl.1 rfl (Nat.le_of_ble_eq_true rfl) dX5_readLine_151 ⟨Nat.le_refl _, Nat.le_refl _⟩ (fun r37 u38 H lo hp hPS => ?_)
                    obtain ⟨hp, hex, hfr⟩ := hp
                    replace hF := xl_i hex hF
                    obtain ⟨hu, p39⟩ := hp
                    rw [hu] at hPS
                    have I : Wo w g s.heap v H lo := ⟨hPS.1, hPS.2, I.2.2⟩
                    refine bz_eq E (a := r37.toInt) rfl (tgt := 164) dX5_readLine_154 (by decide) (fun c40 => ?_) (fun c40 => ?_)
                    ·
                      replace hF := if_t c40 hF
                      refine lv_aload_n hx hb dX5_readLine_164 rfl (lv_at hl 0 rfl) ?_
                      refine va_ldcS hx hb E.1.2.2.2.1 (E.2.2.2.2.1.2.2.2.2.2.2.2.2.2.2) dX5_readLine_165 ?_
                      refine cVi E I (c_X5_isName l w g v k0 10 E.2.2.1 I.2.2 h_k0 (by decide) ) (cwV 1 E.1.2.2.2.2 (gWs (C := "StarWalk$Tape") mw_2_143 mw_2_145 mw_s_4 mw_1_2 mw_2_146) rfl rfl rfl (by decide +kernel) ⟨by decide, by decide⟩) h_k0.1.1 ((ce_o h_k0.1.2).trans rfl) rfl rfl hl.1 rfl (Nat.le_of_ble_eq_true rfl) dX5_readLine_167 ⟨Nat.le_refl _, Nat.le_refl _⟩ (fun r41 u42 H lo hp hPS => ?_)
                      obtain ⟨hp, hex, hfr⟩ := hp
                      replace hF := xl_i hex hF
                      obtain ⟨hu, p43⟩ := hp
                      rw [hu] at hPS
                      have I : Wo w g s.heap v H lo := ⟨hPS.1, hPS.2, I.2.2⟩
                      refine bz_eq E (a := r41.toInt) rfl (tgt := 180) dX5_readLine_170 (by decide) (fun c44 => ?_) (fun c44 => ?_)
                      ·
                        replace hF := if_t c44 hF
                        refine lv_aload_n hx hb dX5_readLine_180 rfl (lv_at hl 0 rfl) ?_
                        refine lv_iconst (v := 2) hx hb dX5_readLine_181 (by decide) ?_
                        refine lv_aload_n hx hb dX5_readLine_182 rfl (lv_at hl 0 rfl) ?_
                        refine g_Tape_first E I h_k0.1 mw_1_175 dX5_readLine_183 ?_
                        refine lv_topi (fun x45 ex45 => ?_)
                        replace hF := xl_i (ex45) hF
                        refine cVv E I (c_X5_refuse l w g v k0 (2 : Int32) x45 E.2.2.1 I.2.2 h_k0  ) (cwV 2 E.1.2.2.2.2 (gWs (C := "StarWalk$Tape") mw_2_134 mw_2_136 mw_s_2 mw_1_2 mw_2_137) rfl rfl rfl (by decide +kernel) ⟨by decide, by decide⟩) h_k0.1.1 ((ce_o h_k0.1.2).trans rfl) rfl rfl hl.1 rfl (Nat.le_of_ble_eq_true rfl) dX5_readLine_186 ⟨Nat.le_refl _, Nat.le_refl _⟩ (fun u46 H lo hp hPS => ?_)
                        obtain ⟨hp, hex, hfr⟩ := hp
                        replace hF := xl_i hex hF
                        obtain ⟨hwf, p47⟩ := hp
                        have I : Wo w g s.heap u46 H lo := ⟨hPS.1, hPS.2, hwf⟩
                        have rzu46 : ∀ k j : Nat, ¬ ((k = k0 ∧ ¬ j = 1) ∨ (k0 + 2 ≤ k ∧ k < k0 + 11)) → u46.1 k j = v.1 k j := fun k j h => (hfr k j (fun z => h (by omega))).trans (rz0 k j h)
                        exact rV E I hr hlk (by rw [← hpost]; exact ⟨⟨I.2.2, trivial⟩, hF.trans hres, rzu46⟩) dX5_readLine_189
                      ·
                        replace hF := if_f c44 hF
                        refine lv_aload_n hx hb dX5_readLine_173 rfl (lv_at hl 0 rfl) ?_
                        refine cVv E I (c_X5_readPlan l w g v k0 E.2.2.1 I.2.2 h_k0  ) (cwV 0 E.1.2.2.2.2 (gWs (C := "StarWalk$Tape") mw_3_32 mw_3_34 mw_s_17 mw_1_2 mw_3_35) rfl rfl rfl (by decide +kernel) ⟨by decide, by decide⟩) h_k0.1.1 ((ce_o h_k0.1.2).trans rfl) rfl rfl hl.1 rfl (Nat.le_of_ble_eq_true rfl) dX5_readLine_174 ⟨Nat.le_refl _, Nat.le_refl _⟩ (fun u48 H lo hp hPS => ?_)
                        obtain ⟨hp, hex, hfr⟩ := hp
                        replace hF := xl_i hex hF
                        obtain ⟨hwf, p49⟩ := hp
                        have I : Wo w g s.heap u48 H lo := ⟨hPS.1, hPS.2, hwf⟩
                        have rzu48 : ∀ k j : Nat, ¬ ((k = k0 ∧ ¬ j = 1) ∨ (k0 + 2 ≤ k ∧ k < k0 + 11)) → u48.1 k j = v.1 k j := fun k j h => (hfr k j (fun z => h (by rcases z with z | z <;> omega))).trans (rz0 k j h)
                        refine lv_goto (tgt := 189) hx hb dX5_readLine_177 (by decide) ?_
                        exact rV E I hr hlk (by rw [← hpost]; exact ⟨⟨I.2.2, trivial⟩, hF.trans hres, rzu48⟩) dX5_readLine_189
                    ·
                      replace hF := if_f c40 hF
                      refine lv_aload_n hx hb dX5_readLine_157 rfl (lv_at hl 0 rfl) ?_
                      refine cVv E I (c_X5_readCloud l w g v k0 E.2.2.1 I.2.2 h_k0  ) (cwV 0 E.1.2.2.2.2 (gWs (C := "StarWalk$Tape") mw_3_23 mw_3_25 mw_s_16 mw_1_2 mw_3_26) rfl rfl rfl (by decide +kernel) ⟨by decide, by decide⟩) h_k0.1.1 ((ce_o h_k0.1.2).trans rfl) rfl rfl hl.1 rfl (Nat.le_of_ble_eq_true rfl) dX5_readLine_158 ⟨Nat.le_refl _, Nat.le_refl _⟩ (fun u50 H lo hp hPS => ?_)
                      obtain ⟨hp, hex, hfr⟩ := hp
                      replace hF := xl_i hex hF
                      obtain ⟨hwf, p51⟩ := hp
                      have I : Wo w g s.heap u50 H lo := ⟨hPS.1, hPS.2, hwf⟩
                      have rzu50 : ∀ k j : Nat, ¬ ((k = k0 ∧ ¬ j = 1) ∨ (k0 + 2 ≤ k ∧ k < k0 + 11)) → u50.1 k j = v.1 k j := fun k j h => (hfr k j (fun z => h (by rcases z with z | z <;> omega))).trans (rz0 k j h)
                      refine lv_goto (tgt := 189) hx hb dX5_readLine_161 (by decide) ?_
                      exact rV E I hr hlk (by rw [← hpost]; exact ⟨⟨I.2.2, trivial⟩, hF.trans hres, rzu50⟩) dX5_readLine_189
                  ·
                    replace hF := if_f c36 hF
                    refine lv_aload_n hx hb dX5_readLine_141 rfl (lv_at hl 0 rfl) ?_
                    refine cVv E I (c_X5_readWater l w g v k0 E.2.2.1 I.2.2 h_k0  ) (cwV 0 E.1.2.2.2.2 (gWs (C := "StarWalk$Tape") mw_3_18 mw_3_20 mw_s_15 mw_1_2 mw_3_21) rfl rfl rfl (by decide +kernel) ⟨by decide, by decide⟩) h_k0.1.1 ((ce_o h_k0.1.2).trans rfl) rfl rfl hl.1 rfl (Nat.le_of_ble_eq_true rfl) dX5_readLine_142 ⟨Nat.le_refl _, Nat.le_refl _⟩ (fun u52 H lo hp hPS => ?_)
                    obtain ⟨hp, hex, hfr⟩ := hp
                    replace hF := xl_i hex hF
                    obtain ⟨hwf, p53⟩ := hp
                    have I : Wo w g s.heap u52 H lo := ⟨hPS.1, hPS.2, hwf⟩
                    have rzu52 : ∀ k j : Nat, ¬ ((k = k0 ∧ ¬ j = 1) ∨ (k0 + 2 ≤ k ∧ k < k0 + 11)) → u52.1 k j = v.1 k j := fun k j h => (hfr k j (fun z => h (by rcases z with z | z <;> omega))).trans (rz0 k j h)
                    refine lv_goto (tgt := 189) hx hb dX5_readLine_145 (by decide) ?_
                    exact rV E I hr hlk (by rw [← hpost]; exact ⟨⟨I.2.2, trivial⟩, hF.trans hres, rzu52⟩) dX5_readLine_189
                ·
                  replace hF := if_f c32 hF
                  refine lv_aload_n hx hb dX5_readLine_125 rfl (lv_at hl 0 rfl) ?_
                  refine cVv E I (c_X5_readWind l w g v k0 E.2.2.1 I.2.2 h_k0  ) (cwV 0 E.1.2.2.2.2 (gWs (C := "StarWalk$Tape") mw_3_13 mw_3_15 mw_s_14 mw_1_2 mw_3_16) rfl rfl rfl (by decide +kernel) ⟨by decide, by decide⟩) h_k0.1.1 ((ce_o h_k0.1.2).trans rfl) rfl rfl hl.1 rfl (Nat.le_of_ble_eq_true rfl) dX5_readLine_126 ⟨Nat.le_refl _, Nat.le_refl _⟩ (fun u54 H lo hp hPS => ?_)
                  obtain ⟨hp, hex, hfr⟩ := hp
                  replace hF := xl_i hex hF
                  obtain ⟨hwf, p55⟩ := hp
                  have I : Wo w g s.heap u54 H lo := ⟨hPS.1, hPS.2, hwf⟩
                  have rzu54 : ∀ k j : Nat, ¬ ((k = k0 ∧ ¬ j = 1) ∨ (k0 + 2 ≤ k ∧ k < k0 + 11)) → u54.1 k j = v.1 k j := fun k j h => (hfr k j (fun z => h (by rcases z with z | z <;> omega))).trans (rz0 k j h)
                  refine lv_goto (tgt := 189) hx hb dX5_readLine_129 (by decide) ?_
                  exact rV E I hr hlk (by rw [← hpost]; exact ⟨⟨I.2.2, trivial⟩, hF.trans hres, rzu54⟩) dX5_readLine_189
              ·
                replace hF := if_f c28 hF
                refine lv_aload_n hx hb dX5_readLine_109 rfl (lv_at hl 0 rfl) ?_
                refine cVv E I (c_X5_readWell l w g v k0 E.2.2.1 I.2.2 h_k0  ) (cwV 0 E.1.2.2.2.2 (gWs (C := "StarWalk$Tape") mw_3_4 mw_3_6 mw_s_12 mw_1_2 mw_3_7) rfl rfl rfl (by decide +kernel) ⟨by decide, by decide⟩) h_k0.1.1 ((ce_o h_k0.1.2).trans rfl) rfl rfl hl.1 rfl (Nat.le_of_ble_eq_true rfl) dX5_readLine_110 ⟨Nat.le_refl _, Nat.le_refl _⟩ (fun u56 H lo hp hPS => ?_)
                obtain ⟨hp, hex, hfr⟩ := hp
                replace hF := xl_i hex hF
                obtain ⟨hwf, p57⟩ := hp
                have I : Wo w g s.heap u56 H lo := ⟨hPS.1, hPS.2, hwf⟩
                have rzu56 : ∀ k j : Nat, ¬ ((k = k0 ∧ ¬ j = 1) ∨ (k0 + 2 ≤ k ∧ k < k0 + 11)) → u56.1 k j = v.1 k j := fun k j h => (hfr k j (fun z => h (by rcases z with z | z <;> omega))).trans (rz0 k j h)
                refine lv_goto (tgt := 189) hx hb dX5_readLine_113 (by decide) ?_
                exact rV E I hr hlk (by rw [← hpost]; exact ⟨⟨I.2.2, trivial⟩, hF.trans hres, rzu56⟩) dX5_readLine_189
            ·
              replace hF := if_f c24 hF
              refine lv_aload_n hx hb dX5_readLine_92 rfl (lv_at hl 0 rfl) ?_
              refine lv_iconst (v := 3) hx hb dX5_readLine_93 (by decide) ?_
              refine cVv E I (c_X5_readWalker l w g v k0 (3 : Int32) E.2.2.1 I.2.2 h_k0  ) (cwV 1 E.1.2.2.2.2 (gWs (C := "StarWalk$Tape") mw_2_232 mw_2_234 mw_s_11 mw_1_2 mw_2_235) rfl rfl rfl (by decide +kernel) ⟨by decide, by decide⟩) h_k0.1.1 ((ce_o h_k0.1.2).trans rfl) rfl rfl hl.1 rfl (Nat.le_of_ble_eq_true rfl) dX5_readLine_94 ⟨Nat.le_refl _, Nat.le_refl _⟩ (fun u58 H lo hp hPS => ?_)
              obtain ⟨hp, hex, hfr⟩ := hp
              replace hF := xl_i hex hF
              obtain ⟨hwf, p59⟩ := hp
              have I : Wo w g s.heap u58 H lo := ⟨hPS.1, hPS.2, hwf⟩
              have rzu58 : ∀ k j : Nat, ¬ ((k = k0 ∧ ¬ j = 1) ∨ (k0 + 2 ≤ k ∧ k < k0 + 11)) → u58.1 k j = v.1 k j := fun k j h => (hfr k j (fun z => h (by rcases z with z | z <;> omega))).trans (rz0 k j h)
              refine lv_goto (tgt := 189) hx hb dX5_readLine_97 (by decide) ?_
              exact rV E I hr hlk (by rw [← hpost]; exact ⟨⟨I.2.2, trivial⟩, hF.trans hres, rzu58⟩) dX5_readLine_189
          ·
            replace hF := if_f c20 hF
            refine lv_aload_n hx hb dX5_readLine_75 rfl (lv_at hl 0 rfl) ?_
            refine lv_iconst (v := 2) hx hb dX5_readLine_76 (by decide) ?_
            refine cVv E I (c_X5_readWalker l w g v k0 (2 : Int32) E.2.2.1 I.2.2 h_k0  ) (cwV 1 E.1.2.2.2.2 (gWs (C := "StarWalk$Tape") mw_2_232 mw_2_234 mw_s_11 mw_1_2 mw_2_235) rfl rfl rfl (by decide +kernel) ⟨by decide, by decide⟩) h_k0.1.1 ((ce_o h_k0.1.2).trans rfl) rfl rfl hl.1 rfl (Nat.le_of_ble_eq_true rfl) dX5_readLine_77 ⟨Nat.le_refl _, Nat.le_refl _⟩ (fun u60 H lo hp hPS => ?_)
            obtain ⟨hp, hex, hfr⟩ := hp
            replace hF := xl_i hex hF
            obtain ⟨hwf, p61⟩ := hp
            have I : Wo w g s.heap u60 H lo := ⟨hPS.1, hPS.2, hwf⟩
            have rzu60 : ∀ k j : Nat, ¬ ((k = k0 ∧ ¬ j = 1) ∨ (k0 + 2 ≤ k ∧ k < k0 + 11)) → u60.1 k j = v.1 k j := fun k j h => (hfr k j (fun z => h (by rcases z with z | z <;> omega))).trans (rz0 k j h)
            refine lv_goto (tgt := 189) hx hb dX5_readLine_80 (by decide) ?_
            exact rV E I hr hlk (by rw [← hpost]; exact ⟨⟨I.2.2, trivial⟩, hF.trans hres, rzu60⟩) dX5_readLine_189
        ·
          replace hF := if_f c16 hF
          refine lv_aload_n hx hb dX5_readLine_58 rfl (lv_at hl 0 rfl) ?_
          refine lv_iconst (v := 1) hx hb dX5_readLine_59 (by decide) ?_
          refine cVv E I (c_X5_readWalker l w g v k0 (1 : Int32) E.2.2.1 I.2.2 h_k0  ) (cwV 1 E.1.2.2.2.2 (gWs (C := "StarWalk$Tape") mw_2_232 mw_2_234 mw_s_11 mw_1_2 mw_2_235) rfl rfl rfl (by decide +kernel) ⟨by decide, by decide⟩) h_k0.1.1 ((ce_o h_k0.1.2).trans rfl) rfl rfl hl.1 rfl (Nat.le_of_ble_eq_true rfl) dX5_readLine_60 ⟨Nat.le_refl _, Nat.le_refl _⟩ (fun u62 H lo hp hPS => ?_)
          obtain ⟨hp, hex, hfr⟩ := hp
          replace hF := xl_i hex hF
          obtain ⟨hwf, p63⟩ := hp
          have I : Wo w g s.heap u62 H lo := ⟨hPS.1, hPS.2, hwf⟩
          have rzu62 : ∀ k j : Nat, ¬ ((k = k0 ∧ ¬ j = 1) ∨ (k0 + 2 ≤ k ∧ k < k0 + 11)) → u62.1 k j = v.1 k j := fun k j h => (hfr k j (fun z => h (by rcases z with z | z <;> omega))).trans (rz0 k j h)
          refine lv_goto (tgt := 189) hx hb dX5_readLine_63 (by decide) ?_
          exact rV E I hr hlk (by rw [← hpost]; exact ⟨⟨I.2.2, trivial⟩, hF.trans hres, rzu62⟩) dX5_readLine_189
      ·
        replace hF := if_f c12 hF
        refine lv_aload_n hx hb dX5_readLine_41 rfl (lv_at hl 0 rfl) ?_
        refine lv_iconst (v := 0) hx hb dX5_readLine_42 (by decide) ?_
        refine cVv E I (c_X5_readWalker l w g v k0 (0 : Int32) E.2.2.1 I.2.2 h_k0  ) (cwV 1 E.1.2.2.2.2 (gWs (C := "StarWalk$Tape") mw_2_232 mw_2_234 mw_s_11 mw_1_2 mw_2_235) rfl rfl rfl (by decide +kernel) ⟨by decide, by decide⟩) h_k0.1.1 ((ce_o h_k0.1.2).trans rfl) rfl rfl hl.1 rfl (Nat.le_of_ble_eq_true rfl) dX5_readLine_43 ⟨Nat.le_refl _, Nat.le_refl _⟩ (fun u64 H lo hp hPS => ?_)
        obtain ⟨hp, hex, hfr⟩ := hp
        replace hF := xl_i hex hF
        obtain ⟨hwf, p65⟩ := hp
        have I : Wo w g s.heap u64 H lo := ⟨hPS.1, hPS.2, hwf⟩
        have rzu64 : ∀ k j : Nat, ¬ ((k = k0 ∧ ¬ j = 1) ∨ (k0 + 2 ≤ k ∧ k < k0 + 11)) → u64.1 k j = v.1 k j := fun k j h => (hfr k j (fun z => h (by rcases z with z | z <;> omega))).trans (rz0 k j h)
        refine lv_goto (tgt := 189) hx hb dX5_readLine_46 (by decide) ?_
        exact rV E I hr hlk (by rw [← hpost]; exact ⟨⟨I.2.2, trivial⟩, hF.trans hres, rzu64⟩) dX5_readLine_189
    ·
      replace hF := if_f c8 hF
      refine lv_aload_n hx hb dX5_readLine_25 rfl (lv_at hl 0 rfl) ?_
      refine cVv E I (c_X5_readKnown l w g v k0 E.2.2.1 I.2.2 h_k0  ) (cwV 0 E.1.2.2.2.2 (gWs (C := "StarWalk$Tape") mw_2_220 mw_2_222 mw_s_10 mw_1_2 mw_2_223) rfl rfl rfl (by decide +kernel) ⟨by decide, by decide⟩) h_k0.1.1 ((ce_o h_k0.1.2).trans rfl) rfl rfl hl.1 rfl (Nat.le_of_ble_eq_true rfl) dX5_readLine_26 ⟨Nat.le_refl _, Nat.le_refl _⟩ (fun u66 H lo hp hPS => ?_)
      obtain ⟨hp, hex, hfr⟩ := hp
      replace hF := xl_i hex hF
      obtain ⟨hwf, p67⟩ := hp
      have I : Wo w g s.heap u66 H lo := ⟨hPS.1, hPS.2, hwf⟩
      have rzu66 : ∀ k j : Nat, ¬ ((k = k0 ∧ ¬ j = 1) ∨ (k0 + 2 ≤ k ∧ k < k0 + 11)) → u66.1 k j = v.1 k j := fun k j h => (hfr k j (fun z => h (by rcases z with z | z <;> omega))).trans (rz0 k j h)
      refine lv_goto (tgt := 189) hx hb dX5_readLine_29 (by decide) ?_
      exact rV E I hr hlk (by rw [← hpost]; exact ⟨⟨I.2.2, trivial⟩, hF.trans hres, rzu66⟩) dX5_readLine_189
  ·
    replace hF := if_f c4 hF
    refine lv_aload_n hx hb dX5_readLine_9 rfl (lv_at hl 0 rfl) ?_
    refine cVv E I (c_X5_readStar l w g v k0 E.2.2.1 I.2.2 h_k0  ) (cwV 0 E.1.2.2.2.2 (gWs (C := "StarWalk$Tape") mw_2_195 mw_2_197 mw_s_5 mw_1_2 mw_2_198) rfl rfl rfl (by decide +kernel) ⟨by decide, by decide⟩) h_k0.1.1 ((ce_o h_k0.1.2).trans rfl) rfl rfl hl.1 rfl (Nat.le_of_ble_eq_true rfl) dX5_readLine_10 ⟨Nat.le_refl _, Nat.le_refl _⟩ (fun u68 H lo hp hPS => ?_)
    obtain ⟨hp, hex, hfr⟩ := hp
    replace hF := xl_i hex hF
    obtain ⟨hwf, p69⟩ := hp
    have I : Wo w g s.heap u68 H lo := ⟨hPS.1, hPS.2, hwf⟩
    have rzu68 : ∀ k j : Nat, ¬ ((k = k0 ∧ ¬ j = 1) ∨ (k0 + 2 ≤ k ∧ k < k0 + 11)) → u68.1 k j = v.1 k j := fun k j h => (hfr k j (fun z => h (by rcases z with z | z <;> omega))).trans (rz0 k j h)
    refine lv_goto (tgt := 189) hx hb dX5_readLine_13 (by decide) ?_
    exact rV E I hr hlk (by rw [← hpost]; exact ⟨⟨I.2.2, trivial⟩, hF.trans hres, rzu68⟩) dX5_readLine_189
def F_X5_readLines (k0 : Nat) (v : St) : Int32 × St :=
xl (fun (y68_1 : Int32) (v_68 : St) =>
xl (v_68.1 k0 8) fun x1 =>
if x1.toInt = 0 then (
xl (F_X5_namesNoStar k0 v_68) fun r3 =>
if r3.toInt = 0 then (
(y68_1, v_68)) else (
xl (v_68.1 k0 1) fun x7 =>
xl (F_X5_refuse k0 (6 : Int32) x7 v_68) fun u8 =>
(y68_1, u8))) else (
(y68_1, v_68))) fun J_68 =>
xl (fun (self_33 : Int32 → St → Int32 × St) (y33_1 : Int32) (v_33 : St) =>
xl (v_33.1 k0 8) fun x10 =>
if x10.toInt = 0 then (
xl (v_33.1 k0 3) fun x12 =>
if x12.toInt = 0 then (
(J_68 y33_1 v_33)) else (
if 160 < y33_1.toInt then (
(J_68 y33_1 v_33)) else (
xl (F_X5_readLine k0 v_33) fun u15 =>
xl (y33_1 + 1) fun x17 =>
xl (F_X5_takeToken k0 u15) fun u18 =>
(self_33 x17 u18)))) else (
(J_68 y33_1 v_33))) fun P_33 =>
xl (F_X0_clear (k0 + 2) v) fun u20 =>
xl (up1 u20 k0 8 (0 : Int32)) fun v22 =>
xl (up1 v22 k0 9 (0 : Int32)) fun v23 =>
xl (up1 v23 k0 7 (0 : Int32)) fun v24 =>
xl (up1 v24 k0 5 (0 : Int32)) fun v25 =>
xl (F_X5_takeToken k0 v25) fun u26 =>
(lp P_33 (fun _ _ => ((0 : Int32), v)) ((2147483647 - (0 : Int32).toInt).toNat + 1) (0 : Int32) u26)
set_option maxHeartbeats 4000000 in
set_option maxRecDepth 100000 in
theorem c_X5_readLines (l : Launch) (w : Wp) (g : Nat → Nat → Int32) (v : St) (k0 : Nat) (hq : Inj w) (hw : WF (wk w) g v) (h_k0 : oT w k0) : CTi w l yX5_readLines (wsy yX5_readLines prog_7_method_3_code 2 (some .int)) (rmL 7) [.ref (wq w k0)] v (fun (r : Int32) (u : St) => (WF (wk w) g u ∧ True) ∧ ((r, u) = F_X5_readLines k0 v) ∧ (∀ k j : Nat, ¬ ((k = k0 ∧ ¬ j = 1) ∨ (k0 + 2 ≤ k ∧ k < k0 + 11)) → u.1 k j = v.1 k j)) := by
  generalize hpost : (fun (r : Int32) (u : St) => (WF (wk w) g u ∧ True) ∧ ((r, u) = F_X5_readLines k0 v) ∧ (∀ k j : Nat, ¬ ((k = k0 ∧ ¬ j = 1) ∨ (k0 + 2 ≤ k ∧ k < k0 + 11)) → u.1 k j = v.1 k j)) = post
  refine CTi.of prog_7_method_3_code 2 (some .int) "StarWalk$Tape" (by decide +kernel) rfl hq hw (Nat.le_of_ble_eq_true rfl) ?_
  intro pg en s m ar bl me cd ls E I hr hlk hl
  have hx := E.1.1
  have hb := E.1.2.1
  have hl : lv_has ls 2 [(0, .ref (wq w k0))] := hl
  obtain ⟨res, hres⟩ : ∃ z, z = F_X5_readLines k0 v := ⟨_, rfl⟩
  have hF := hres.symm
  unfold F_X5_readLines at hF
  replace hres : res = F_X5_readLines k0 v := hres
  have rz0 : ∀ k j : Nat, ¬ ((k = k0 ∧ ¬ j = 1) ∨ (k0 + 2 ≤ k ∧ k < k0 + 11)) → v.1 k j = v.1 k j := fun _ _ _ => rfl
  obtain ⟨J_68, eJ_68, hF⟩ := xl_e hF
  have B_68 : ∀ (H : Heap) (lo : List Loc) (v_68 : St), Wo w g s.heap v_68 H lo → ∀ (y68_1 : Int32), (0 ≤ y68_1.toInt ∧ y68_1.toInt ≤ 161) → (∀ k j : Nat, ¬ ((k = k0 ∧ ¬ j = 1) ∨ (k0 + 2 ≤ k ∧ k < k0 + 11)) → v_68.1 k j = v.1 k j) → (J_68 y68_1 v_68 = res) → ∀ (ls : Array Slot), lv_has ls 2 [(0, .ref (wq w k0)), (1, .int y68_1)] → W pg l en (rmL 7) s m ar bl me cd H lo 0 0 (Zi w bl ar s post) (F0 m 68 ls []) := by
    intro H lo v_68 I y68_1 hy68_1 rB68_Z hF ls hl
    replace hF := ap2 eJ_68 hF
    refine lv_aload_n hx hb dX5_readLines_68 rfl (lv_at hl 0 rfl) ?_
    refine g_Tape_found E I h_k0.1 mw_1_179 dX5_readLines_69 ?_
    refine lv_topi (fun x1 ex1 => ?_)
    replace hF := xl_i (ex1) hF
    refine bz_ne E (a := x1.toInt) rfl (tgt := 92) dX5_readLines_72 (by decide) (fun c2 => ?_) (fun c2 => ?_)
    ·
      replace hF := if_f c2 hF
      refine lv_iload_n hx hb dX5_readLines_92 rfl (lv_at hl 1 rfl) ?_
      exact rI E I hr hlk rfl (by rw [← hpost]; exact ⟨⟨I.2.2, trivial⟩, hF.trans hres, rB68_Z⟩) dX5_readLines_93
    ·
      replace hF := if_t c2 hF
      refine lv_aload_n hx hb dX5_readLines_75 rfl (lv_at hl 0 rfl) ?_
      refine cVi E I (c_X5_namesNoStar l w g v_68 k0 E.2.2.1 I.2.2 h_k0  ) (cwV 0 E.1.2.2.2.2 (gWs (C := "StarWalk$Tape") mw_3_40 mw_3_42 mw_s_18 mw_1_2 mw_3_43) rfl rfl rfl (by decide +kernel) ⟨by decide, by decide⟩) h_k0.1.1 ((ce_o h_k0.1.2).trans rfl) rfl rfl hl.1 rfl (Nat.le_of_ble_eq_true rfl) dX5_readLines_76 ⟨Nat.le_refl _, Nat.le_refl _⟩ (fun r3 u4 H lo hp hPS => ?_)
      obtain ⟨hp, hex, hfr⟩ := hp
      replace hF := xl_i hex hF
      obtain ⟨hu, p5⟩ := hp
      rw [hu] at hPS
      have I : Wo w g s.heap v_68 H lo := ⟨hPS.1, hPS.2, I.2.2⟩
      refine bz_eq E (a := r3.toInt) rfl (tgt := 92) dX5_readLines_79 (by decide) (fun c6 => ?_) (fun c6 => ?_)
      ·
        replace hF := if_t c6 hF
        refine lv_iload_n hx hb dX5_readLines_92 rfl (lv_at hl 1 rfl) ?_
        exact rI E I hr hlk rfl (by rw [← hpost]; exact ⟨⟨I.2.2, trivial⟩, hF.trans hres, rB68_Z⟩) dX5_readLines_93
      ·
        replace hF := if_f c6 hF
        refine lv_aload_n hx hb dX5_readLines_82 rfl (lv_at hl 0 rfl) ?_
        refine lv_bipush (v := 6) hx hb dX5_readLines_83 (by decide) ?_
        refine lv_aload_n hx hb dX5_readLines_85 rfl (lv_at hl 0 rfl) ?_
        refine g_Tape_length E I h_k0.1 mw_1_170 dX5_readLines_86 ?_
        refine lv_topi (fun x7 ex7 => ?_)
        replace hF := xl_i (ex7) hF
        have hx7 := r_Tape_length I h_k0.1
        rw [← ex7] at hx7
        refine cVv E I (c_X5_refuse l w g v_68 k0 (6 : Int32) x7 E.2.2.1 I.2.2 h_k0  ) (cwV 2 E.1.2.2.2.2 (gWs (C := "StarWalk$Tape") mw_2_134 mw_2_136 mw_s_2 mw_1_2 mw_2_137) rfl rfl rfl (by decide +kernel) ⟨by decide, by decide⟩) h_k0.1.1 ((ce_o h_k0.1.2).trans rfl) rfl rfl hl.1 rfl (Nat.le_of_ble_eq_true rfl) dX5_readLines_89 ⟨Nat.le_refl _, Nat.le_refl _⟩ (fun u8 H lo hp hPS => ?_)
        obtain ⟨hp, hex, hfr⟩ := hp
        replace hF := xl_i hex hF
        obtain ⟨hwf, p9⟩ := hp
        have I : Wo w g s.heap u8 H lo := ⟨hPS.1, hPS.2, hwf⟩
        have rzu8 : ∀ k j : Nat, ¬ ((k = k0 ∧ ¬ j = 1) ∨ (k0 + 2 ≤ k ∧ k < k0 + 11)) → u8.1 k j = v.1 k j := fun k j h => (hfr k j (fun z => h (by omega))).trans (rB68_Z k j h)
        refine lv_iload_n hx hb dX5_readLines_92 rfl (lv_at hl 1 rfl) ?_
        exact rI E I hr hlk rfl (by rw [← hpost]; exact ⟨⟨I.2.2, trivial⟩, hF.trans hres, rzu8⟩) dX5_readLines_93
  obtain ⟨P_33, eP_33, hF⟩ := xl_e hF
  have L_33 : ∀ (n : Nat), ∀ (H : Heap) (lo : List Loc) (v_33 : St), Wo w g s.heap v_33 H lo → ∀ (y33_1 : Int32), (0 ≤ y33_1.toInt ∧ y33_1.toInt ≤ 161) → (∀ k j : Nat, ¬ ((k = k0 ∧ ¬ j = 1) ∨ (k0 + 2 ≤ k ∧ k < k0 + 11)) → v_33.1 k j = v.1 k j) → (lp P_33 (fun _ _ => ((0 : Int32), v)) n y33_1 v_33 = res) → (2147483647 - y33_1.toInt).toNat < n → ∀ (ls : Array Slot), lv_has ls 2 [(0, .ref (wq w k0)), (1, .int y33_1)] → W pg l en (rmL 7) s m ar bl me cd H lo 0 0 (Zi w bl ar s post) (F0 m 33 ls []) := by
    intro n
    induction n with
    | zero => intro H lo v_33 I y33_1 hy33_1 rB33_Z hF hm; exact absurd hm (Nat.not_lt_zero _)
    | succ n ih_33 =>
      intro H lo v_33 I y33_1 hy33_1 rB33_Z hF hm ls hl
      replace hF := lpa2 eP_33 hF
      refine lv_aload_n hx hb dX5_readLines_33 rfl (lv_at hl 0 rfl) ?_
      refine g_Tape_found E I h_k0.1 mw_1_179 dX5_readLines_34 ?_
      refine lv_topi (fun x10 ex10 => ?_)
      replace hF := xl_i (ex10) hF
      refine bz_ne E (a := x10.toInt) rfl (tgt := 68) dX5_readLines_37 (by decide) (fun c11 => ?_) (fun c11 => ?_)
      ·
        replace hF := if_f c11 hF
        exact B_68 _ _ v_33 I y33_1 (by omega) rB33_Z hF ls (lv_sub hl [0, 1] rfl)
      ·
        replace hF := if_t c11 hF
        refine lv_aload_n hx hb dX5_readLines_40 rfl (lv_at hl 0 rfl) ?_
        refine g_Tape_kind E I h_k0.1 mw_1_174 dX5_readLines_41 ?_
        refine lv_topi (fun x12 ex12 => ?_)
        replace hF := xl_i (ex12) hF
        refine bz_eq E (a := x12.toInt) rfl (tgt := 68) dX5_readLines_44 (by decide) (fun c13 => ?_) (fun c13 => ?_)
        ·
          replace hF := if_t c13 hF
          exact B_68 _ _ v_33 I y33_1 (by omega) rB33_Z hF ls (lv_sub hl [0, 1] rfl)
        ·
          replace hF := if_f c13 hF
          refine lv_iload_n hx hb dX5_readLines_47 rfl (lv_at hl 1 rfl) ?_
          refine lv_sipush (v := 160) hx hb dX5_readLines_48 (by decide) ?_
          refine bi_gt E (a := y33_1.toInt) (b := 160) rfl rfl (tgt := 68) dX5_readLines_51 (by decide) (fun c14 => ?_) (fun c14 => ?_)
          ·
            replace hF := if_t c14 hF
            exact B_68 _ _ v_33 I y33_1 (by omega) rB33_Z hF ls (lv_sub hl [0, 1] rfl)
          ·
            replace hF := if_l c14 hF
            refine lv_aload_n hx hb dX5_readLines_54 rfl (lv_at hl 0 rfl) ?_
            refine cVv E I (c_X5_readLine l w g v_33 k0 E.2.2.1 I.2.2 h_k0  ) (cwV 0 E.1.2.2.2.2 (gWs (C := "StarWalk$Tape") mw_2_138 mw_2_140 mw_s_3 mw_1_2 mw_2_141) rfl rfl rfl (by decide +kernel) ⟨by decide, by decide⟩) h_k0.1.1 ((ce_o h_k0.1.2).trans rfl) rfl rfl hl.1 rfl (Nat.le_of_ble_eq_true rfl) dX5_readLines_55 ⟨Nat.le_refl _, Nat.le_refl _⟩ (fun u15 H lo hp hPS => ?_)
            obtain ⟨hp, hex, hfr⟩ := hp
            replace hF := xl_i hex hF
            obtain ⟨hwf, p16⟩ := hp
            have I : Wo w g s.heap u15 H lo := ⟨hPS.1, hPS.2, hwf⟩
            have rzu15 : ∀ k j : Nat, ¬ ((k = k0 ∧ ¬ j = 1) ∨ (k0 + 2 ≤ k ∧ k < k0 + 11)) → u15.1 k j = v.1 k j := fun k j h => (hfr k j (fun z => h (by rcases z with z | z <;> omega))).trans (rB33_Z k j h)
            obtain ⟨x17, ex17⟩ : ∃ z : Int32, z = y33_1 + 1 := ⟨_, rfl⟩
            replace hF := xl_i (ex17) hF
            have hx17 : x17.toInt = y33_1.toInt + (1) := by rw [ex17]; exact adI (a := y33_1.toInt) (b := 1) rfl rfl (by omega) (by omega)
            refine lv_iinc (v := x17) (lv' := [(1, .int x17), (0, .ref (wq w k0))]) hx hb dX5_readLines_58 hl (k := 1) rfl (by rw [ex17]; rfl) (by decide) rfl (fun ls hl => ?_)
            refine lv_aload_n hx hb dX5_readLines_61 rfl (lv_at hl 1 rfl) ?_
            refine cVv E I (c_X5_takeToken l w g u15 k0 E.2.2.1 I.2.2 h_k0  ) (cwV 0 E.1.2.2.2.2 (gWs (C := "StarWalk$Tape") mw_2_123 mw_2_125 mw_s_0 mw_1_2 mw_2_126) rfl rfl rfl (by decide +kernel) ⟨by decide, by decide⟩) h_k0.1.1 ((ce_o h_k0.1.2).trans rfl) rfl rfl hl.1 rfl (Nat.le_of_ble_eq_true rfl) dX5_readLines_62 ⟨Nat.le_refl _, Nat.le_refl _⟩ (fun u18 H lo hp hPS => ?_)
            obtain ⟨hp, hex, hfr⟩ := hp
            replace hF := xl_i hex hF
            obtain ⟨hwf, p19⟩ := hp
            have I : Wo w g s.heap u18 H lo := ⟨hPS.1, hPS.2, hwf⟩
            have rzu18 : ∀ k j : Nat, ¬ ((k = k0 ∧ ¬ j = 1) ∨ (k0 + 2 ≤ k ∧ k < k0 + 11)) → u18.1 k j = v.1 k j := fun k j h => (hfr k j (fun z => h (by omega))).trans (rzu15 k j h)
            refine lv_goto (tgt := 33) hx hb dX5_readLines_65 (by decide) ?_
            exact ih_33 _ _ u18 I x17 (by omega) rzu18 hF (by omega) ls (lv_sub hl [1, 0] rfl)
  refine lv_aload_n hx hb dX5_readLines_0 rfl (lv_at hl 0 rfl) ?_
  refine g_Tape_draft E I h_k0.1 mw_1_172 dX5_readLines_1 ?_
  refine cVv E I (c_X0_clear l w g v (k0 + 2) E.2.2.1 I.2.2 h_k0.2.2  ) (cwV 0 E.1.2.2.2.2 (gWs (C := "StarWalk$Night") mw_2_122 mw_1_74 mw_1_75 mw_1_3 mw_1_76) rfl rfl rfl (by decide +kernel) ⟨by decide, by decide⟩) h_k0.2.2.1.1 ((ce_o h_k0.2.2.1.2).trans rfl) rfl rfl hl.1 rfl (Nat.le_of_ble_eq_true rfl) dX5_readLines_4 ⟨Nat.le_refl _, Nat.le_refl _⟩ (fun u20 H lo hp hPS => ?_)
  obtain ⟨hp, hex, hfr⟩ := hp
  replace hF := xl_i hex hF
  obtain ⟨hwf, p21⟩ := hp
  have I : Wo w g s.heap u20 H lo := ⟨hPS.1, hPS.2, hwf⟩
  have rzu20 : ∀ k j : Nat, ¬ ((k = k0 ∧ ¬ j = 1) ∨ (k0 + 2 ≤ k ∧ k < k0 + 11)) → u20.1 k j = v.1 k j := fun k j h => (hfr k j (fun z => h (by omega))).trans (rz0 k j h)
  refine lv_aload_n hx hb dX5_readLines_7 rfl (lv_at hl 0 rfl) ?_
  refine lv_iconst (v := 0) hx hb dX5_readLines_8 (by decide) ?_
  refine p_Tape_found E I h_k0.1 mw_1_179 dX5_readLines_9 (fun H lo I => ?_)
  generalize ev22 : up1 u20 k0 8 (0 : Int32) = v22 at I
  replace hF := xl_i (ev22.symm) hF
  have rzv22 : ∀ k j : Nat, ¬ ((k = k0 ∧ ¬ j = 1) ∨ (k0 + 2 ≤ k ∧ k < k0 + 11)) → v22.1 k j = v.1 k j := fun k j h => fz_u ev22 (by omega) (rzu20 k j h)
  refine lv_aload_n hx hb dX5_readLines_12 rfl (lv_at hl 0 rfl) ?_
  refine lv_iconst (v := 0) hx hb dX5_readLines_13 (by decide) ?_
  refine p_Tape_foundAt E I h_k0.1 mw_1_181 dX5_readLines_14 (fun H lo I => ?_)
  generalize ev23 : up1 v22 k0 9 (0 : Int32) = v23 at I
  replace hF := xl_i (ev23.symm) hF
  have rzv23 : ∀ k j : Nat, ¬ ((k = k0 ∧ ¬ j = 1) ∨ (k0 + 2 ≤ k ∧ k < k0 + 11)) → v23.1 k j = v.1 k j := fun k j h => fz_u ev23 (by omega) (rzv22 k j h)
  refine lv_aload_n hx hb dX5_readLines_17 rfl (lv_at hl 0 rfl) ?_
  refine lv_iconst (v := 0) hx hb dX5_readLines_18 (by decide) ?_
  refine p_Tape_linesTold E I h_k0.1 mw_1_178 dX5_readLines_19 (fun H lo I => ?_)
  generalize ev24 : up1 v23 k0 7 (0 : Int32) = v24 at I
  replace hF := xl_i (ev24.symm) hF
  have rzv24 : ∀ k j : Nat, ¬ ((k = k0 ∧ ¬ j = 1) ∨ (k0 + 2 ≤ k ∧ k < k0 + 11)) → v24.1 k j = v.1 k j := fun k j h => fz_u ev24 (by omega) (rzv23 k j h)
  refine lv_aload_n hx hb dX5_readLines_22 rfl (lv_at hl 0 rfl) ?_
  refine lv_iconst (v := 0) hx hb dX5_readLines_23 (by decide) ?_
  refine p_Tape_behind E I h_k0.1 mw_1_176 dX5_readLines_24 (fun H lo I => ?_)
  generalize ev25 : up1 v24 k0 5 (0 : Int32) = v25 at I
  replace hF := xl_i (ev25.symm) hF
  have rzv25 : ∀ k j : Nat, ¬ ((k = k0 ∧ ¬ j = 1) ∨ (k0 + 2 ≤ k ∧ k < k0 + 11)) → v25.1 k j = v.1 k j := fun k j h => fz_u ev25 (by omega) (rzv24 k j h)
  refine lv_iconst (v := 0) hx hb dX5_readLines_27 (by decide) ?_
  refine lv_istore_n (lv' := [(1, .int 0), (0, .ref (wq w k0))]) hx hb dX5_readLines_28 rfl hl (by decide) rfl (fun ls hl => ?_)
  refine lv_aload_n hx hb dX5_readLines_29 rfl (lv_at hl 1 rfl) ?_
  refine cVv E I (c_X5_takeToken l w g v25 k0 E.2.2.1 I.2.2 h_k0  ) (cwV 0 E.1.2.2.2.2 (gWs (C := "StarWalk$Tape") mw_2_123 mw_2_125 mw_s_0 mw_1_2 mw_2_126) rfl rfl rfl (by decide +kernel) ⟨by decide, by decide⟩) h_k0.1.1 ((ce_o h_k0.1.2).trans rfl) rfl rfl hl.1 rfl (Nat.le_of_ble_eq_true rfl) dX5_readLines_30 ⟨Nat.le_refl _, Nat.le_refl _⟩ (fun u26 H lo hp hPS => ?_)
  obtain ⟨hp, hex, hfr⟩ := hp
  replace hF := xl_i hex hF
  obtain ⟨hwf, p27⟩ := hp
  have I : Wo w g s.heap u26 H lo := ⟨hPS.1, hPS.2, hwf⟩
  have rzu26 : ∀ k j : Nat, ¬ ((k = k0 ∧ ¬ j = 1) ∨ (k0 + 2 ≤ k ∧ k < k0 + 11)) → u26.1 k j = v.1 k j := fun k j h => (hfr k j (fun z => h (by omega))).trans (rzv25 k j h)
  exact L_33 ((2147483647 - (0 : Int32).toInt).toNat + 1) _ _ u26 I (0 : Int32) (by decide) rzu26 hF (Nat.lt_succ_self _) ls (lv_sub hl [1, 0] rfl)
def F_X7_text (k0 : Nat) (v : St) : Int32 × St :=
xl (fun (self_61 : Int32 → Int32 → St → Int32 × St) (y61_1 : Int32) (y61_2 : Int32) (v_61 : St) =>
if y61_2.toInt < 2 then (
xl (up1 v_61 (k0 + 63) y61_2.toNatClampNeg (vp_nar .boolean (0 : Int32))) fun v2 =>
xl (y61_2 + 1) fun x3 =>
(self_61 y61_1 x3 v2)) else (
(y61_1, v_61))) fun P_61 =>
xm (F_X5_readLines (k0 + 1) v) fun r4 u5 =>
xl (up1 u5 (k0 + 1) 1 (0 : Int32)) fun v7 =>
xl (v7.1 (k0 + 1) 8) fun x8 =>
xl (up1 v7 k0 9 x8) fun v9 =>
xl (v9.1 k0 9) fun x10 =>
if x10.toInt = 0 then (
xl (F_X0_become (k0 + 12) (k0 + 1 + 2) v9) fun u12 =>
(lp P_61 (fun _ _ _ => ((0 : Int32), v)) ((2147483647 - (0 : Int32).toInt).toNat + 1) r4 (0 : Int32) u12)) else (
xl (v9.1 (k0 + 1) 9) fun x14 =>
xl ((-10 : Int32) - x14) fun x15 =>
(x15, v9))
set_option maxHeartbeats 4000000 in
set_option maxRecDepth 100000 in
theorem c_X7_text (l : Launch) (w : Wp) (g : Nat → Nat → Int32) (v : St) (k0 : Nat) (hq : Inj w) (hw : WF (wk w) g v) (h_k0 : oW w k0) : CTi w l yX7_text (wsy yX7_text prog_1_method_4_code 3 (some .int)) (rmL 8) [.ref (wq w k0)] v (fun (r : Int32) (u : St) => (WF (wk w) g u ∧ ((∀ k j : Nat, ¬ (k = k0 + 1 ∨ (k0 + 3 ≤ k ∧ k < k0 + 12) ∨ (k = k0 ∧ j = 9)) → u.1 k j = v.1 k j) ∨ (u.1 k0 9).toInt = 0)) ∧ ((r, u) = F_X7_text k0 v) ∧ (∀ k j : Nat, ¬ ((k0 + 1 ≤ k ∧ k < k0 + 21) ∨ k = k0 + 63 ∨ (k = k0 ∧ j = 9)) → u.1 k j = v.1 k j)) := by
  generalize hpost : (fun (r : Int32) (u : St) => (WF (wk w) g u ∧ ((∀ k j : Nat, ¬ (k = k0 + 1 ∨ (k0 + 3 ≤ k ∧ k < k0 + 12) ∨ (k = k0 ∧ j = 9)) → u.1 k j = v.1 k j) ∨ (u.1 k0 9).toInt = 0)) ∧ ((r, u) = F_X7_text k0 v) ∧ (∀ k j : Nat, ¬ ((k0 + 1 ≤ k ∧ k < k0 + 21) ∨ k = k0 + 63 ∨ (k = k0 ∧ j = 9)) → u.1 k j = v.1 k j)) = post
  refine CTi.of prog_1_method_4_code 3 (some .int) "StarWalk" (by decide +kernel) rfl hq hw (Nat.le_of_ble_eq_true rfl) ?_
  intro pg en s m ar bl me cd ls E I hr hlk hl
  have hx := E.1.1
  have hb := E.1.2.1
  have hl : lv_has ls 3 [(0, .ref (wq w k0))] := hl
  obtain ⟨res, hres⟩ : ∃ z, z = F_X7_text k0 v := ⟨_, rfl⟩
  have hF := hres.symm
  unfold F_X7_text at hF
  replace hres : res = F_X7_text k0 v := hres
  have rz0 : ∀ k j : Nat, ¬ ((k0 + 1 ≤ k ∧ k < k0 + 21) ∨ k = k0 + 63 ∨ (k = k0 ∧ j = 9)) → v.1 k j = v.1 k j := fun _ _ _ => rfl
  have ry0 : ∀ k j : Nat, ¬ (k = k0 + 1 ∨ (k0 + 3 ≤ k ∧ k < k0 + 12) ∨ (k = k0 ∧ j = 9)) → v.1 k j = v.1 k j := fun _ _ _ => rfl
  obtain ⟨P_61, eP_61, hF⟩ := xl_e hF
  have L_61 : ∀ (n : Nat), ∀ (H : Heap) (lo : List Loc) (v_61 : St), Wo w g s.heap v_61 H lo → ∀ (y61_1 : Int32) (y61_2 : Int32), (0 ≤ y61_2.toInt ∧ y61_2.toInt ≤ 2) → (∀ k j : Nat, ¬ ((k0 + 1 ≤ k ∧ k < k0 + 21) ∨ k = k0 + 63 ∨ (k = k0 ∧ j = 9)) → v_61.1 k j = v.1 k j) → ((v_61.1 k0 9).toInt = 0) → (lp P_61 (fun _ _ _ => ((0 : Int32), v)) n y61_1 y61_2 v_61 = res) → (2147483647 - y61_2.toInt).toNat < n → ∀ (ls : Array Slot), lv_has ls 3 [(0, .ref (wq w k0)), (1, .int y61_1), (2, .int y61_2)] → W pg l en (rmL 8) s m ar bl me cd H lo 0 0 (Zi w bl ar s post) (F0 m 61 ls []) := by
    intro n
    induction n with
    | zero => intro H lo v_61 I y61_1 y61_2 hy61_2 rB61_Z hV61_2 hF hm; exact absurd hm (Nat.not_lt_zero _)
    | succ n ih_61 =>
      intro H lo v_61 I y61_1 y61_2 hy61_2 rB61_Z hV61_2 hF hm ls hl
      replace hF := lpa3 eP_61 hF
      refine lv_iload_n hx hb dX7_text_61 rfl (lv_at hl 2 rfl) ?_
      refine lv_iconst (v := 2) hx hb dX7_text_62 (by decide) ?_
      refine bi_ge E (a := y61_2.toInt) (b := 2) rfl rfl (tgt := 79) dX7_text_63 (by decide) (fun c1 => ?_) (fun c1 => ?_)
      ·
        replace hF := if_l c1 hF
        refine lv_iload_n hx hb dX7_text_79 rfl (lv_at hl 1 rfl) ?_
        exact rI E I hr hlk rfl (by rw [← hpost]; exact ⟨⟨I.2.2, Or.inr (by omega)⟩, hF.trans hres, rB61_Z⟩) dX7_text_80
      ·
        replace hF := if_t c1 hF
        refine lv_aload_n hx hb dX7_text_66 rfl (lv_at hl 0 rfl) ?_
        refine g_StarWalk_kept E I h_k0.1 mw_2_75 dX7_text_67 ?_
        refine lv_iload_n hx hb dX7_text_70 rfl (lv_at hl 2 rfl) ?_
        refine lv_iconst (v := 0) hx hb dX7_text_71 (by decide) ?_
        refine pa_19 E I h_k0.2.2.2.2.2.2.2.2.1 (by omega) dX7_text_72 (fun H lo I => ?_)
        generalize ev2 : up1 v_61 (k0 + 63) y61_2.toNatClampNeg (vp_nar .boolean (0 : Int32)) = v2 at I
        replace hF := xl_i (ev2.symm) hF
        have wtv2_k0_9 : (v2.1 k0 9).toInt = (v_61.1 k0 9).toInt := by rw [← ev2, up1_n _ _ (Or.inl (by omega))]
        have rzv2 : ∀ k j : Nat, ¬ ((k0 + 1 ≤ k ∧ k < k0 + 21) ∨ k = k0 + 63 ∨ (k = k0 ∧ j = 9)) → v2.1 k j = v.1 k j := fun k j h => fz_u ev2 (by have czy61_2 := cnI (x := y61_2) (by omega); omega) (rB61_Z k j h)
        obtain ⟨x3, ex3⟩ : ∃ z : Int32, z = y61_2 + 1 := ⟨_, rfl⟩
        replace hF := xl_i (ex3) hF
        have hx3 : x3.toInt = y61_2.toInt + (1) := by rw [ex3]; exact adI (a := y61_2.toInt) (b := 1) rfl rfl (by omega) (by omega)
        refine lv_iinc (v := x3) (lv' := [(2, .int x3), (0, .ref (wq w k0)), (1, .int y61_1)]) hx hb dX7_text_73 hl (k := 2) rfl (by rw [ex3]; rfl) (by decide) rfl (fun ls hl => ?_)
        refine lv_goto (tgt := 61) hx hb dX7_text_76 (by decide) ?_
        exact ih_61 _ _ v2 I y61_1 x3 (by omega) rzv2 (by omega) hF (by omega) ls (lv_sub hl [1, 2, 0] rfl)
  refine lv_aload_n hx hb dX7_text_0 rfl (lv_at hl 0 rfl) ?_
  refine g_StarWalk_tape E I h_k0.1 mw_2_68 dX7_text_1 ?_
  refine cVi E I (c_X5_readLines l w g v (k0 + 1) E.2.2.1 I.2.2 h_k0.2.1  ) (cwV 0 E.1.2.2.2.2 (gWs (C := "StarWalk$Tape") mw_2_118 mw_2_119 mw_2_120 mw_1_2 mw_2_121) rfl rfl rfl (by decide +kernel) ⟨by decide, by decide⟩) h_k0.2.1.1.1 ((ce_o h_k0.2.1.1.2).trans rfl) rfl rfl hl.1 rfl (Nat.le_of_ble_eq_true rfl) dX7_text_4 ⟨Nat.le_refl _, Nat.le_refl _⟩ (fun r4 u5 H lo hp hPS => ?_)
  obtain ⟨hp, hex, hfr⟩ := hp
  replace hF := xm_i hex hF
  obtain ⟨hwf, p6⟩ := hp
  have I : Wo w g s.heap u5 H lo := ⟨hPS.1, hPS.2, hwf⟩
  have rzu5 : ∀ k j : Nat, ¬ ((k0 + 1 ≤ k ∧ k < k0 + 21) ∨ k = k0 + 63 ∨ (k = k0 ∧ j = 9)) → u5.1 k j = v.1 k j := fun k j h => (hfr k j (fun z => h (by rcases z with z | z <;> omega))).trans (rz0 k j h)
  have ryu5 : ∀ k j : Nat, ¬ (k = k0 + 1 ∨ (k0 + 3 ≤ k ∧ k < k0 + 12) ∨ (k = k0 ∧ j = 9)) → u5.1 k j = v.1 k j := fun k j h => (hfr k j (fun z => h (by rcases z with z | z <;> omega))).trans (ry0 k j h)
  refine lv_istore_n (lv' := [(1, .int r4), (0, .ref (wq w k0))]) hx hb dX7_text_7 rfl hl (by decide) rfl (fun ls hl => ?_)
  refine lv_aload_n hx hb dX7_text_8 rfl (lv_at hl 1 rfl) ?_
  refine g_StarWalk_tape E I h_k0.1 mw_2_68 dX7_text_9 ?_
  refine lv_iconst (v := 0) hx hb dX7_text_12 (by decide) ?_
  refine p_Tape_length E I h_k0.2.1.1 mw_1_171 (by decide) dX7_text_13 (fun H lo I => ?_)
  generalize ev7 : up1 u5 (k0 + 1) 1 (0 : Int32) = v7 at I
  replace hF := xl_i (ev7.symm) hF
  have wtv7_k0_9 : (v7.1 k0 9).toInt = (u5.1 k0 9).toInt := by rw [← ev7, up1_n _ _ (Or.inl (by omega))]
  have rzv7 : ∀ k j : Nat, ¬ ((k0 + 1 ≤ k ∧ k < k0 + 21) ∨ k = k0 + 63 ∨ (k = k0 ∧ j = 9)) → v7.1 k j = v.1 k j := fun k j h => fz_u ev7 (by omega) (rzu5 k j h)
  have ryv7 : ∀ k j : Nat, ¬ (k = k0 + 1 ∨ (k0 + 3 ≤ k ∧ k < k0 + 12) ∨ (k = k0 ∧ j = 9)) → v7.1 k j = v.1 k j := fun k j h => fz_u ev7 (by omega) (ryu5 k j h)
  refine lv_aload_n hx hb dX7_text_16 rfl (lv_at hl 1 rfl) ?_
  refine lv_aload_n hx hb dX7_text_17 rfl (lv_at hl 1 rfl) ?_
  refine g_StarWalk_tape E I h_k0.1 mw_2_68 dX7_text_18 ?_
  refine g_Tape_found E I h_k0.2.1.1 mw_1_180 dX7_text_21 ?_
  refine lv_topi (fun x8 ex8 => ?_)
  replace hF := xl_i (ex8) hF
  refine p_StarWalk_latestFault E I h_k0.1 mw_2_77 dX7_text_24 (fun H lo I => ?_)
  generalize ev9 : up1 v7 k0 9 x8 = v9 at I
  replace hF := xl_i (ev9.symm) hF
  have wtv9_k0_9 : (v9.1 k0 9).toInt = x8.toInt := by rw [← ev9]; exact congrArg Int32.toInt (up1_s _ k0 9 x8)
  have rzv9 : ∀ k j : Nat, ¬ ((k0 + 1 ≤ k ∧ k < k0 + 21) ∨ k = k0 + 63 ∨ (k = k0 ∧ j = 9)) → v9.1 k j = v.1 k j := fun k j h => fz_u ev9 (by omega) (rzv7 k j h)
  have ryv9 : ∀ k j : Nat, ¬ (k = k0 + 1 ∨ (k0 + 3 ≤ k ∧ k < k0 + 12) ∨ (k = k0 ∧ j = 9)) → v9.1 k j = v.1 k j := fun k j h => fz_u ev9 (by omega) (ryv7 k j h)
  refine lv_aload_n hx hb dX7_text_27 rfl (lv_at hl 1 rfl) ?_
  refine g_StarWalk_latestFault E I h_k0.1 mw_2_77 dX7_text_28 ?_
  refine lv_topi (fun x10 ex10 => ?_)
  replace hF := xl_i (ex10) hF
  have twx10 : x10.toInt = (v9.1 k0 9).toInt := congrArg Int32.toInt ex10
  refine bz_eq E (a := x10.toInt) rfl (tgt := 45) dX7_text_31 (by decide) (fun c11 => ?_) (fun c11 => ?_)
  ·
    replace hF := if_t c11 hF
    refine lv_aload_n hx hb dX7_text_45 rfl (lv_at hl 1 rfl) ?_
    refine g_StarWalk_now E I h_k0.1 mw_2_69 dX7_text_46 ?_
    refine lv_aload_n hx hb dX7_text_49 rfl (lv_at hl 1 rfl) ?_
    refine g_StarWalk_tape E I h_k0.1 mw_2_68 dX7_text_50 ?_
    refine g_Tape_draft E I h_k0.2.1.1 mw_1_173 dX7_text_53 ?_
    refine cVv E I (c_X0_become l w g v9 (k0 + 12) (k0 + 1 + 2) E.2.2.1 I.2.2 h_k0.2.2.1 h_k0.2.1.2.2  ) (cwV 1 E.1.2.2.2.2 (gWs (C := "StarWalk$Night") mw_3_56 mw_3_57 mw_3_58 mw_1_3 mw_3_59) rfl rfl rfl (by decide +kernel) ⟨by decide, by decide⟩) h_k0.2.2.1.1.1 ((ce_o h_k0.2.2.1.1.2).trans rfl) rfl rfl hl.1 rfl (Nat.le_of_ble_eq_true rfl) dX7_text_56 ⟨Nat.le_refl _, Nat.le_refl _⟩ (fun u12 H lo hp hPS => ?_)
    obtain ⟨hp, hex, hfr⟩ := hp
    replace hF := xl_i hex hF
    obtain ⟨hwf, p13⟩ := hp
    have I : Wo w g s.heap u12 H lo := ⟨hPS.1, hPS.2, hwf⟩
    have wtu12_k0_9 : (u12.1 k0 9).toInt = (v9.1 k0 9).toInt := congrArg Int32.toInt (hfr k0 9 (by omega))
    have rzu12 : ∀ k j : Nat, ¬ ((k0 + 1 ≤ k ∧ k < k0 + 21) ∨ k = k0 + 63 ∨ (k = k0 ∧ j = 9)) → u12.1 k j = v.1 k j := fun k j h => (hfr k j (fun z => h (by omega))).trans (rzv9 k j h)
    refine lv_iconst (v := 0) hx hb dX7_text_59 (by decide) ?_
    refine lv_istore_n (lv' := [(2, .int 0), (1, .int r4), (0, .ref (wq w k0))]) hx hb dX7_text_60 rfl hl (by decide) rfl (fun ls hl => ?_)
    exact L_61 ((2147483647 - (0 : Int32).toInt).toNat + 1) _ _ u12 I r4 (0 : Int32) (by decide) rzu12 (by omega) hF (Nat.lt_succ_self _) ls (lv_sub hl [2, 1, 0] rfl)
  ·
    replace hF := if_f c11 hF
    refine lv_bipush (v := (-10)) hx hb dX7_text_34 (by decide) ?_
    refine lv_aload_n hx hb dX7_text_36 rfl (lv_at hl 1 rfl) ?_
    refine g_StarWalk_tape E I h_k0.1 mw_2_68 dX7_text_37 ?_
    refine g_Tape_foundAt E I h_k0.2.1.1 mw_1_182 dX7_text_40 ?_
    refine lv_topi (fun x14 ex14 => ?_)
    replace hF := xl_i (ex14) hF
    refine lv_isub hx hb dX7_text_43 ?_
    refine lv_topi (fun x15 ex15 => ?_)
    replace hF := xl_i (ex15) hF
    exact rI E I hr hlk rfl (by rw [← hpost]; exact ⟨⟨I.2.2, Or.inl ryv9⟩, hF.trans hres, rzv9⟩) dX7_text_44
