set_option maxHeartbeats 4000000 in
set_option maxRecDepth 100000 in
theorem c_X5_refuse (l : Launch) (w : Wp) (g : Nat → Nat → Int32) (v : St) (k0 : Nat) (a0 : Int32) (a1 : Int32) (hq : Inj w) (hw : WF (wk w) g v) (h_k0 : oT w k0) : CTv w l yX5_refuse (wsy yX5_refuse prog_7_method_5_code 3 none) (rmL 1) [.ref (wq w k0), .int a0, .int a1] v (fun (u : St) => WF (wk w) g u ∧ True) := by
  generalize hpost : (fun (u : St) => WF (wk w) g u ∧ True) = post
  refine CTv.of prog_7_method_5_code 3 none "StarWalk$Tape" (by decide +kernel) rfl hq hw (Nat.le_of_ble_eq_true rfl) ?_
  intro pg en s m ar bl me cd ls E I hr hlk hl
  have hx := E.1.1
  have hb := E.1.2.1
  have hl : lv_has ls 3 [(0, .ref (wq w k0)), (1, .int a0), (2, .int a1)] := hl
  refine lv_aload_n hx hb dX5_refuse_0 rfl (lv_at hl 0 rfl) ?_
  refine g_Tape_found E I h_k0.1 mw_1_179 dX5_refuse_1 ?_
  refine lv_topi (fun x1 ex1 => ?_)
  refine bz_ne E (a := x1.toInt) rfl (tgt := 17) dX5_refuse_4 (by decide) (fun c2 => ?_) (fun c2 => ?_)
  ·
    exact rV E I hr hlk (by rw [← hpost]; exact ⟨I.2.2, trivial⟩) dX5_refuse_17
  ·
    refine lv_aload_n hx hb dX5_refuse_7 rfl (lv_at hl 0 rfl) ?_
    refine lv_iload_n hx hb dX5_refuse_8 rfl (lv_at hl 1 rfl) ?_
    refine p_Tape_found E I h_k0.1 mw_1_179 dX5_refuse_9 (fun H lo I => ?_)
    generalize ev3 : up1 v k0 8 a0 = v3 at I
    refine lv_aload_n hx hb dX5_refuse_12 rfl (lv_at hl 0 rfl) ?_
    refine lv_iload_n hx hb dX5_refuse_13 rfl (lv_at hl 2 rfl) ?_
    refine p_Tape_foundAt E I h_k0.1 mw_1_181 dX5_refuse_14 (fun H lo I => ?_)
    generalize ev4 : up1 v3 k0 9 a1 = v4 at I
    exact rV E I hr hlk (by rw [← hpost]; exact ⟨I.2.2, trivial⟩) dX5_refuse_17
set_option maxHeartbeats 4000000 in
set_option maxRecDepth 100000 in
theorem c_X5_byteAt (l : Launch) (w : Wp) (g : Nat → Nat → Int32) (v : St) (k0 : Nat) (a0 : Int32) (hq : Inj w) (hw : WF (wk w) g v) (h_k0 : oT w k0) : CTi w l yX5_byteAt (wsy yX5_byteAt prog_7_method_22_code 2 (some .int)) (rmL 1) [.ref (wq w k0), .int a0] v (fun (r : Int32) (u : St) => u = v ∧ True) := by
  generalize hpost : (fun (r : Int32) (u : St) => u = v ∧ True) = post
  refine CTi.of prog_7_method_22_code 2 (some .int) "StarWalk$Tape" (by decide +kernel) rfl hq hw (Nat.le_of_ble_eq_true rfl) ?_
  intro pg en s m ar bl me cd ls E I hr hlk hl
  have hx := E.1.1
  have hb := E.1.2.1
  have hl : lv_has ls 2 [(0, .ref (wq w k0)), (1, .int a0)] := hl
  refine lv_iload_n hx hb dX5_byteAt_0 rfl (lv_at hl 1 rfl) ?_
  refine bz_lt E (a := a0.toInt) rfl (tgt := 28) dX5_byteAt_1 (by decide) (fun c1 => ?_) (fun c1 => ?_)
  ·
    refine lv_iconst (v := (-1)) hx hb dX5_byteAt_28 (by decide) ?_
    exact rI E I hr hlk rfl (by rw [← hpost]; exact ⟨rfl, trivial⟩) dX5_byteAt_29
  ·
    refine lv_iload_n hx hb dX5_byteAt_4 rfl (lv_at hl 1 rfl) ?_
    refine lv_aload_n hx hb dX5_byteAt_5 rfl (lv_at hl 0 rfl) ?_
    refine g_Tape_length E I h_k0.1 mw_1_170 dX5_byteAt_6 ?_
    refine lv_topi (fun x2 ex2 => ?_)
    have hx2 := r_Tape_length I h_k0.1
    rw [← ex2] at hx2
    refine bi_ge E (a := a0.toInt) (b := x2.toInt) rfl rfl (tgt := 28) dX5_byteAt_9 (by decide) (fun c3 => ?_) (fun c3 => ?_)
    ·
      have rga0 := i32_rng a0
      refine lv_iconst (v := (-1)) hx hb dX5_byteAt_28 (by decide) ?_
      exact rI E I hr hlk rfl (by rw [← hpost]; exact ⟨rfl, trivial⟩) dX5_byteAt_29
    ·
      have rga0 := i32_rng a0
      refine lv_iload_n hx hb dX5_byteAt_12 rfl (lv_at hl 1 rfl) ?_
      refine lv_sipush (v := 160) hx hb dX5_byteAt_13 (by decide) ?_
      refine bi_ge E (a := a0.toInt) (b := 160) rfl rfl (tgt := 28) dX5_byteAt_16 (by decide) (fun c4 => ?_) (fun c4 => ?_)
      ·
        exfalso; omega
      ·
        refine lv_aload_n hx hb dX5_byteAt_19 rfl (lv_at hl 0 rfl) ?_
        refine g_Tape_bytes E I h_k0.1 mw_1_169 dX5_byteAt_20 ?_
        refine lv_iload_n hx hb dX5_byteAt_23 rfl (lv_at hl 1 rfl) ?_
        refine ga_17 E I h_k0.2.1 (by omega) dX5_byteAt_24 ?_
        refine lv_topi (fun x5 ex5 => ?_)
        refine lv_goto (tgt := 29) hx hb dX5_byteAt_25 (by decide) ?_
        exact rI E I hr hlk rfl (by rw [← hpost]; exact ⟨rfl, trivial⟩) dX5_byteAt_29
set_option maxHeartbeats 4000000 in
set_option maxRecDepth 100000 in
theorem c_X5_kindOf (l : Launch) (w : Wp) (g : Nat → Nat → Int32) (v : St) (a0 : Int32) (hq : Inj w) (hw : WF (wk w) g v) : CTi w l yX5_kindOf (wsy yX5_kindOf prog_7_method_21_code 1 (some .int)) (rmL 1) [.int a0] v (fun (r : Int32) (u : St) => u = v ∧ True) := by
  generalize hpost : (fun (r : Int32) (u : St) => u = v ∧ True) = post
  refine CTi.of prog_7_method_21_code 1 (some .int) "StarWalk$Tape" (by decide +kernel) rfl hq hw (Nat.le_of_ble_eq_true rfl) ?_
  intro pg en s m ar bl me cd ls E I hr hlk hl
  have hx := E.1.1
  have hb := E.1.2.1
  have hl : lv_has ls 1 [(0, .int a0)] := hl
  have B_28 : ∀ (H : Heap) (lo : List Loc), Wo w g s.heap v H lo → ∀ (ls : Array Slot), lv_has ls 1 [(0, .int a0)] → W pg l en (rmL 1) s m ar bl me cd H lo 0 0 (Zi w bl ar s post) (F0 m 28 ls []) := by
    intro H lo  I   ls hl
    refine lv_iload_n hx hb dX5_kindOf_28 rfl (lv_at hl 0 rfl) ?_
    by_cases c1 : a0.toInt = -1
    ·
      refine lv_lookup hx hb dX5_kindOf_29 (by decide) (by rw [c1] <;> rfl) (tgt := 64) (by decide) ?_
      refine lv_iconst (v := 0) hx hb dX5_kindOf_64 (by decide) ?_
      exact rI E I hr hlk rfl (by rw [← hpost]; exact ⟨rfl, trivial⟩) dX5_kindOf_65
    by_cases c2 : a0.toInt = 32
    ·
      refine lv_lookup hx hb dX5_kindOf_29 (by decide) (by rw [c2] <;> rfl) (tgt := 66) (by decide) ?_
      refine lv_iconst (v := 4) hx hb dX5_kindOf_66 (by decide) ?_
      exact rI E I hr hlk rfl (by rw [← hpost]; exact ⟨rfl, trivial⟩) dX5_kindOf_67
    by_cases c3 : a0.toInt = 59
    ·
      refine lv_lookup hx hb dX5_kindOf_29 (by decide) (by rw [c3] <;> rfl) (tgt := 68) (by decide) ?_
      refine lv_iconst (v := 3) hx hb dX5_kindOf_68 (by decide) ?_
      exact rI E I hr hlk rfl (by rw [← hpost]; exact ⟨rfl, trivial⟩) dX5_kindOf_69
    refine lv_lookup hx hb dX5_kindOf_29 (by decide) (by simp only [Op.lookupswitch.offset_cons, Op.lookupswitch.offset_nil]; rw [if_neg (by omega), if_neg (by omega), if_neg (by omega)] <;> rfl) (tgt := 70) (by decide) ?_
    refine lv_iconst (v := 5) hx hb dX5_kindOf_70 (by decide) ?_
    exact rI E I hr hlk rfl (by rw [← hpost]; exact ⟨rfl, trivial⟩) dX5_kindOf_71
  have B_14 : ∀ (H : Heap) (lo : List Loc), Wo w g s.heap v H lo → ∀ (ls : Array Slot), lv_has ls 1 [(0, .int a0)] → W pg l en (rmL 1) s m ar bl me cd H lo 0 0 (Zi w bl ar s post) (F0 m 14 ls []) := by
    intro H lo  I   ls hl
    refine lv_iload_n hx hb dX5_kindOf_14 rfl (lv_at hl 0 rfl) ?_
    refine lv_bipush (v := 48) hx hb dX5_kindOf_15 (by decide) ?_
    refine bi_lt E (a := a0.toInt) (b := 48) rfl rfl (tgt := 28) dX5_kindOf_17 (by decide) (fun c4 => ?_) (fun c4 => ?_)
    ·
      exact B_28 _ _ I   ls (lv_sub hl [0] rfl)
    ·
      refine lv_iload_n hx hb dX5_kindOf_20 rfl (lv_at hl 0 rfl) ?_
      refine lv_bipush (v := 57) hx hb dX5_kindOf_21 (by decide) ?_
      refine bi_gt E (a := a0.toInt) (b := 57) rfl rfl (tgt := 28) dX5_kindOf_23 (by decide) (fun c5 => ?_) (fun c5 => ?_)
      ·
        exact B_28 _ _ I   ls (lv_sub hl [0] rfl)
      ·
        refine lv_iconst (v := 2) hx hb dX5_kindOf_26 (by decide) ?_
        exact rI E I hr hlk rfl (by rw [← hpost]; exact ⟨rfl, trivial⟩) dX5_kindOf_27
  refine lv_iload_n hx hb dX5_kindOf_0 rfl (lv_at hl 0 rfl) ?_
  refine lv_bipush (v := 97) hx hb dX5_kindOf_1 (by decide) ?_
  refine bi_lt E (a := a0.toInt) (b := 97) rfl rfl (tgt := 14) dX5_kindOf_3 (by decide) (fun c6 => ?_) (fun c6 => ?_)
  ·
    exact B_14 _ _ I   ls (lv_sub hl [0] rfl)
  ·
    refine lv_iload_n hx hb dX5_kindOf_6 rfl (lv_at hl 0 rfl) ?_
    refine lv_bipush (v := 122) hx hb dX5_kindOf_7 (by decide) ?_
    refine bi_gt E (a := a0.toInt) (b := 122) rfl rfl (tgt := 14) dX5_kindOf_9 (by decide) (fun c7 => ?_) (fun c7 => ?_)
    ·
      exact B_14 _ _ I   ls (lv_sub hl [0] rfl)
    ·
      refine lv_iconst (v := 1) hx hb dX5_kindOf_12 (by decide) ?_
      exact rI E I hr hlk rfl (by rw [← hpost]; exact ⟨rfl, trivial⟩) dX5_kindOf_13
set_option maxHeartbeats 4000000 in
set_option maxRecDepth 100000 in
theorem c_X5_takeToken (l : Launch) (w : Wp) (g : Nat → Nat → Int32) (v : St) (k0 : Nat) (hq : Inj w) (hw : WF (wk w) g v) (h_k0 : oT w k0) : CTv w l yX5_takeToken (wsy yX5_takeToken prog_7_method_20_code 3 none) (rmL 2) [.ref (wq w k0)] v (fun (u : St) => WF (wk w) g u ∧ True) := by
  generalize hpost : (fun (u : St) => WF (wk w) g u ∧ True) = post
  refine CTv.of prog_7_method_20_code 3 none "StarWalk$Tape" (by decide +kernel) rfl hq hw (Nat.le_of_ble_eq_true rfl) ?_
  intro pg en s m ar bl me cd ls E I hr hlk hl
  have hx := E.1.1
  have hb := E.1.2.1
  have hl : lv_has ls 3 [(0, .ref (wq w k0))] := hl
  have B_231 : ∀ (H : Heap) (lo : List Loc) (v_231 : St), Wo w g s.heap v_231 H lo → ∀ (ls : Array Slot), lv_has ls 3 [(0, .ref (wq w k0))] → W pg l en (rmL 2) s m ar bl me cd H lo 0 0 (Zv w bl ar s post) (F0 m 231 ls []) := by
    intro H lo v_231 I   ls hl
    refine lv_aload_n hx hb dX5_takeToken_231 rfl (lv_at hl 0 rfl) ?_
    refine lv_iconst (v := 1) hx hb dX5_takeToken_232 (by decide) ?_
    refine lv_aload_n hx hb dX5_takeToken_233 rfl (lv_at hl 0 rfl) ?_
    refine g_Tape_first E I h_k0.1 mw_1_175 dX5_takeToken_234 ?_
    refine lv_topi (fun x1 ex1 => ?_)
    refine cVv E I (c_X5_refuse l w g v_231 k0 (1 : Int32) x1 E.2.2.1 I.2.2 h_k0  ) (cwV 2 E.1.2.2.2.2 (gWs (C := "StarWalk$Tape") mw_2_134 mw_2_136 mw_s_2 mw_1_2 mw_2_137) rfl rfl rfl (by decide +kernel) ⟨by decide, by decide⟩) h_k0.1.1 ((ce_o h_k0.1.2).trans rfl) rfl rfl hl.1 rfl (Nat.le_of_ble_eq_true rfl) dX5_takeToken_237 ⟨Nat.le_refl _, Nat.le_refl _⟩ (fun u2 H lo hp hPS => ?_)
    obtain ⟨hwf, p3⟩ := hp
    have I : Wo w g s.heap u2 H lo := ⟨hPS.1, hPS.2, hwf⟩
    exact rV E I hr hlk (by rw [← hpost]; exact ⟨I.2.2, trivial⟩) dX5_takeToken_240
  have B_202 : ∀ (H : Heap) (lo : List Loc) (v_202 : St), Wo w g s.heap v_202 H lo → ∀ (ls : Array Slot), lv_has ls 3 [(0, .ref (wq w k0))] → W pg l en (rmL 2) s m ar bl me cd H lo 0 0 (Zv w bl ar s post) (F0 m 202 ls []) := by
    intro H lo v_202 I   ls hl
    refine lv_aload_n hx hb dX5_takeToken_202 rfl (lv_at hl 0 rfl) ?_
    refine g_Tape_kind E I h_k0.1 mw_1_174 dX5_takeToken_203 ?_
    refine lv_topi (fun x4 ex4 => ?_)
    refine lv_iconst (v := 5) hx hb dX5_takeToken_206 (by decide) ?_
    refine bi_eq E (a := x4.toInt) (b := 5) rfl rfl (tgt := 231) dX5_takeToken_207 (by decide) (fun c5 => ?_) (fun c5 => ?_)
    ·
      exact B_231 _ _ v_202 I   ls (lv_sub hl [0] rfl)
    ·
      refine lv_aload_n hx hb dX5_takeToken_210 rfl (lv_at hl 0 rfl) ?_
      refine g_Tape_kind E I h_k0.1 mw_1_174 dX5_takeToken_211 ?_
      refine lv_topi (fun x6 ex6 => ?_)
      refine lv_iconst (v := 2) hx hb dX5_takeToken_214 (by decide) ?_
      refine bi_ne E (a := x6.toInt) (b := 2) rfl rfl (tgt := 240) dX5_takeToken_215 (by decide) (fun c7 => ?_) (fun c7 => ?_)
      ·
        exact rV E I hr hlk (by rw [← hpost]; exact ⟨I.2.2, trivial⟩) dX5_takeToken_240
      ·
        refine lv_aload_n hx hb dX5_takeToken_218 rfl (lv_at hl 0 rfl) ?_
        refine g_Tape_behind E I h_k0.1 mw_1_176 dX5_takeToken_219 ?_
        refine lv_topi (fun x8 ex8 => ?_)
        refine lv_aload_n hx hb dX5_takeToken_222 rfl (lv_at hl 0 rfl) ?_
        refine g_Tape_first E I h_k0.1 mw_1_175 dX5_takeToken_223 ?_
        refine lv_topi (fun x9 ex9 => ?_)
        refine lv_isub hx hb dX5_takeToken_226 ?_
        refine lv_topi (fun x10 ex10 => ?_)
        refine lv_iconst (v := 2) hx hb dX5_takeToken_227 (by decide) ?_
        refine bi_le E (a := x10.toInt) (b := 2) rfl rfl (tgt := 240) dX5_takeToken_228 (by decide) (fun c11 => ?_) (fun c11 => ?_)
        ·
          exact rV E I hr hlk (by rw [← hpost]; exact ⟨I.2.2, trivial⟩) dX5_takeToken_240
        ·
          exact B_231 _ _ v_202 I   ls (lv_sub hl [0] rfl)
  have L_134 : ∀ (n : Nat), ∀ (H : Heap) (lo : List Loc) (v_134 : St), Wo w g s.heap v_134 H lo → ∀ (y134_1 : Int32) (y134_2 : Int32), (0 ≤ y134_1.toInt ∧ y134_1.toInt ≤ 1) → (0 ≤ y134_2.toInt ∧ y134_2.toInt ≤ 160) → (2147483647 - y134_2.toInt).toNat < n → ∀ (ls : Array Slot), lv_has ls 3 [(0, .ref (wq w k0)), (1, .int y134_1), (2, .int y134_2)] → W pg l en (rmL 2) s m ar bl me cd H lo 0 0 (Zv w bl ar s post) (F0 m 134 ls []) := by
    intro n
    induction n with
    | zero => intro H lo v_134 I y134_1 y134_2 hy134_1 hy134_2 hm; exact absurd hm (Nat.not_lt_zero _)
    | succ n ih_134 =>
      intro H lo v_134 I y134_1 y134_2 hy134_1 hy134_2 hm ls hl
      refine lv_iload_n hx hb dX5_takeToken_134 rfl (lv_at hl 2 rfl) ?_
      refine lv_sipush (v := 160) hx hb dX5_takeToken_135 (by decide) ?_
      refine bi_ge E (a := y134_2.toInt) (b := 160) rfl rfl (tgt := 202) dX5_takeToken_138 (by decide) (fun c12 => ?_) (fun c12 => ?_)
      ·
        exact B_202 _ _ v_134 I   ls (lv_sub hl [0] rfl)
      ·
        refine lv_iload_n hx hb dX5_takeToken_141 rfl (lv_at hl 1 rfl) ?_
        refine bz_eq E (a := y134_1.toInt) rfl (tgt := 202) dX5_takeToken_142 (by decide) (fun c13 => ?_) (fun c13 => ?_)
        ·
          exact B_202 _ _ v_134 I   ls (lv_sub hl [0] rfl)
        ·
          refine lv_aload_n hx hb dX5_takeToken_145 rfl (lv_at hl 0 rfl) ?_
          refine lv_aload_n hx hb dX5_takeToken_146 rfl (lv_at hl 0 rfl) ?_
          refine g_Tape_behind E I h_k0.1 mw_1_176 dX5_takeToken_147 ?_
          refine lv_topi (fun x14 ex14 => ?_)
          refine cVi E I (c_X5_byteAt l w g v_134 k0 x14 E.2.2.1 I.2.2 h_k0  ) (cwV 1 E.1.2.2.2.2 (gWs (C := "StarWalk$Tape") mw_2_127 mw_2_129 mw_s_1 mw_1_2 mw_2_130) rfl rfl rfl (by decide +kernel) ⟨by decide, by decide⟩) h_k0.1.1 ((ce_o h_k0.1.2).trans rfl) rfl rfl hl.1 rfl (Nat.le_of_ble_eq_true rfl) dX5_takeToken_150 ⟨Nat.le_refl _, Nat.le_refl _⟩ (fun r15 u16 H lo hp hPS => ?_)
          obtain ⟨hu, p17⟩ := hp
          rw [hu] at hPS
          have I : Wo w g s.heap v_134 H lo := ⟨hPS.1, hPS.2, I.2.2⟩
          refine cSi E I (c_X5_kindOf l w g v_134 r15 E.2.2.1 I.2.2   ) (va_cwS 1 E.1.2.2.2.2 (gSs mw_2_131 mw_2_132 mw_1_2 mw_2_133) rfl rfl rfl (by decide +kernel) ⟨by decide, by decide⟩) rfl hl.1 rfl (Nat.le_of_ble_eq_true rfl) dX5_takeToken_153 ⟨Nat.le_refl _, Nat.le_refl _⟩ (fun r18 u19 H lo hp hPS => ?_)
          obtain ⟨hu, p20⟩ := hp
          rw [hu] at hPS
          have I : Wo w g s.heap v_134 H lo := ⟨hPS.1, hPS.2, I.2.2⟩
          refine lv_aload_n hx hb dX5_takeToken_156 rfl (lv_at hl 0 rfl) ?_
          refine g_Tape_kind E I h_k0.1 mw_1_174 dX5_takeToken_157 ?_
          refine lv_topi (fun x21 ex21 => ?_)
          refine bi_ne E (a := r18.toInt) (b := x21.toInt) rfl rfl (tgt := 202) dX5_takeToken_160 (by decide) (fun c22 => ?_) (fun c22 => ?_)
          ·
            exact B_202 _ _ v_134 I   ls (lv_sub hl [0] rfl)
          ·
            refine lv_aload_n hx hb dX5_takeToken_163 rfl (lv_at hl 0 rfl) ?_
            refine lv_aload_n hx hb dX5_takeToken_164 rfl (lv_at hl 0 rfl) ?_
            refine g_Tape_value E I h_k0.1 mw_1_177 dX5_takeToken_165 ?_
            refine lv_topi (fun x23 ex23 => ?_)
            refine lv_bipush (v := 10) hx hb dX5_takeToken_168 (by decide) ?_
            refine lv_imul hx hb dX5_takeToken_170 ?_
            refine lv_topi (fun x24 ex24 => ?_)
            refine lv_aload_n hx hb dX5_takeToken_171 rfl (lv_at hl 0 rfl) ?_
            refine lv_aload_n hx hb dX5_takeToken_172 rfl (lv_at hl 0 rfl) ?_
            refine g_Tape_behind E I h_k0.1 mw_1_176 dX5_takeToken_173 ?_
            refine lv_topi (fun x25 ex25 => ?_)
            refine cVi E I (c_X5_byteAt l w g v_134 k0 x25 E.2.2.1 I.2.2 h_k0  ) (cwV 1 E.1.2.2.2.2 (gWs (C := "StarWalk$Tape") mw_2_127 mw_2_129 mw_s_1 mw_1_2 mw_2_130) rfl rfl rfl (by decide +kernel) ⟨by decide, by decide⟩) h_k0.1.1 ((ce_o h_k0.1.2).trans rfl) rfl rfl hl.1 rfl (Nat.le_of_ble_eq_true rfl) dX5_takeToken_176 ⟨Nat.le_refl _, Nat.le_refl _⟩ (fun r26 u27 H lo hp hPS => ?_)
            obtain ⟨hu, p28⟩ := hp
            rw [hu] at hPS
            have I : Wo w g s.heap v_134 H lo := ⟨hPS.1, hPS.2, I.2.2⟩
            refine lv_iadd hx hb dX5_takeToken_179 ?_
            refine lv_topi (fun x29 ex29 => ?_)
            refine lv_bipush (v := 48) hx hb dX5_takeToken_180 (by decide) ?_
            refine lv_isub hx hb dX5_takeToken_182 ?_
            refine lv_topi (fun x30 ex30 => ?_)
            refine p_Tape_value E I h_k0.1 mw_1_177 dX5_takeToken_183 (fun H lo I => ?_)
            generalize ev31 : up1 v_134 k0 6 x30 = v31 at I
            refine lv_aload_n hx hb dX5_takeToken_186 rfl (lv_at hl 0 rfl) ?_
            refine lv_dup hx hb dX5_takeToken_187 rfl ?_
            refine g_Tape_behind E I h_k0.1 mw_1_176 dX5_takeToken_188 ?_
            refine lv_topi (fun x32 ex32 => ?_)
            refine lv_iconst (v := 1) hx hb dX5_takeToken_191 (by decide) ?_
            refine lv_iadd hx hb dX5_takeToken_192 ?_
            refine lv_topi (fun x33 ex33 => ?_)
            refine p_Tape_behind E I h_k0.1 mw_1_176 dX5_takeToken_193 (fun H lo I => ?_)
            generalize ev34 : up1 v31 k0 5 x33 = v34 at I
            obtain ⟨x35, ex35⟩ : ∃ z : Int32, z = y134_2 + 1 := ⟨_, rfl⟩
            have hx35 : x35.toInt = y134_2.toInt + (1) := by rw [ex35]; exact adI (a := y134_2.toInt) (b := 1) rfl rfl (by omega) (by omega)
            refine lv_iinc (v := x35) (lv' := [(2, .int x35), (0, .ref (wq w k0)), (1, .int y134_1)]) hx hb dX5_takeToken_196 hl (k := 2) rfl (by rw [ex35]; rfl) (by decide) rfl (fun ls hl => ?_)
            refine lv_goto (tgt := 134) hx hb dX5_takeToken_199 (by decide) ?_
            exact ih_134 _ _ v34 I y134_1 x35 (by omega) (by omega) (by omega) ls (lv_sub hl [1, 2, 0] rfl)
  have B_131 : ∀ (H : Heap) (lo : List Loc) (v_131 : St), Wo w g s.heap v_131 H lo → ∀ (z131_0 : Int32), (0 ≤ z131_0.toInt ∧ z131_0.toInt ≤ 1) → ∀ (ls : Array Slot), lv_has ls 3 [(0, .ref (wq w k0))] → W pg l en (rmL 2) s m ar bl me cd H lo 0 0 (Zv w bl ar s post) (F0 m 131 ls [.int z131_0]) := by
    intro H lo v_131 I z131_0 hz131_0 ls hl
    refine lv_istore_n (lv' := [(1, .int z131_0), (0, .ref (wq w k0))]) hx hb dX5_takeToken_131 rfl hl (by decide) rfl (fun ls hl => ?_)
    refine lv_iconst (v := 0) hx hb dX5_takeToken_132 (by decide) ?_
    refine lv_istore_n (lv' := [(2, .int 0), (1, .int z131_0), (0, .ref (wq w k0))]) hx hb dX5_takeToken_133 rfl hl (by decide) rfl (fun ls hl => ?_)
    exact L_134 ((2147483647 - (0 : Int32).toInt).toNat + 1) _ _ v_131 I z131_0 (0 : Int32) (by omega) (by decide) (Nat.lt_succ_self _) ls (lv_sub hl [2, 1, 0] rfl)
  have B_126 : ∀ (H : Heap) (lo : List Loc) (v_126 : St), Wo w g s.heap v_126 H lo → ∀ (ls : Array Slot), lv_has ls 3 [(0, .ref (wq w k0))] → W pg l en (rmL 2) s m ar bl me cd H lo 0 0 (Zv w bl ar s post) (F0 m 126 ls []) := by
    intro H lo v_126 I   ls hl
    refine lv_iconst (v := 1) hx hb dX5_takeToken_126 (by decide) ?_
    refine lv_goto (tgt := 131) hx hb dX5_takeToken_127 (by decide) ?_
    exact B_131 _ _ v_126 I (1 : Int32) (by decide) ls (lv_sub hl [0] rfl)
  have B_92 : ∀ (H : Heap) (lo : List Loc) (v_92 : St), Wo w g s.heap v_92 H lo → ∀ (z92_1 : Int32), ∀ (ls : Array Slot), lv_has ls 3 [(0, .ref (wq w k0))] → W pg l en (rmL 2) s m ar bl me cd H lo 0 0 (Zv w bl ar s post) (F0 m 92 ls [.int z92_1, .ref (wq w k0)]) := by
    intro H lo v_92 I z92_1  ls hl
    refine p_Tape_behind E I h_k0.1 mw_1_176 dX5_takeToken_92 (fun H lo I => ?_)
    generalize ev36 : up1 v_92 k0 5 z92_1 = v36 at I
    refine lv_aload_n hx hb dX5_takeToken_95 rfl (lv_at hl 0 rfl) ?_
    refine lv_aload_n hx hb dX5_takeToken_96 rfl (lv_at hl 0 rfl) ?_
    refine lv_aload_n hx hb dX5_takeToken_97 rfl (lv_at hl 0 rfl) ?_
    refine g_Tape_first E I h_k0.1 mw_1_175 dX5_takeToken_98 ?_
    refine lv_topi (fun x37 ex37 => ?_)
    refine cVi E I (c_X5_byteAt l w g v36 k0 x37 E.2.2.1 I.2.2 h_k0  ) (cwV 1 E.1.2.2.2.2 (gWs (C := "StarWalk$Tape") mw_2_127 mw_2_129 mw_s_1 mw_1_2 mw_2_130) rfl rfl rfl (by decide +kernel) ⟨by decide, by decide⟩) h_k0.1.1 ((ce_o h_k0.1.2).trans rfl) rfl rfl hl.1 rfl (Nat.le_of_ble_eq_true rfl) dX5_takeToken_101 ⟨Nat.le_refl _, Nat.le_refl _⟩ (fun r38 u39 H lo hp hPS => ?_)
    obtain ⟨hu, p40⟩ := hp
    rw [hu] at hPS
    have I : Wo w g s.heap v36 H lo := ⟨hPS.1, hPS.2, I.2.2⟩
    refine lv_bipush (v := 48) hx hb dX5_takeToken_104 (by decide) ?_
    refine lv_isub hx hb dX5_takeToken_106 ?_
    refine lv_topi (fun x41 ex41 => ?_)
    refine p_Tape_value E I h_k0.1 mw_1_177 dX5_takeToken_107 (fun H lo I => ?_)
    generalize ev42 : up1 v36 k0 6 x41 = v42 at I
    refine lv_aload_n hx hb dX5_takeToken_110 rfl (lv_at hl 0 rfl) ?_
    refine g_Tape_kind E I h_k0.1 mw_1_174 dX5_takeToken_111 ?_
    refine lv_topi (fun x43 ex43 => ?_)
    refine lv_iconst (v := 1) hx hb dX5_takeToken_114 (by decide) ?_
    refine bi_eq E (a := x43.toInt) (b := 1) rfl rfl (tgt := 126) dX5_takeToken_115 (by decide) (fun c44 => ?_) (fun c44 => ?_)
    ·
      exact B_126 _ _ v42 I   ls (lv_sub hl [0] rfl)
    ·
      refine lv_aload_n hx hb dX5_takeToken_118 rfl (lv_at hl 0 rfl) ?_
      refine g_Tape_kind E I h_k0.1 mw_1_174 dX5_takeToken_119 ?_
      refine lv_topi (fun x45 ex45 => ?_)
      refine lv_iconst (v := 2) hx hb dX5_takeToken_122 (by decide) ?_
      refine bi_ne E (a := x45.toInt) (b := 2) rfl rfl (tgt := 130) dX5_takeToken_123 (by decide) (fun c46 => ?_) (fun c46 => ?_)
      ·
        refine lv_iconst (v := 0) hx hb dX5_takeToken_130 (by decide) ?_
        exact B_131 _ _ v42 I (0 : Int32) (by decide) ls (lv_sub hl [0] rfl)
      ·
        exact B_126 _ _ v42 I   ls (lv_sub hl [0] rfl)
  have B_56 : ∀ (H : Heap) (lo : List Loc) (v_56 : St), Wo w g s.heap v_56 H lo → ∀ (ls : Array Slot), lv_has ls 3 [(0, .ref (wq w k0))] → W pg l en (rmL 2) s m ar bl me cd H lo 0 0 (Zv w bl ar s post) (F0 m 56 ls []) := by
    intro H lo v_56 I   ls hl
    refine lv_aload_n hx hb dX5_takeToken_56 rfl (lv_at hl 0 rfl) ?_
    refine lv_aload_n hx hb dX5_takeToken_57 rfl (lv_at hl 0 rfl) ?_
    refine lv_aload_n hx hb dX5_takeToken_58 rfl (lv_at hl 0 rfl) ?_
    refine g_Tape_first E I h_k0.1 mw_1_175 dX5_takeToken_59 ?_
    refine lv_topi (fun x47 ex47 => ?_)
    refine cVi E I (c_X5_byteAt l w g v_56 k0 x47 E.2.2.1 I.2.2 h_k0  ) (cwV 1 E.1.2.2.2.2 (gWs (C := "StarWalk$Tape") mw_2_127 mw_2_129 mw_s_1 mw_1_2 mw_2_130) rfl rfl rfl (by decide +kernel) ⟨by decide, by decide⟩) h_k0.1.1 ((ce_o h_k0.1.2).trans rfl) rfl rfl hl.1 rfl (Nat.le_of_ble_eq_true rfl) dX5_takeToken_62 ⟨Nat.le_refl _, Nat.le_refl _⟩ (fun r48 u49 H lo hp hPS => ?_)
    obtain ⟨hu, p50⟩ := hp
    rw [hu] at hPS
    have I : Wo w g s.heap v_56 H lo := ⟨hPS.1, hPS.2, I.2.2⟩
    refine cSi E I (c_X5_kindOf l w g v_56 r48 E.2.2.1 I.2.2   ) (va_cwS 1 E.1.2.2.2.2 (gSs mw_2_131 mw_2_132 mw_1_2 mw_2_133) rfl rfl rfl (by decide +kernel) ⟨by decide, by decide⟩) rfl hl.1 rfl (Nat.le_of_ble_eq_true rfl) dX5_takeToken_65 ⟨Nat.le_refl _, Nat.le_refl _⟩ (fun r51 u52 H lo hp hPS => ?_)
    obtain ⟨hu, p53⟩ := hp
    rw [hu] at hPS
    have I : Wo w g s.heap v_56 H lo := ⟨hPS.1, hPS.2, I.2.2⟩
    refine p_Tape_kind E I h_k0.1 mw_1_174 dX5_takeToken_68 (fun H lo I => ?_)
    generalize ev54 : up1 v_56 k0 3 r51 = v54 at I
    refine lv_aload_n hx hb dX5_takeToken_71 rfl (lv_at hl 0 rfl) ?_
    refine lv_aload_n hx hb dX5_takeToken_72 rfl (lv_at hl 0 rfl) ?_
    refine g_Tape_kind E I h_k0.1 mw_1_174 dX5_takeToken_73 ?_
    refine lv_topi (fun x55 ex55 => ?_)
    refine bz_ne E (a := x55.toInt) rfl (tgt := 86) dX5_takeToken_76 (by decide) (fun c56 => ?_) (fun c56 => ?_)
    ·
      refine lv_aload_n hx hb dX5_takeToken_86 rfl (lv_at hl 0 rfl) ?_
      refine g_Tape_first E I h_k0.1 mw_1_175 dX5_takeToken_87 ?_
      refine lv_topi (fun x57 ex57 => ?_)
      refine lv_iconst (v := 1) hx hb dX5_takeToken_90 (by decide) ?_
      refine lv_iadd hx hb dX5_takeToken_91 ?_
      refine lv_topi (fun x58 ex58 => ?_)
      exact B_92 _ _ v54 I x58  ls (lv_sub hl [0] rfl)
    ·
      refine lv_aload_n hx hb dX5_takeToken_79 rfl (lv_at hl 0 rfl) ?_
      refine g_Tape_first E I h_k0.1 mw_1_175 dX5_takeToken_80 ?_
      refine lv_topi (fun x59 ex59 => ?_)
      refine lv_goto (tgt := 92) hx hb dX5_takeToken_83 (by decide) ?_
      exact B_92 _ _ v54 I x59  ls (lv_sub hl [0] rfl)
  have L_18 : ∀ (n : Nat), ∀ (H : Heap) (lo : List Loc) (v_18 : St), Wo w g s.heap v_18 H lo → ∀ (y18_1 : Int32), (0 ≤ y18_1.toInt ∧ y18_1.toInt ≤ 160) → (2147483647 - y18_1.toInt).toNat < n → ∀ (ls : Array Slot), lv_has ls 3 [(0, .ref (wq w k0)), (1, .int y18_1)] → W pg l en (rmL 2) s m ar bl me cd H lo 0 0 (Zv w bl ar s post) (F0 m 18 ls []) := by
    intro n
    induction n with
    | zero => intro H lo v_18 I y18_1 hy18_1 hm; exact absurd hm (Nat.not_lt_zero _)
    | succ n ih_18 =>
      intro H lo v_18 I y18_1 hy18_1 hm ls hl
      refine lv_iload_n hx hb dX5_takeToken_18 rfl (lv_at hl 1 rfl) ?_
      refine lv_sipush (v := 160) hx hb dX5_takeToken_19 (by decide) ?_
      refine bi_ge E (a := y18_1.toInt) (b := 160) rfl rfl (tgt := 56) dX5_takeToken_22 (by decide) (fun c60 => ?_) (fun c60 => ?_)
      ·
        exact B_56 _ _ v_18 I   ls (lv_sub hl [0] rfl)
      ·
        refine lv_aload_n hx hb dX5_takeToken_25 rfl (lv_at hl 0 rfl) ?_
        refine lv_aload_n hx hb dX5_takeToken_26 rfl (lv_at hl 0 rfl) ?_
        refine g_Tape_first E I h_k0.1 mw_1_175 dX5_takeToken_27 ?_
        refine lv_topi (fun x61 ex61 => ?_)
        refine cVi E I (c_X5_byteAt l w g v_18 k0 x61 E.2.2.1 I.2.2 h_k0  ) (cwV 1 E.1.2.2.2.2 (gWs (C := "StarWalk$Tape") mw_2_127 mw_2_129 mw_s_1 mw_1_2 mw_2_130) rfl rfl rfl (by decide +kernel) ⟨by decide, by decide⟩) h_k0.1.1 ((ce_o h_k0.1.2).trans rfl) rfl rfl hl.1 rfl (Nat.le_of_ble_eq_true rfl) dX5_takeToken_30 ⟨Nat.le_refl _, Nat.le_refl _⟩ (fun r62 u63 H lo hp hPS => ?_)
        obtain ⟨hu, p64⟩ := hp
        rw [hu] at hPS
        have I : Wo w g s.heap v_18 H lo := ⟨hPS.1, hPS.2, I.2.2⟩
        refine cSi E I (c_X5_kindOf l w g v_18 r62 E.2.2.1 I.2.2   ) (va_cwS 1 E.1.2.2.2.2 (gSs mw_2_131 mw_2_132 mw_1_2 mw_2_133) rfl rfl rfl (by decide +kernel) ⟨by decide, by decide⟩) rfl hl.1 rfl (Nat.le_of_ble_eq_true rfl) dX5_takeToken_33 ⟨Nat.le_refl _, Nat.le_refl _⟩ (fun r65 u66 H lo hp hPS => ?_)
        obtain ⟨hu, p67⟩ := hp
        rw [hu] at hPS
        have I : Wo w g s.heap v_18 H lo := ⟨hPS.1, hPS.2, I.2.2⟩
        refine lv_iconst (v := 4) hx hb dX5_takeToken_36 (by decide) ?_
        refine bi_ne E (a := r65.toInt) (b := 4) rfl rfl (tgt := 56) dX5_takeToken_37 (by decide) (fun c68 => ?_) (fun c68 => ?_)
        ·
          exact B_56 _ _ v_18 I   ls (lv_sub hl [0] rfl)
        ·
          refine lv_aload_n hx hb dX5_takeToken_40 rfl (lv_at hl 0 rfl) ?_
          refine lv_dup hx hb dX5_takeToken_41 rfl ?_
          refine g_Tape_first E I h_k0.1 mw_1_175 dX5_takeToken_42 ?_
          refine lv_topi (fun x69 ex69 => ?_)
          refine lv_iconst (v := 1) hx hb dX5_takeToken_45 (by decide) ?_
          refine lv_iadd hx hb dX5_takeToken_46 ?_
          refine lv_topi (fun x70 ex70 => ?_)
          refine p_Tape_first E I h_k0.1 mw_1_175 dX5_takeToken_47 (fun H lo I => ?_)
          generalize ev71 : up1 v_18 k0 4 x70 = v71 at I
          obtain ⟨x72, ex72⟩ : ∃ z : Int32, z = y18_1 + 1 := ⟨_, rfl⟩
          have hx72 : x72.toInt = y18_1.toInt + (1) := by rw [ex72]; exact adI (a := y18_1.toInt) (b := 1) rfl rfl (by omega) (by omega)
          refine lv_iinc (v := x72) (lv' := [(1, .int x72), (0, .ref (wq w k0))]) hx hb dX5_takeToken_50 hl (k := 1) rfl (by rw [ex72]; rfl) (by decide) rfl (fun ls hl => ?_)
          refine lv_goto (tgt := 18) hx hb dX5_takeToken_53 (by decide) ?_
          exact ih_18 _ _ v71 I x72 (by omega) (by omega) ls (lv_sub hl [1, 0] rfl)
  refine lv_aload_n hx hb dX5_takeToken_0 rfl (lv_at hl 0 rfl) ?_
  refine g_Tape_found E I h_k0.1 mw_1_179 dX5_takeToken_1 ?_
  refine lv_topi (fun x73 ex73 => ?_)
  refine bz_eq E (a := x73.toInt) rfl (tgt := 8) dX5_takeToken_4 (by decide) (fun c74 => ?_) (fun c74 => ?_)
  ·
    refine lv_aload_n hx hb dX5_takeToken_8 rfl (lv_at hl 0 rfl) ?_
    refine lv_aload_n hx hb dX5_takeToken_9 rfl (lv_at hl 0 rfl) ?_
    refine g_Tape_behind E I h_k0.1 mw_1_176 dX5_takeToken_10 ?_
    refine lv_topi (fun x75 ex75 => ?_)
    refine p_Tape_first E I h_k0.1 mw_1_175 dX5_takeToken_13 (fun H lo I => ?_)
    generalize ev76 : up1 v k0 4 x75 = v76 at I
    refine lv_iconst (v := 0) hx hb dX5_takeToken_16 (by decide) ?_
    refine lv_istore_n (lv' := [(1, .int 0), (0, .ref (wq w k0))]) hx hb dX5_takeToken_17 rfl hl (by decide) rfl (fun ls hl => ?_)
    exact L_18 ((2147483647 - (0 : Int32).toInt).toNat + 1) _ _ v76 I (0 : Int32) (by decide) (Nat.lt_succ_self _) ls (lv_sub hl [1, 0] rfl)
  ·
    exact rV E I hr hlk (by rw [← hpost]; exact ⟨I.2.2, trivial⟩) dX5_takeToken_7
set_option maxHeartbeats 4000000 in
set_option maxRecDepth 100000 in
theorem c_X5_need (l : Launch) (w : Wp) (g : Nat → Nat → Int32) (v : St) (k0 : Nat) (a0 : Int32) (hq : Inj w) (hw : WF (wk w) g v) (h_k0 : oT w k0) : CTv w l yX5_need (wsy yX5_need prog_7_method_18_code 2 none) (rmL 2) [.ref (wq w k0), .int a0] v (fun (u : St) => WF (wk w) g u ∧ True) := by
  generalize hpost : (fun (u : St) => WF (wk w) g u ∧ True) = post
  refine CTv.of prog_7_method_18_code 2 none "StarWalk$Tape" (by decide +kernel) rfl hq hw (Nat.le_of_ble_eq_true rfl) ?_
  intro pg en s m ar bl me cd ls E I hr hlk hl
  have hx := E.1.1
  have hb := E.1.2.1
  have hl : lv_has ls 2 [(0, .ref (wq w k0)), (1, .int a0)] := hl
  refine lv_aload_n hx hb dX5_need_0 rfl (lv_at hl 0 rfl) ?_
  refine g_Tape_kind E I h_k0.1 mw_1_174 dX5_need_1 ?_
  refine lv_topi (fun x1 ex1 => ?_)
  refine lv_iload_n hx hb dX5_need_4 rfl (lv_at hl 1 rfl) ?_
  refine bi_eq E (a := x1.toInt) (b := a0.toInt) rfl rfl (tgt := 17) dX5_need_5 (by decide) (fun c2 => ?_) (fun c2 => ?_)
  ·
    exact rV E I hr hlk (by rw [← hpost]; exact ⟨I.2.2, trivial⟩) dX5_need_17
  ·
    refine lv_aload_n hx hb dX5_need_8 rfl (lv_at hl 0 rfl) ?_
    refine lv_iconst (v := 2) hx hb dX5_need_9 (by decide) ?_
    refine lv_aload_n hx hb dX5_need_10 rfl (lv_at hl 0 rfl) ?_
    refine g_Tape_first E I h_k0.1 mw_1_175 dX5_need_11 ?_
    refine lv_topi (fun x3 ex3 => ?_)
    refine cVv E I (c_X5_refuse l w g v k0 (2 : Int32) x3 E.2.2.1 I.2.2 h_k0  ) (cwV 2 E.1.2.2.2.2 (gWs (C := "StarWalk$Tape") mw_2_134 mw_2_136 mw_s_2 mw_1_2 mw_2_137) rfl rfl rfl (by decide +kernel) ⟨by decide, by decide⟩) h_k0.1.1 ((ce_o h_k0.1.2).trans rfl) rfl rfl hl.1 rfl (Nat.le_of_ble_eq_true rfl) dX5_need_14 ⟨Nat.le_refl _, Nat.le_refl _⟩ (fun u4 H lo hp hPS => ?_)
    obtain ⟨hwf, p5⟩ := hp
    have I : Wo w g s.heap u4 H lo := ⟨hPS.1, hPS.2, hwf⟩
    exact rV E I hr hlk (by rw [← hpost]; exact ⟨I.2.2, trivial⟩) dX5_need_17
set_option maxHeartbeats 4000000 in
set_option maxRecDepth 100000 in
theorem c_X5_needWithin (l : Launch) (w : Wp) (g : Nat → Nat → Int32) (v : St) (k0 : Nat) (a0 : Int32) (a1 : Int32) (hq : Inj w) (hw : WF (wk w) g v) (h_k0 : oT w k0) : CTv w l yX5_needWithin (wsy yX5_needWithin prog_7_method_19_code 3 none) (rmL 2) [.ref (wq w k0), .int a0, .int a1] v (fun (u : St) => WF (wk w) g u ∧ True) := by
  generalize hpost : (fun (u : St) => WF (wk w) g u ∧ True) = post
  refine CTv.of prog_7_method_19_code 3 none "StarWalk$Tape" (by decide +kernel) rfl hq hw (Nat.le_of_ble_eq_true rfl) ?_
  intro pg en s m ar bl me cd ls E I hr hlk hl
  have hx := E.1.1
  have hb := E.1.2.1
  have hl : lv_has ls 3 [(0, .ref (wq w k0)), (1, .int a0), (2, .int a1)] := hl
  have B_16 : ∀ (H : Heap) (lo : List Loc), Wo w g s.heap v H lo → ∀ (ls : Array Slot), lv_has ls 3 [(0, .ref (wq w k0))] → W pg l en (rmL 2) s m ar bl me cd H lo 0 0 (Zv w bl ar s post) (F0 m 16 ls []) := by
    intro H lo  I   ls hl
    refine lv_aload_n hx hb dX5_needWithin_16 rfl (lv_at hl 0 rfl) ?_
    refine lv_iconst (v := 3) hx hb dX5_needWithin_17 (by decide) ?_
    refine lv_aload_n hx hb dX5_needWithin_18 rfl (lv_at hl 0 rfl) ?_
    refine g_Tape_first E I h_k0.1 mw_1_175 dX5_needWithin_19 ?_
    refine lv_topi (fun x1 ex1 => ?_)
    refine cVv E I (c_X5_refuse l w g v k0 (3 : Int32) x1 E.2.2.1 I.2.2 h_k0  ) (cwV 2 E.1.2.2.2.2 (gWs (C := "StarWalk$Tape") mw_2_134 mw_2_136 mw_s_2 mw_1_2 mw_2_137) rfl rfl rfl (by decide +kernel) ⟨by decide, by decide⟩) h_k0.1.1 ((ce_o h_k0.1.2).trans rfl) rfl rfl hl.1 rfl (Nat.le_of_ble_eq_true rfl) dX5_needWithin_22 ⟨Nat.le_refl _, Nat.le_refl _⟩ (fun u2 H lo hp hPS => ?_)
    obtain ⟨hwf, p3⟩ := hp
    have I : Wo w g s.heap u2 H lo := ⟨hPS.1, hPS.2, hwf⟩
    exact rV E I hr hlk (by rw [← hpost]; exact ⟨I.2.2, trivial⟩) dX5_needWithin_25
  refine lv_aload_n hx hb dX5_needWithin_0 rfl (lv_at hl 0 rfl) ?_
  refine g_Tape_value E I h_k0.1 mw_1_177 dX5_needWithin_1 ?_
  refine lv_topi (fun x4 ex4 => ?_)
  refine lv_iload_n hx hb dX5_needWithin_4 rfl (lv_at hl 1 rfl) ?_
  refine bi_lt E (a := x4.toInt) (b := a0.toInt) rfl rfl (tgt := 16) dX5_needWithin_5 (by decide) (fun c5 => ?_) (fun c5 => ?_)
  ·
    have rgx4 := i32_rng x4
    have rga0 := i32_rng a0
    exact B_16 _ _ I   ls (lv_sub hl [0] rfl)
  ·
    have rgx4 := i32_rng x4
    have rga0 := i32_rng a0
    refine lv_aload_n hx hb dX5_needWithin_8 rfl (lv_at hl 0 rfl) ?_
    refine g_Tape_value E I h_k0.1 mw_1_177 dX5_needWithin_9 ?_
    refine lv_topi (fun x6 ex6 => ?_)
    refine lv_iload_n hx hb dX5_needWithin_12 rfl (lv_at hl 2 rfl) ?_
    refine bi_le E (a := x6.toInt) (b := a1.toInt) rfl rfl (tgt := 25) dX5_needWithin_13 (by decide) (fun c7 => ?_) (fun c7 => ?_)
    ·
      have rgx6 := i32_rng x6
      have rga1 := i32_rng a1
      exact rV E I hr hlk (by rw [← hpost]; exact ⟨I.2.2, trivial⟩) dX5_needWithin_25
    ·
      have rgx6 := i32_rng x6
      have rga1 := i32_rng a1
      exact B_16 _ _ I   ls (lv_sub hl [0] rfl)
set_option maxHeartbeats 4000000 in
set_option maxRecDepth 100000 in
theorem c_X5_tellOnce (l : Launch) (w : Wp) (g : Nat → Nat → Int32) (v : St) (k0 : Nat) (a0 : Int32) (hq : Inj w) (hw : WF (wk w) g v) (h_k0 : oT w k0) : CTv w l yX5_tellOnce (wsy yX5_tellOnce prog_7_method_15_code 2 none) (rmL 2) [.ref (wq w k0), .int a0] v (fun (u : St) => WF (wk w) g u ∧ True) := by
  generalize hpost : (fun (u : St) => WF (wk w) g u ∧ True) = post
  refine CTv.of prog_7_method_15_code 2 none "StarWalk$Tape" (by decide +kernel) rfl hq hw (Nat.le_of_ble_eq_true rfl) ?_
  intro pg en s m ar bl me cd ls E I hr hlk hl
  have hx := E.1.1
  have hb := E.1.2.1
  have hl : lv_has ls 2 [(0, .ref (wq w k0)), (1, .int a0)] := hl
  have B_18 : ∀ (H : Heap) (lo : List Loc) (v_18 : St), Wo w g s.heap v_18 H lo → ∀ (ls : Array Slot), lv_has ls 2 [(0, .ref (wq w k0)), (1, .int a0)] → W pg l en (rmL 2) s m ar bl me cd H lo 0 0 (Zv w bl ar s post) (F0 m 18 ls []) := by
    intro H lo v_18 I   ls hl
    refine lv_aload_n hx hb dX5_tellOnce_18 rfl (lv_at hl 0 rfl) ?_
    refine lv_dup hx hb dX5_tellOnce_19 rfl ?_
    refine g_Tape_linesTold E I h_k0.1 mw_1_178 dX5_tellOnce_20 ?_
    refine lv_topi (fun x1 ex1 => ?_)
    refine lv_iload_n hx hb dX5_tellOnce_23 rfl (lv_at hl 1 rfl) ?_
    refine lv_ior hx hb dX5_tellOnce_24 ?_
    refine lv_topi (fun x2 ex2 => ?_)
    refine p_Tape_linesTold E I h_k0.1 mw_1_178 dX5_tellOnce_25 (fun H lo I => ?_)
    generalize ev3 : up1 v_18 k0 7 x2 = v3 at I
    exact rV E I hr hlk (by rw [← hpost]; exact ⟨I.2.2, trivial⟩) dX5_tellOnce_28
  refine lv_aload_n hx hb dX5_tellOnce_0 rfl (lv_at hl 0 rfl) ?_
  refine g_Tape_linesTold E I h_k0.1 mw_1_178 dX5_tellOnce_1 ?_
  refine lv_topi (fun x4 ex4 => ?_)
  refine lv_iload_n hx hb dX5_tellOnce_4 rfl (lv_at hl 1 rfl) ?_
  refine lv_iand hx hb dX5_tellOnce_5 ?_
  refine lv_topi (fun x5 ex5 => ?_)
  refine bz_eq E (a := x5.toInt) rfl (tgt := 18) dX5_tellOnce_6 (by decide) (fun c6 => ?_) (fun c6 => ?_)
  ·
    exact B_18 _ _ v I   ls (lv_sub hl [0, 1] rfl)
  ·
    refine lv_aload_n hx hb dX5_tellOnce_9 rfl (lv_at hl 0 rfl) ?_
    refine lv_iconst (v := 4) hx hb dX5_tellOnce_10 (by decide) ?_
    refine lv_aload_n hx hb dX5_tellOnce_11 rfl (lv_at hl 0 rfl) ?_
    refine g_Tape_first E I h_k0.1 mw_1_175 dX5_tellOnce_12 ?_
    refine lv_topi (fun x7 ex7 => ?_)
    refine cVv E I (c_X5_refuse l w g v k0 (4 : Int32) x7 E.2.2.1 I.2.2 h_k0  ) (cwV 2 E.1.2.2.2.2 (gWs (C := "StarWalk$Tape") mw_2_134 mw_2_136 mw_s_2 mw_1_2 mw_2_137) rfl rfl rfl (by decide +kernel) ⟨by decide, by decide⟩) h_k0.1.1 ((ce_o h_k0.1.2).trans rfl) rfl rfl hl.1 rfl (Nat.le_of_ble_eq_true rfl) dX5_tellOnce_15 ⟨Nat.le_refl _, Nat.le_refl _⟩ (fun u8 H lo hp hPS => ?_)
    obtain ⟨hwf, p9⟩ := hp
    have I : Wo w g s.heap u8 H lo := ⟨hPS.1, hPS.2, hwf⟩
    exact B_18 _ _ u8 I   ls (lv_sub hl [0, 1] rfl)
set_option maxHeartbeats 4000000 in
set_option maxRecDepth 100000 in
theorem c_X5_takeNumber (l : Launch) (w : Wp) (g : Nat → Nat → Int32) (v : St) (k0 : Nat) (a0 : Int32) (a1 : Int32) (hq : Inj w) (hw : WF (wk w) g v) (h_k0 : oT w k0) : CTi w l yX5_takeNumber (wsy yX5_takeNumber prog_7_method_16_code 3 (some .int)) (rmL 3) [.ref (wq w k0), .int a0, .int a1] v (fun (r : Int32) (u : St) => WF (wk w) g u ∧ True) := by
  generalize hpost : (fun (r : Int32) (u : St) => WF (wk w) g u ∧ True) = post
  refine CTi.of prog_7_method_16_code 3 (some .int) "StarWalk$Tape" (by decide +kernel) rfl hq hw (Nat.le_of_ble_eq_true rfl) ?_
  intro pg en s m ar bl me cd ls E I hr hlk hl
  have hx := E.1.1
  have hb := E.1.2.1
  have hl : lv_has ls 3 [(0, .ref (wq w k0)), (1, .int a0), (2, .int a1)] := hl
  refine lv_aload_n hx hb dX5_takeNumber_0 rfl (lv_at hl 0 rfl) ?_
  refine cVv E I (c_X5_takeToken l w g v k0 E.2.2.1 I.2.2 h_k0  ) (cwV 0 E.1.2.2.2.2 (gWs (C := "StarWalk$Tape") mw_2_123 mw_2_125 mw_s_0 mw_1_2 mw_2_126) rfl rfl rfl (by decide +kernel) ⟨by decide, by decide⟩) h_k0.1.1 ((ce_o h_k0.1.2).trans rfl) rfl rfl hl.1 rfl (Nat.le_of_ble_eq_true rfl) dX5_takeNumber_1 ⟨Nat.le_refl _, Nat.le_refl _⟩ (fun u1 H lo hp hPS => ?_)
  obtain ⟨hwf, p2⟩ := hp
  have I : Wo w g s.heap u1 H lo := ⟨hPS.1, hPS.2, hwf⟩
  refine lv_aload_n hx hb dX5_takeNumber_4 rfl (lv_at hl 0 rfl) ?_
  refine lv_iconst (v := 2) hx hb dX5_takeNumber_5 (by decide) ?_
  refine cVv E I (c_X5_need l w g u1 k0 (2 : Int32) E.2.2.1 I.2.2 h_k0  ) (cwV 1 E.1.2.2.2.2 (gWs (C := "StarWalk$Tape") mw_2_203 mw_2_205 mw_s_7 mw_1_2 mw_2_206) rfl rfl rfl (by decide +kernel) ⟨by decide, by decide⟩) h_k0.1.1 ((ce_o h_k0.1.2).trans rfl) rfl rfl hl.1 rfl (Nat.le_of_ble_eq_true rfl) dX5_takeNumber_6 ⟨Nat.le_refl _, Nat.le_refl _⟩ (fun u3 H lo hp hPS => ?_)
  obtain ⟨hwf, p4⟩ := hp
  have I : Wo w g s.heap u3 H lo := ⟨hPS.1, hPS.2, hwf⟩
  refine lv_aload_n hx hb dX5_takeNumber_9 rfl (lv_at hl 0 rfl) ?_
  refine lv_iload_n hx hb dX5_takeNumber_10 rfl (lv_at hl 1 rfl) ?_
  refine lv_iload_n hx hb dX5_takeNumber_11 rfl (lv_at hl 2 rfl) ?_
  refine cVv E I (c_X5_needWithin l w g u3 k0 a0 a1 E.2.2.1 I.2.2 h_k0  ) (cwV 2 E.1.2.2.2.2 (gWs (C := "StarWalk$Tape") mw_2_207 mw_2_209 mw_s_8 mw_1_2 mw_2_210) rfl rfl rfl (by decide +kernel) ⟨by decide, by decide⟩) h_k0.1.1 ((ce_o h_k0.1.2).trans rfl) rfl rfl hl.1 rfl (Nat.le_of_ble_eq_true rfl) dX5_takeNumber_12 ⟨Nat.le_refl _, Nat.le_refl _⟩ (fun u5 H lo hp hPS => ?_)
  obtain ⟨hwf, p6⟩ := hp
  have I : Wo w g s.heap u5 H lo := ⟨hPS.1, hPS.2, hwf⟩
  refine lv_aload_n hx hb dX5_takeNumber_15 rfl (lv_at hl 0 rfl) ?_
  refine g_Tape_found E I h_k0.1 mw_1_179 dX5_takeNumber_16 ?_
  refine lv_topi (fun x7 ex7 => ?_)
  refine bz_ne E (a := x7.toInt) rfl (tgt := 29) dX5_takeNumber_19 (by decide) (fun c8 => ?_) (fun c8 => ?_)
  ·
    refine lv_iload_n hx hb dX5_takeNumber_29 rfl (lv_at hl 1 rfl) ?_
    exact rI E I hr hlk rfl (by rw [← hpost]; exact ⟨I.2.2, trivial⟩) dX5_takeNumber_30
  ·
    refine lv_aload_n hx hb dX5_takeNumber_22 rfl (lv_at hl 0 rfl) ?_
    refine g_Tape_value E I h_k0.1 mw_1_177 dX5_takeNumber_23 ?_
    refine lv_topi (fun x9 ex9 => ?_)
    refine lv_goto (tgt := 30) hx hb dX5_takeNumber_26 (by decide) ?_
    exact rI E I hr hlk rfl (by rw [← hpost]; exact ⟨I.2.2, trivial⟩) dX5_takeNumber_30
set_option maxHeartbeats 4000000 in
set_option maxRecDepth 100000 in
theorem c_X5_takeStop (l : Launch) (w : Wp) (g : Nat → Nat → Int32) (v : St) (k0 : Nat) (hq : Inj w) (hw : WF (wk w) g v) (h_k0 : oT w k0) : CTv w l yX5_takeStop (wsy yX5_takeStop prog_7_method_17_code 1 none) (rmL 3) [.ref (wq w k0)] v (fun (u : St) => WF (wk w) g u ∧ True) := by
  generalize hpost : (fun (u : St) => WF (wk w) g u ∧ True) = post
  refine CTv.of prog_7_method_17_code 1 none "StarWalk$Tape" (by decide +kernel) rfl hq hw (Nat.le_of_ble_eq_true rfl) ?_
  intro pg en s m ar bl me cd ls E I hr hlk hl
  have hx := E.1.1
  have hb := E.1.2.1
  have hl : lv_has ls 1 [(0, .ref (wq w k0))] := hl
  refine lv_aload_n hx hb dX5_takeStop_0 rfl (lv_at hl 0 rfl) ?_
  refine cVv E I (c_X5_takeToken l w g v k0 E.2.2.1 I.2.2 h_k0  ) (cwV 0 E.1.2.2.2.2 (gWs (C := "StarWalk$Tape") mw_2_123 mw_2_125 mw_s_0 mw_1_2 mw_2_126) rfl rfl rfl (by decide +kernel) ⟨by decide, by decide⟩) h_k0.1.1 ((ce_o h_k0.1.2).trans rfl) rfl rfl hl.1 rfl (Nat.le_of_ble_eq_true rfl) dX5_takeStop_1 ⟨Nat.le_refl _, Nat.le_refl _⟩ (fun u1 H lo hp hPS => ?_)
  obtain ⟨hwf, p2⟩ := hp
  have I : Wo w g s.heap u1 H lo := ⟨hPS.1, hPS.2, hwf⟩
  refine lv_aload_n hx hb dX5_takeStop_4 rfl (lv_at hl 0 rfl) ?_
  refine lv_iconst (v := 3) hx hb dX5_takeStop_5 (by decide) ?_
  refine cVv E I (c_X5_need l w g u1 k0 (3 : Int32) E.2.2.1 I.2.2 h_k0  ) (cwV 1 E.1.2.2.2.2 (gWs (C := "StarWalk$Tape") mw_2_203 mw_2_205 mw_s_7 mw_1_2 mw_2_206) rfl rfl rfl (by decide +kernel) ⟨by decide, by decide⟩) h_k0.1.1 ((ce_o h_k0.1.2).trans rfl) rfl rfl hl.1 rfl (Nat.le_of_ble_eq_true rfl) dX5_takeStop_6 ⟨Nat.le_refl _, Nat.le_refl _⟩ (fun u3 H lo hp hPS => ?_)
  obtain ⟨hwf, p4⟩ := hp
  have I : Wo w g s.heap u3 H lo := ⟨hPS.1, hPS.2, hwf⟩
  exact rV E I hr hlk (by rw [← hpost]; exact ⟨I.2.2, trivial⟩) dX5_takeStop_9
set_option maxHeartbeats 4000000 in
set_option maxRecDepth 100000 in
theorem c_X5_readStar (l : Launch) (w : Wp) (g : Nat → Nat → Int32) (v : St) (k0 : Nat) (hq : Inj w) (hw : WF (wk w) g v) (h_k0 : oT w k0) : CTv w l yX5_readStar (wsy yX5_readStar prog_7_method_7_code 4 none) (rmL 4) [.ref (wq w k0)] v (fun (u : St) => WF (wk w) g u ∧ True) := by
  generalize hpost : (fun (u : St) => WF (wk w) g u ∧ True) = post
  refine CTv.of prog_7_method_7_code 4 none "StarWalk$Tape" (by decide +kernel) rfl hq hw (Nat.le_of_ble_eq_true rfl) ?_
  intro pg en s m ar bl me cd ls E I hr hlk hl
  have hx := E.1.1
  have hb := E.1.2.1
  have hl : lv_has ls 4 [(0, .ref (wq w k0))] := hl
  have B_20 : ∀ (H : Heap) (lo : List Loc) (v_20 : St), Wo w g s.heap v_20 H lo → ∀ (ls : Array Slot), lv_has ls 4 [(0, .ref (wq w k0))] → W pg l en (rmL 4) s m ar bl me cd H lo 0 0 (Zv w bl ar s post) (F0 m 20 ls []) := by
    intro H lo v_20 I   ls hl
    refine lv_aload_n hx hb dX5_readStar_20 rfl (lv_at hl 0 rfl) ?_
    refine lv_iconst (v := 0) hx hb dX5_readStar_21 (by decide) ?_
    refine lv_bipush (v := 9) hx hb dX5_readStar_22 (by decide) ?_
    refine cVi E I (c_X5_takeNumber l w g v_20 k0 (0 : Int32) (9 : Int32) E.2.2.1 I.2.2 h_k0  ) (cwV 2 E.1.2.2.2.2 (gWs (C := "StarWalk$Tape") mw_2_199 mw_2_201 mw_s_6 mw_1_2 mw_2_202) rfl rfl rfl (by decide +kernel) ⟨by decide, by decide⟩) h_k0.1.1 ((ce_o h_k0.1.2).trans rfl) rfl rfl hl.1 rfl (Nat.le_of_ble_eq_true rfl) dX5_readStar_24 ⟨Nat.le_refl _, Nat.le_refl _⟩ (fun r1 u2 H lo hp hPS => ?_)
    obtain ⟨hwf, p3⟩ := hp
    have I : Wo w g s.heap u2 H lo := ⟨hPS.1, hPS.2, hwf⟩
    refine lv_istore_n (lv' := [(1, .int r1), (0, .ref (wq w k0))]) hx hb dX5_readStar_27 rfl hl (by decide) rfl (fun ls hl => ?_)
    refine lv_aload_n hx hb dX5_readStar_28 rfl (lv_at hl 1 rfl) ?_
    refine lv_iload_n hx hb dX5_readStar_29 rfl (lv_at hl 0 rfl) ?_
    refine lv_bipush (v := 9) hx hb dX5_readStar_30 (by decide) ?_
    refine cVi E I (c_X5_takeNumber l w g u2 k0 r1 (9 : Int32) E.2.2.1 I.2.2 h_k0  ) (cwV 2 E.1.2.2.2.2 (gWs (C := "StarWalk$Tape") mw_2_199 mw_2_201 mw_s_6 mw_1_2 mw_2_202) rfl rfl rfl (by decide +kernel) ⟨by decide, by decide⟩) h_k0.1.1 ((ce_o h_k0.1.2).trans rfl) rfl rfl hl.1 rfl (Nat.le_of_ble_eq_true rfl) dX5_readStar_32 ⟨Nat.le_refl _, Nat.le_refl _⟩ (fun r4 u5 H lo hp hPS => ?_)
    obtain ⟨hwf, p6⟩ := hp
    have I : Wo w g s.heap u5 H lo := ⟨hPS.1, hPS.2, hwf⟩
    refine lv_istore_n (lv' := [(2, .int r4), (1, .int r1), (0, .ref (wq w k0))]) hx hb dX5_readStar_35 rfl hl (by decide) rfl (fun ls hl => ?_)
    refine lv_aload_n hx hb dX5_readStar_36 rfl (lv_at hl 2 rfl) ?_
    refine lv_iconst (v := 0) hx hb dX5_readStar_37 (by decide) ?_
    refine lv_bipush (v := 6) hx hb dX5_readStar_38 (by decide) ?_
    refine cVi E I (c_X5_takeNumber l w g u5 k0 (0 : Int32) (6 : Int32) E.2.2.1 I.2.2 h_k0  ) (cwV 2 E.1.2.2.2.2 (gWs (C := "StarWalk$Tape") mw_2_199 mw_2_201 mw_s_6 mw_1_2 mw_2_202) rfl rfl rfl (by decide +kernel) ⟨by decide, by decide⟩) h_k0.1.1 ((ce_o h_k0.1.2).trans rfl) rfl rfl hl.1 rfl (Nat.le_of_ble_eq_true rfl) dX5_readStar_40 ⟨Nat.le_refl _, Nat.le_refl _⟩ (fun r7 u8 H lo hp hPS => ?_)
    obtain ⟨hwf, p9⟩ := hp
    have I : Wo w g s.heap u8 H lo := ⟨hPS.1, hPS.2, hwf⟩
    refine lv_istore_n (lv' := [(3, .int r7), (2, .int r4), (1, .int r1), (0, .ref (wq w k0))]) hx hb dX5_readStar_43 rfl hl (by decide) rfl (fun ls hl => ?_)
    refine lv_aload_n hx hb dX5_readStar_44 rfl (lv_at hl 3 rfl) ?_
    refine cVv E I (c_X5_takeStop l w g u8 k0 E.2.2.1 I.2.2 h_k0  ) (cwV 0 E.1.2.2.2.2 (gWs (C := "StarWalk$Tape") mw_2_211 mw_2_213 mw_s_9 mw_1_2 mw_2_214) rfl rfl rfl (by decide +kernel) ⟨by decide, by decide⟩) h_k0.1.1 ((ce_o h_k0.1.2).trans rfl) rfl rfl hl.1 rfl (Nat.le_of_ble_eq_true rfl) dX5_readStar_45 ⟨Nat.le_refl _, Nat.le_refl _⟩ (fun u10 H lo hp hPS => ?_)
    obtain ⟨hwf, p11⟩ := hp
    have I : Wo w g s.heap u10 H lo := ⟨hPS.1, hPS.2, hwf⟩
    refine lv_aload_n hx hb dX5_readStar_48 rfl (lv_at hl 3 rfl) ?_
    refine g_Tape_found E I h_k0.1 mw_1_179 dX5_readStar_49 ?_
    refine lv_topi (fun x12 ex12 => ?_)
    refine bz_ne E (a := x12.toInt) rfl (tgt := 66) dX5_readStar_52 (by decide) (fun c13 => ?_) (fun c13 => ?_)
    ·
      exact rV E I hr hlk (by rw [← hpost]; exact ⟨I.2.2, trivial⟩) dX5_readStar_66
    ·
      refine lv_aload_n hx hb dX5_readStar_55 rfl (lv_at hl 3 rfl) ?_
      refine g_Tape_draft E I h_k0.1 mw_1_172 dX5_readStar_56 ?_
      refine lv_iload_n hx hb dX5_readStar_59 rfl (lv_at hl 2 rfl) ?_
      refine lv_iload_n hx hb dX5_readStar_60 rfl (lv_at hl 1 rfl) ?_
      refine lv_iload_n hx hb dX5_readStar_61 rfl (lv_at hl 0 rfl) ?_
      refine cVi E I (c_X0_addStar l w g u10 (k0 + 2) r1 r4 r7 E.2.2.1 I.2.2 h_k0.2.2  ) (cwV 3 E.1.2.2.2.2 (gWs (C := "StarWalk$Night") mw_2_215 mw_2_216 mw_2_217 mw_1_3 mw_2_218) rfl rfl rfl (by decide +kernel) ⟨by decide, by decide⟩) h_k0.2.2.1.1 ((ce_o h_k0.2.2.1.2).trans rfl) rfl rfl hl.1 rfl (Nat.le_of_ble_eq_true rfl) dX5_readStar_62 ⟨Nat.le_refl _, Nat.le_refl _⟩ (fun r14 u15 H lo hp hPS => ?_)
      obtain ⟨hwf, p16⟩ := hp
      have I : Wo w g s.heap u15 H lo := ⟨hPS.1, hPS.2, hwf⟩
      refine lv_pop hx hb dX5_readStar_65 rfl ?_
      exact rV E I hr hlk (by rw [← hpost]; exact ⟨I.2.2, trivial⟩) dX5_readStar_66
  refine lv_aload_n hx hb dX5_readStar_0 rfl (lv_at hl 0 rfl) ?_
  refine g_Tape_draft E I h_k0.1 mw_1_172 dX5_readStar_1 ?_
  refine g_Night_stars E I h_k0.2.2.1 mw_1_84 dX5_readStar_4 ?_
  refine lv_topi (fun x17 ex17 => ?_)
  have hx17 := r_Night_stars I h_k0.2.2.1
  rw [← ex17] at hx17
  refine lv_iconst (v := 5) hx hb dX5_readStar_7 (by decide) ?_
  refine bi_lt E (a := x17.toInt) (b := 5) rfl rfl (tgt := 20) dX5_readStar_8 (by decide) (fun c18 => ?_) (fun c18 => ?_)
  ·
    exact B_20 _ _ v I   ls (lv_sub hl [0] rfl)
  ·
    refine lv_aload_n hx hb dX5_readStar_11 rfl (lv_at hl 0 rfl) ?_
    refine lv_iconst (v := 5) hx hb dX5_readStar_12 (by decide) ?_
    refine lv_aload_n hx hb dX5_readStar_13 rfl (lv_at hl 0 rfl) ?_
    refine g_Tape_first E I h_k0.1 mw_1_175 dX5_readStar_14 ?_
    refine lv_topi (fun x19 ex19 => ?_)
    refine cVv E I (c_X5_refuse l w g v k0 (5 : Int32) x19 E.2.2.1 I.2.2 h_k0  ) (cwV 2 E.1.2.2.2.2 (gWs (C := "StarWalk$Tape") mw_2_134 mw_2_136 mw_s_2 mw_1_2 mw_2_137) rfl rfl rfl (by decide +kernel) ⟨by decide, by decide⟩) h_k0.1.1 ((ce_o h_k0.1.2).trans rfl) rfl rfl hl.1 rfl (Nat.le_of_ble_eq_true rfl) dX5_readStar_17 ⟨Nat.le_refl _, Nat.le_refl _⟩ (fun u20 H lo hp hPS => ?_)
    obtain ⟨hwf, p21⟩ := hp
    have I : Wo w g s.heap u20 H lo := ⟨hPS.1, hPS.2, hwf⟩
    exact B_20 _ _ u20 I   ls (lv_sub hl [0] rfl)
set_option maxHeartbeats 4000000 in
set_option maxRecDepth 100000 in
theorem c_X5_readKnown (l : Launch) (w : Wp) (g : Nat → Nat → Int32) (v : St) (k0 : Nat) (hq : Inj w) (hw : WF (wk w) g v) (h_k0 : oT w k0) : CTv w l yX5_readKnown (wsy yX5_readKnown prog_7_method_8_code 2 none) (rmL 4) [.ref (wq w k0)] v (fun (u : St) => WF (wk w) g u ∧ True) := by
  generalize hpost : (fun (u : St) => WF (wk w) g u ∧ True) = post
  refine CTv.of prog_7_method_8_code 2 none "StarWalk$Tape" (by decide +kernel) rfl hq hw (Nat.le_of_ble_eq_true rfl) ?_
  intro pg en s m ar bl me cd ls E I hr hlk hl
  have hx := E.1.1
  have hb := E.1.2.1
  have hl : lv_has ls 2 [(0, .ref (wq w k0))] := hl
  have B_34 : ∀ (H : Heap) (lo : List Loc) (v_34 : St), Wo w g s.heap v_34 H lo → ∀ (y34_1 : Int32), ∀ (ls : Array Slot), lv_has ls 2 [(0, .ref (wq w k0)), (1, .int y34_1)] → W pg l en (rmL 4) s m ar bl me cd H lo 0 0 (Zv w bl ar s post) (F0 m 34 ls []) := by
    intro H lo v_34 I y34_1  ls hl
    refine lv_aload_n hx hb dX5_readKnown_34 rfl (lv_at hl 0 rfl) ?_
    refine cVv E I (c_X5_takeStop l w g v_34 k0 E.2.2.1 I.2.2 h_k0  ) (cwV 0 E.1.2.2.2.2 (gWs (C := "StarWalk$Tape") mw_2_211 mw_2_213 mw_s_9 mw_1_2 mw_2_214) rfl rfl rfl (by decide +kernel) ⟨by decide, by decide⟩) h_k0.1.1 ((ce_o h_k0.1.2).trans rfl) rfl rfl hl.1 rfl (Nat.le_of_ble_eq_true rfl) dX5_readKnown_35 ⟨Nat.le_refl _, Nat.le_refl _⟩ (fun u1 H lo hp hPS => ?_)
    obtain ⟨hwf, p2⟩ := hp
    have I : Wo w g s.heap u1 H lo := ⟨hPS.1, hPS.2, hwf⟩
    refine lv_aload_n hx hb dX5_readKnown_38 rfl (lv_at hl 0 rfl) ?_
    refine g_Tape_found E I h_k0.1 mw_1_179 dX5_readKnown_39 ?_
    refine lv_topi (fun x3 ex3 => ?_)
    refine bz_ne E (a := x3.toInt) rfl (tgt := 64) dX5_readKnown_42 (by decide) (fun c4 => ?_) (fun c4 => ?_)
    ·
      exact rV E I hr hlk (by rw [← hpost]; exact ⟨I.2.2, trivial⟩) dX5_readKnown_64
    ·
      refine lv_aload_n hx hb dX5_readKnown_45 rfl (lv_at hl 0 rfl) ?_
      refine g_Tape_draft E I h_k0.1 mw_1_172 dX5_readKnown_46 ?_
      refine lv_aload_n hx hb dX5_readKnown_49 rfl (lv_at hl 0 rfl) ?_
      refine g_Tape_draft E I h_k0.1 mw_1_172 dX5_readKnown_50 ?_
      refine g_Night_known E I h_k0.2.2.1 mw_1_87 dX5_readKnown_53 ?_
      refine lv_topi (fun x5 ex5 => ?_)
      refine lv_iload_n hx hb dX5_readKnown_56 rfl (lv_at hl 1 rfl) ?_
      refine lv_iconst (v := 1) hx hb dX5_readKnown_57 (by decide) ?_
      refine cNi E I (c_X7_withBit l w g u1 x5 y34_1 (1 : Int32) E.2.2.1 I.2.2   ) ⟨va_cnB 3 E.1.2.2.2.2 (gYs mw_2_230) rfl rfl rfl (E.2.2.2.1.2.2.2.2.2.2.2.1) (Ew E mw_1_1 rfl) (by decide +kernel) ⟨by decide, by decide⟩, Ew E mw_2_229 rfl, trivial⟩ rfl hl.1 rfl (Nat.le_of_ble_eq_true rfl) dX5_readKnown_58 ⟨Nat.le_refl _, Nat.le_refl _⟩ (fun r6 u7 H lo hp hPS => ?_)
      obtain ⟨hu, p8⟩ := hp
      rw [hu] at hPS
      have I : Wo w g s.heap u1 H lo := ⟨hPS.1, hPS.2, I.2.2⟩
      refine p_Night_known E I h_k0.2.2.1 mw_1_87 dX5_readKnown_61 (fun H lo I => ?_)
      generalize ev9 : up1 u1 (k0 + 2) 4 r6 = v9 at I
      exact rV E I hr hlk (by rw [← hpost]; exact ⟨I.2.2, trivial⟩) dX5_readKnown_64
  refine lv_aload_n hx hb dX5_readKnown_0 rfl (lv_at hl 0 rfl) ?_
  refine lv_iconst (v := 0) hx hb dX5_readKnown_1 (by decide) ?_
  refine lv_iconst (v := 4) hx hb dX5_readKnown_2 (by decide) ?_
  refine cVi E I (c_X5_takeNumber l w g v k0 (0 : Int32) (4 : Int32) E.2.2.1 I.2.2 h_k0  ) (cwV 2 E.1.2.2.2.2 (gWs (C := "StarWalk$Tape") mw_2_199 mw_2_201 mw_s_6 mw_1_2 mw_2_202) rfl rfl rfl (by decide +kernel) ⟨by decide, by decide⟩) h_k0.1.1 ((ce_o h_k0.1.2).trans rfl) rfl rfl hl.1 rfl (Nat.le_of_ble_eq_true rfl) dX5_readKnown_3 ⟨Nat.le_refl _, Nat.le_refl _⟩ (fun r10 u11 H lo hp hPS => ?_)
  obtain ⟨hwf, p12⟩ := hp
  have I : Wo w g s.heap u11 H lo := ⟨hPS.1, hPS.2, hwf⟩
  refine lv_istore_n (lv' := [(1, .int r10), (0, .ref (wq w k0))]) hx hb dX5_readKnown_6 rfl hl (by decide) rfl (fun ls hl => ?_)
  refine lv_aload_n hx hb dX5_readKnown_7 rfl (lv_at hl 1 rfl) ?_
  refine g_Tape_found E I h_k0.1 mw_1_179 dX5_readKnown_8 ?_
  refine lv_topi (fun x13 ex13 => ?_)
  refine bz_ne E (a := x13.toInt) rfl (tgt := 34) dX5_readKnown_11 (by decide) (fun c14 => ?_) (fun c14 => ?_)
  ·
    exact B_34 _ _ u11 I r10  ls (lv_sub hl [1, 0] rfl)
  ·
    refine lv_aload_n hx hb dX5_readKnown_14 rfl (lv_at hl 1 rfl) ?_
    refine g_Tape_draft E I h_k0.1 mw_1_172 dX5_readKnown_15 ?_
    refine lv_iload_n hx hb dX5_readKnown_18 rfl (lv_at hl 0 rfl) ?_
    refine cVi E I (c_X0_isKnown l w g u11 (k0 + 2) r10 E.2.2.1 I.2.2 h_k0.2.2  ) (cwV 1 E.1.2.2.2.2 (gWs (C := "StarWalk$Night") mw_2_224 mw_2_225 mw_2_226 mw_1_3 mw_2_227) rfl rfl rfl (by decide +kernel) ⟨by decide, by decide⟩) h_k0.2.2.1.1 ((ce_o h_k0.2.2.1.2).trans rfl) rfl rfl hl.1 rfl (Nat.le_of_ble_eq_true rfl) dX5_readKnown_19 ⟨Nat.le_refl _, Nat.le_refl _⟩ (fun r15 u16 H lo hp hPS => ?_)
    obtain ⟨hu, p17⟩ := hp
    rw [hu] at hPS
    have I : Wo w g s.heap u11 H lo := ⟨hPS.1, hPS.2, I.2.2⟩
    refine bz_eq E (a := r15.toInt) rfl (tgt := 34) dX5_readKnown_22 (by decide) (fun c18 => ?_) (fun c18 => ?_)
    ·
      exact B_34 _ _ u11 I r10  ls (lv_sub hl [1, 0] rfl)
    ·
      refine lv_aload_n hx hb dX5_readKnown_25 rfl (lv_at hl 1 rfl) ?_
      refine lv_iconst (v := 4) hx hb dX5_readKnown_26 (by decide) ?_
      refine lv_aload_n hx hb dX5_readKnown_27 rfl (lv_at hl 1 rfl) ?_
      refine g_Tape_first E I h_k0.1 mw_1_175 dX5_readKnown_28 ?_
      refine lv_topi (fun x19 ex19 => ?_)
      refine cVv E I (c_X5_refuse l w g u11 k0 (4 : Int32) x19 E.2.2.1 I.2.2 h_k0  ) (cwV 2 E.1.2.2.2.2 (gWs (C := "StarWalk$Tape") mw_2_134 mw_2_136 mw_s_2 mw_1_2 mw_2_137) rfl rfl rfl (by decide +kernel) ⟨by decide, by decide⟩) h_k0.1.1 ((ce_o h_k0.1.2).trans rfl) rfl rfl hl.1 rfl (Nat.le_of_ble_eq_true rfl) dX5_readKnown_31 ⟨Nat.le_refl _, Nat.le_refl _⟩ (fun u20 H lo hp hPS => ?_)
      obtain ⟨hwf, p21⟩ := hp
      have I : Wo w g s.heap u20 H lo := ⟨hPS.1, hPS.2, hwf⟩
      exact B_34 _ _ u20 I r10  ls (lv_sub hl [1, 0] rfl)
set_option maxHeartbeats 4000000 in
set_option maxRecDepth 100000 in
theorem c_X5_readWell (l : Launch) (w : Wp) (g : Nat → Nat → Int32) (v : St) (k0 : Nat) (hq : Inj w) (hw : WF (wk w) g v) (h_k0 : oT w k0) : CTv w l yX5_readWell (wsy yX5_readWell prog_7_method_10_code 1 none) (rmL 4) [.ref (wq w k0)] v (fun (u : St) => WF (wk w) g u ∧ True) := by
  generalize hpost : (fun (u : St) => WF (wk w) g u ∧ True) = post
  refine CTv.of prog_7_method_10_code 1 none "StarWalk$Tape" (by decide +kernel) rfl hq hw (Nat.le_of_ble_eq_true rfl) ?_
  intro pg en s m ar bl me cd ls E I hr hlk hl
  have hx := E.1.1
  have hb := E.1.2.1
  have hl : lv_has ls 1 [(0, .ref (wq w k0))] := hl
  refine lv_aload_n hx hb dX5_readWell_0 rfl (lv_at hl 0 rfl) ?_
  refine lv_iconst (v := 1) hx hb dX5_readWell_1 (by decide) ?_
  refine cVv E I (c_X5_tellOnce l w g v k0 (1 : Int32) E.2.2.1 I.2.2 h_k0  ) (cwV 1 E.1.2.2.2.2 (gWs (C := "StarWalk$Tape") mw_3_8 mw_3_10 mw_s_13 mw_1_2 mw_3_11) rfl rfl rfl (by decide +kernel) ⟨by decide, by decide⟩) h_k0.1.1 ((ce_o h_k0.1.2).trans rfl) rfl rfl hl.1 rfl (Nat.le_of_ble_eq_true rfl) dX5_readWell_2 ⟨Nat.le_refl _, Nat.le_refl _⟩ (fun u1 H lo hp hPS => ?_)
  obtain ⟨hwf, p2⟩ := hp
  have I : Wo w g s.heap u1 H lo := ⟨hPS.1, hPS.2, hwf⟩
  refine lv_aload_n hx hb dX5_readWell_5 rfl (lv_at hl 0 rfl) ?_
  refine g_Tape_draft E I h_k0.1 mw_1_172 dX5_readWell_6 ?_
  refine lv_aload_n hx hb dX5_readWell_9 rfl (lv_at hl 0 rfl) ?_
  refine lv_iconst (v := 1) hx hb dX5_readWell_10 (by decide) ?_
  refine lv_bipush (v := 40) hx hb dX5_readWell_11 (by decide) ?_
  refine cVi E I (c_X5_takeNumber l w g u1 k0 (1 : Int32) (40 : Int32) E.2.2.1 I.2.2 h_k0  ) (cwV 2 E.1.2.2.2.2 (gWs (C := "StarWalk$Tape") mw_2_199 mw_2_201 mw_s_6 mw_1_2 mw_2_202) rfl rfl rfl (by decide +kernel) ⟨by decide, by decide⟩) h_k0.1.1 ((ce_o h_k0.1.2).trans rfl) rfl rfl hl.1 rfl (Nat.le_of_ble_eq_true rfl) dX5_readWell_13 ⟨Nat.le_refl _, Nat.le_refl _⟩ (fun r3 u4 H lo hp hPS => ?_)
  obtain ⟨hwf, p5⟩ := hp
  have I : Wo w g s.heap u4 H lo := ⟨hPS.1, hPS.2, hwf⟩
  refine p_Night_wellMiles E I h_k0.2.2.1 mw_1_98 dX5_readWell_16 (fun H lo I => ?_)
  generalize ev6 : up1 u4 (k0 + 2) 8 r3 = v6 at I
  refine lv_aload_n hx hb dX5_readWell_19 rfl (lv_at hl 0 rfl) ?_
  refine g_Tape_draft E I h_k0.1 mw_1_172 dX5_readWell_20 ?_
  refine lv_aload_n hx hb dX5_readWell_23 rfl (lv_at hl 0 rfl) ?_
  refine lv_iconst (v := 0) hx hb dX5_readWell_24 (by decide) ?_
  refine lv_bipush (v := 9) hx hb dX5_readWell_25 (by decide) ?_
  refine cVi E I (c_X5_takeNumber l w g v6 k0 (0 : Int32) (9 : Int32) E.2.2.1 I.2.2 h_k0  ) (cwV 2 E.1.2.2.2.2 (gWs (C := "StarWalk$Tape") mw_2_199 mw_2_201 mw_s_6 mw_1_2 mw_2_202) rfl rfl rfl (by decide +kernel) ⟨by decide, by decide⟩) h_k0.1.1 ((ce_o h_k0.1.2).trans rfl) rfl rfl hl.1 rfl (Nat.le_of_ble_eq_true rfl) dX5_readWell_27 ⟨Nat.le_refl _, Nat.le_refl _⟩ (fun r7 u8 H lo hp hPS => ?_)
  obtain ⟨hwf, p9⟩ := hp
  have I : Wo w g s.heap u8 H lo := ⟨hPS.1, hPS.2, hwf⟩
  refine p_Night_broad E I h_k0.2.2.1 mw_1_101 dX5_readWell_30 (fun H lo I => ?_)
  generalize ev10 : up1 u8 (k0 + 2) 9 r7 = v10 at I
  refine lv_aload_n hx hb dX5_readWell_33 rfl (lv_at hl 0 rfl) ?_
  refine cVv E I (c_X5_takeStop l w g v10 k0 E.2.2.1 I.2.2 h_k0  ) (cwV 0 E.1.2.2.2.2 (gWs (C := "StarWalk$Tape") mw_2_211 mw_2_213 mw_s_9 mw_1_2 mw_2_214) rfl rfl rfl (by decide +kernel) ⟨by decide, by decide⟩) h_k0.1.1 ((ce_o h_k0.1.2).trans rfl) rfl rfl hl.1 rfl (Nat.le_of_ble_eq_true rfl) dX5_readWell_34 ⟨Nat.le_refl _, Nat.le_refl _⟩ (fun u11 H lo hp hPS => ?_)
  obtain ⟨hwf, p12⟩ := hp
  have I : Wo w g s.heap u11 H lo := ⟨hPS.1, hPS.2, hwf⟩
  exact rV E I hr hlk (by rw [← hpost]; exact ⟨I.2.2, trivial⟩) dX5_readWell_37
set_option maxHeartbeats 4000000 in
set_option maxRecDepth 100000 in
theorem c_X5_readWind (l : Launch) (w : Wp) (g : Nat → Nat → Int32) (v : St) (k0 : Nat) (hq : Inj w) (hw : WF (wk w) g v) (h_k0 : oT w k0) : CTv w l yX5_readWind (wsy yX5_readWind prog_7_method_11_code 1 none) (rmL 4) [.ref (wq w k0)] v (fun (u : St) => WF (wk w) g u ∧ True) := by
  generalize hpost : (fun (u : St) => WF (wk w) g u ∧ True) = post
  refine CTv.of prog_7_method_11_code 1 none "StarWalk$Tape" (by decide +kernel) rfl hq hw (Nat.le_of_ble_eq_true rfl) ?_
  intro pg en s m ar bl me cd ls E I hr hlk hl
  have hx := E.1.1
  have hb := E.1.2.1
  have hl : lv_has ls 1 [(0, .ref (wq w k0))] := hl
  refine lv_aload_n hx hb dX5_readWind_0 rfl (lv_at hl 0 rfl) ?_
  refine lv_iconst (v := 2) hx hb dX5_readWind_1 (by decide) ?_
  refine cVv E I (c_X5_tellOnce l w g v k0 (2 : Int32) E.2.2.1 I.2.2 h_k0  ) (cwV 1 E.1.2.2.2.2 (gWs (C := "StarWalk$Tape") mw_3_8 mw_3_10 mw_s_13 mw_1_2 mw_3_11) rfl rfl rfl (by decide +kernel) ⟨by decide, by decide⟩) h_k0.1.1 ((ce_o h_k0.1.2).trans rfl) rfl rfl hl.1 rfl (Nat.le_of_ble_eq_true rfl) dX5_readWind_2 ⟨Nat.le_refl _, Nat.le_refl _⟩ (fun u1 H lo hp hPS => ?_)
  obtain ⟨hwf, p2⟩ := hp
  have I : Wo w g s.heap u1 H lo := ⟨hPS.1, hPS.2, hwf⟩
  refine lv_aload_n hx hb dX5_readWind_5 rfl (lv_at hl 0 rfl) ?_
  refine g_Tape_draft E I h_k0.1 mw_1_172 dX5_readWind_6 ?_
  refine lv_aload_n hx hb dX5_readWind_9 rfl (lv_at hl 0 rfl) ?_
  refine lv_iconst (v := 0) hx hb dX5_readWind_10 (by decide) ?_
  refine lv_bipush (v := 10) hx hb dX5_readWind_11 (by decide) ?_
  refine cVi E I (c_X5_takeNumber l w g u1 k0 (0 : Int32) (10 : Int32) E.2.2.1 I.2.2 h_k0  ) (cwV 2 E.1.2.2.2.2 (gWs (C := "StarWalk$Tape") mw_2_199 mw_2_201 mw_s_6 mw_1_2 mw_2_202) rfl rfl rfl (by decide +kernel) ⟨by decide, by decide⟩) h_k0.1.1 ((ce_o h_k0.1.2).trans rfl) rfl rfl hl.1 rfl (Nat.le_of_ble_eq_true rfl) dX5_readWind_13 ⟨Nat.le_refl _, Nat.le_refl _⟩ (fun r3 u4 H lo hp hPS => ?_)
  obtain ⟨hwf, p5⟩ := hp
  have I : Wo w g s.heap u4 H lo := ⟨hPS.1, hPS.2, hwf⟩
  refine p_Night_till E I h_k0.2.2.1 mw_1_104 dX5_readWind_16 (fun H lo I => ?_)
  generalize ev6 : up1 u4 (k0 + 2) 10 r3 = v6 at I
  refine lv_aload_n hx hb dX5_readWind_19 rfl (lv_at hl 0 rfl) ?_
  refine cVv E I (c_X5_takeStop l w g v6 k0 E.2.2.1 I.2.2 h_k0  ) (cwV 0 E.1.2.2.2.2 (gWs (C := "StarWalk$Tape") mw_2_211 mw_2_213 mw_s_9 mw_1_2 mw_2_214) rfl rfl rfl (by decide +kernel) ⟨by decide, by decide⟩) h_k0.1.1 ((ce_o h_k0.1.2).trans rfl) rfl rfl hl.1 rfl (Nat.le_of_ble_eq_true rfl) dX5_readWind_20 ⟨Nat.le_refl _, Nat.le_refl _⟩ (fun u7 H lo hp hPS => ?_)
  obtain ⟨hwf, p8⟩ := hp
  have I : Wo w g s.heap u7 H lo := ⟨hPS.1, hPS.2, hwf⟩
  exact rV E I hr hlk (by rw [← hpost]; exact ⟨I.2.2, trivial⟩) dX5_readWind_23
set_option maxHeartbeats 4000000 in
set_option maxRecDepth 100000 in
theorem c_X5_readWater (l : Launch) (w : Wp) (g : Nat → Nat → Int32) (v : St) (k0 : Nat) (hq : Inj w) (hw : WF (wk w) g v) (h_k0 : oT w k0) : CTv w l yX5_readWater (wsy yX5_readWater prog_7_method_12_code 1 none) (rmL 4) [.ref (wq w k0)] v (fun (u : St) => WF (wk w) g u ∧ True) := by
  generalize hpost : (fun (u : St) => WF (wk w) g u ∧ True) = post
  refine CTv.of prog_7_method_12_code 1 none "StarWalk$Tape" (by decide +kernel) rfl hq hw (Nat.le_of_ble_eq_true rfl) ?_
  intro pg en s m ar bl me cd ls E I hr hlk hl
  have hx := E.1.1
  have hb := E.1.2.1
  have hl : lv_has ls 1 [(0, .ref (wq w k0))] := hl
  refine lv_aload_n hx hb dX5_readWater_0 rfl (lv_at hl 0 rfl) ?_
  refine lv_iconst (v := 4) hx hb dX5_readWater_1 (by decide) ?_
  refine cVv E I (c_X5_tellOnce l w g v k0 (4 : Int32) E.2.2.1 I.2.2 h_k0  ) (cwV 1 E.1.2.2.2.2 (gWs (C := "StarWalk$Tape") mw_3_8 mw_3_10 mw_s_13 mw_1_2 mw_3_11) rfl rfl rfl (by decide +kernel) ⟨by decide, by decide⟩) h_k0.1.1 ((ce_o h_k0.1.2).trans rfl) rfl rfl hl.1 rfl (Nat.le_of_ble_eq_true rfl) dX5_readWater_2 ⟨Nat.le_refl _, Nat.le_refl _⟩ (fun u1 H lo hp hPS => ?_)
  obtain ⟨hwf, p2⟩ := hp
  have I : Wo w g s.heap u1 H lo := ⟨hPS.1, hPS.2, hwf⟩
  refine lv_aload_n hx hb dX5_readWater_5 rfl (lv_at hl 0 rfl) ?_
  refine g_Tape_draft E I h_k0.1 mw_1_172 dX5_readWater_6 ?_
  refine g_Night_place E I h_k0.2.2.1 mw_1_114 dX5_readWater_9 ?_
  refine lv_aload_n hx hb dX5_readWater_12 rfl (lv_at hl 0 rfl) ?_
  refine lv_iconst (v := 0) hx hb dX5_readWater_13 (by decide) ?_
  refine lv_bipush (v := 99) hx hb dX5_readWater_14 (by decide) ?_
  refine cVi E I (c_X5_takeNumber l w g u1 k0 (0 : Int32) (99 : Int32) E.2.2.1 I.2.2 h_k0  ) (cwV 2 E.1.2.2.2.2 (gWs (C := "StarWalk$Tape") mw_2_199 mw_2_201 mw_s_6 mw_1_2 mw_2_202) rfl rfl rfl (by decide +kernel) ⟨by decide, by decide⟩) h_k0.1.1 ((ce_o h_k0.1.2).trans rfl) rfl rfl hl.1 rfl (Nat.le_of_ble_eq_true rfl) dX5_readWater_16 ⟨Nat.le_refl _, Nat.le_refl _⟩ (fun r3 u4 H lo hp hPS => ?_)
  obtain ⟨hwf, p5⟩ := hp
  have I : Wo w g s.heap u4 H lo := ⟨hPS.1, hPS.2, hwf⟩
  refine p_Place_water E I h_k0.2.2.2.2.2.2.2.1 mw_1_61 dX5_readWater_19 (fun H lo I => ?_)
  generalize ev6 : up1 u4 (k0 + 2 + 5) 3 r3 = v6 at I
  refine lv_aload_n hx hb dX5_readWater_22 rfl (lv_at hl 0 rfl) ?_
  refine cVv E I (c_X5_takeStop l w g v6 k0 E.2.2.1 I.2.2 h_k0  ) (cwV 0 E.1.2.2.2.2 (gWs (C := "StarWalk$Tape") mw_2_211 mw_2_213 mw_s_9 mw_1_2 mw_2_214) rfl rfl rfl (by decide +kernel) ⟨by decide, by decide⟩) h_k0.1.1 ((ce_o h_k0.1.2).trans rfl) rfl rfl hl.1 rfl (Nat.le_of_ble_eq_true rfl) dX5_readWater_23 ⟨Nat.le_refl _, Nat.le_refl _⟩ (fun u7 H lo hp hPS => ?_)
  obtain ⟨hwf, p8⟩ := hp
  have I : Wo w g s.heap u7 H lo := ⟨hPS.1, hPS.2, hwf⟩
  exact rV E I hr hlk (by rw [← hpost]; exact ⟨I.2.2, trivial⟩) dX5_readWater_26
set_option maxHeartbeats 4000000 in
set_option maxRecDepth 100000 in
theorem c_X5_readCloud (l : Launch) (w : Wp) (g : Nat → Nat → Int32) (v : St) (k0 : Nat) (hq : Inj w) (hw : WF (wk w) g v) (h_k0 : oT w k0) : CTv w l yX5_readCloud (wsy yX5_readCloud prog_7_method_13_code 2 none) (rmL 4) [.ref (wq w k0)] v (fun (u : St) => WF (wk w) g u ∧ True) := by
  generalize hpost : (fun (u : St) => WF (wk w) g u ∧ True) = post
  refine CTv.of prog_7_method_13_code 2 none "StarWalk$Tape" (by decide +kernel) rfl hq hw (Nat.le_of_ble_eq_true rfl) ?_
  intro pg en s m ar bl me cd ls E I hr hlk hl
  have hx := E.1.1
  have hb := E.1.2.1
  have hl : lv_has ls 2 [(0, .ref (wq w k0))] := hl
  have B_35 : ∀ (H : Heap) (lo : List Loc) (v_35 : St), Wo w g s.heap v_35 H lo → ∀ (y35_1 : Int32), ∀ (ls : Array Slot), lv_has ls 2 [(0, .ref (wq w k0)), (1, .int y35_1)] → W pg l en (rmL 4) s m ar bl me cd H lo 0 0 (Zv w bl ar s post) (F0 m 35 ls []) := by
    intro H lo v_35 I y35_1  ls hl
    refine lv_aload_n hx hb dX5_readCloud_35 rfl (lv_at hl 0 rfl) ?_
    refine cVv E I (c_X5_takeStop l w g v_35 k0 E.2.2.1 I.2.2 h_k0  ) (cwV 0 E.1.2.2.2.2 (gWs (C := "StarWalk$Tape") mw_2_211 mw_2_213 mw_s_9 mw_1_2 mw_2_214) rfl rfl rfl (by decide +kernel) ⟨by decide, by decide⟩) h_k0.1.1 ((ce_o h_k0.1.2).trans rfl) rfl rfl hl.1 rfl (Nat.le_of_ble_eq_true rfl) dX5_readCloud_36 ⟨Nat.le_refl _, Nat.le_refl _⟩ (fun u1 H lo hp hPS => ?_)
    obtain ⟨hwf, p2⟩ := hp
    have I : Wo w g s.heap u1 H lo := ⟨hPS.1, hPS.2, hwf⟩
    refine lv_aload_n hx hb dX5_readCloud_39 rfl (lv_at hl 0 rfl) ?_
    refine g_Tape_found E I h_k0.1 mw_1_179 dX5_readCloud_40 ?_
    refine lv_topi (fun x3 ex3 => ?_)
    refine bz_ne E (a := x3.toInt) rfl (tgt := 65) dX5_readCloud_43 (by decide) (fun c4 => ?_) (fun c4 => ?_)
    ·
      exact rV E I hr hlk (by rw [← hpost]; exact ⟨I.2.2, trivial⟩) dX5_readCloud_65
    ·
      refine lv_aload_n hx hb dX5_readCloud_46 rfl (lv_at hl 0 rfl) ?_
      refine g_Tape_draft E I h_k0.1 mw_1_172 dX5_readCloud_47 ?_
      refine lv_aload_n hx hb dX5_readCloud_50 rfl (lv_at hl 0 rfl) ?_
      refine g_Tape_draft E I h_k0.1 mw_1_172 dX5_readCloud_51 ?_
      refine g_Night_clouds E I h_k0.2.2.1 mw_1_108 dX5_readCloud_54 ?_
      refine lv_topi (fun x5 ex5 => ?_)
      refine lv_iload_n hx hb dX5_readCloud_57 rfl (lv_at hl 1 rfl) ?_
      refine lv_iconst (v := 1) hx hb dX5_readCloud_58 (by decide) ?_
      refine cNi E I (c_X7_withBit l w g u1 x5 y35_1 (1 : Int32) E.2.2.1 I.2.2   ) ⟨va_cnB 3 E.1.2.2.2.2 (gYs mw_2_230) rfl rfl rfl (E.2.2.2.1.2.2.2.2.2.2.2.1) (Ew E mw_1_1 rfl) (by decide +kernel) ⟨by decide, by decide⟩, Ew E mw_2_229 rfl, trivial⟩ rfl hl.1 rfl (Nat.le_of_ble_eq_true rfl) dX5_readCloud_59 ⟨Nat.le_refl _, Nat.le_refl _⟩ (fun r6 u7 H lo hp hPS => ?_)
      obtain ⟨hu, p8⟩ := hp
      rw [hu] at hPS
      have I : Wo w g s.heap u1 H lo := ⟨hPS.1, hPS.2, I.2.2⟩
      refine p_Night_clouds E I h_k0.2.2.1 mw_1_108 dX5_readCloud_62 (fun H lo I => ?_)
      generalize ev9 : up1 u1 (k0 + 2) 11 r6 = v9 at I
      exact rV E I hr hlk (by rw [← hpost]; exact ⟨I.2.2, trivial⟩) dX5_readCloud_65
  refine lv_aload_n hx hb dX5_readCloud_0 rfl (lv_at hl 0 rfl) ?_
  refine lv_iconst (v := 0) hx hb dX5_readCloud_1 (by decide) ?_
  refine lv_bipush (v := 9) hx hb dX5_readCloud_2 (by decide) ?_
  refine cVi E I (c_X5_takeNumber l w g v k0 (0 : Int32) (9 : Int32) E.2.2.1 I.2.2 h_k0  ) (cwV 2 E.1.2.2.2.2 (gWs (C := "StarWalk$Tape") mw_2_199 mw_2_201 mw_s_6 mw_1_2 mw_2_202) rfl rfl rfl (by decide +kernel) ⟨by decide, by decide⟩) h_k0.1.1 ((ce_o h_k0.1.2).trans rfl) rfl rfl hl.1 rfl (Nat.le_of_ble_eq_true rfl) dX5_readCloud_4 ⟨Nat.le_refl _, Nat.le_refl _⟩ (fun r10 u11 H lo hp hPS => ?_)
  obtain ⟨hwf, p12⟩ := hp
  have I : Wo w g s.heap u11 H lo := ⟨hPS.1, hPS.2, hwf⟩
  refine lv_istore_n (lv' := [(1, .int r10), (0, .ref (wq w k0))]) hx hb dX5_readCloud_7 rfl hl (by decide) rfl (fun ls hl => ?_)
  refine lv_aload_n hx hb dX5_readCloud_8 rfl (lv_at hl 1 rfl) ?_
  refine g_Tape_found E I h_k0.1 mw_1_179 dX5_readCloud_9 ?_
  refine lv_topi (fun x13 ex13 => ?_)
  refine bz_ne E (a := x13.toInt) rfl (tgt := 35) dX5_readCloud_12 (by decide) (fun c14 => ?_) (fun c14 => ?_)
  ·
    exact B_35 _ _ u11 I r10  ls (lv_sub hl [1, 0] rfl)
  ·
    refine lv_aload_n hx hb dX5_readCloud_15 rfl (lv_at hl 1 rfl) ?_
    refine g_Tape_draft E I h_k0.1 mw_1_172 dX5_readCloud_16 ?_
    refine lv_iload_n hx hb dX5_readCloud_19 rfl (lv_at hl 0 rfl) ?_
    refine cVi E I (c_X0_isCloudy l w g u11 (k0 + 2) r10 E.2.2.1 I.2.2 h_k0.2.2  ) (cwV 1 E.1.2.2.2.2 (gWs (C := "StarWalk$Night") mw_3_27 mw_3_28 mw_3_29 mw_1_3 mw_3_30) rfl rfl rfl (by decide +kernel) ⟨by decide, by decide⟩) h_k0.2.2.1.1 ((ce_o h_k0.2.2.1.2).trans rfl) rfl rfl hl.1 rfl (Nat.le_of_ble_eq_true rfl) dX5_readCloud_20 ⟨Nat.le_refl _, Nat.le_refl _⟩ (fun r15 u16 H lo hp hPS => ?_)
    obtain ⟨hu, p17⟩ := hp
    rw [hu] at hPS
    have I : Wo w g s.heap u11 H lo := ⟨hPS.1, hPS.2, I.2.2⟩
    refine bz_eq E (a := r15.toInt) rfl (tgt := 35) dX5_readCloud_23 (by decide) (fun c18 => ?_) (fun c18 => ?_)
    ·
      exact B_35 _ _ u11 I r10  ls (lv_sub hl [1, 0] rfl)
    ·
      refine lv_aload_n hx hb dX5_readCloud_26 rfl (lv_at hl 1 rfl) ?_
      refine lv_iconst (v := 4) hx hb dX5_readCloud_27 (by decide) ?_
      refine lv_aload_n hx hb dX5_readCloud_28 rfl (lv_at hl 1 rfl) ?_
      refine g_Tape_first E I h_k0.1 mw_1_175 dX5_readCloud_29 ?_
      refine lv_topi (fun x19 ex19 => ?_)
      refine cVv E I (c_X5_refuse l w g u11 k0 (4 : Int32) x19 E.2.2.1 I.2.2 h_k0  ) (cwV 2 E.1.2.2.2.2 (gWs (C := "StarWalk$Tape") mw_2_134 mw_2_136 mw_s_2 mw_1_2 mw_2_137) rfl rfl rfl (by decide +kernel) ⟨by decide, by decide⟩) h_k0.1.1 ((ce_o h_k0.1.2).trans rfl) rfl rfl hl.1 rfl (Nat.le_of_ble_eq_true rfl) dX5_readCloud_32 ⟨Nat.le_refl _, Nat.le_refl _⟩ (fun u20 H lo hp hPS => ?_)
      obtain ⟨hwf, p21⟩ := hp
      have I : Wo w g s.heap u20 H lo := ⟨hPS.1, hPS.2, hwf⟩
      exact B_35 _ _ u20 I r10  ls (lv_sub hl [1, 0] rfl)
set_option maxHeartbeats 4000000 in
set_option maxRecDepth 100000 in
theorem c_X5_readPlan (l : Launch) (w : Wp) (g : Nat → Nat → Int32) (v : St) (k0 : Nat) (hq : Inj w) (hw : WF (wk w) g v) (h_k0 : oT w k0) : CTv w l yX5_readPlan (wsy yX5_readPlan prog_7_method_14_code 2 none) (rmL 4) [.ref (wq w k0)] v (fun (u : St) => WF (wk w) g u ∧ True) := by
  generalize hpost : (fun (u : St) => WF (wk w) g u ∧ True) = post
  refine CTv.of prog_7_method_14_code 2 none "StarWalk$Tape" (by decide +kernel) rfl hq hw (Nat.le_of_ble_eq_true rfl) ?_
  intro pg en s m ar bl me cd ls E I hr hlk hl
  have hx := E.1.1
  have hb := E.1.2.1
  have hl : lv_has ls 2 [(0, .ref (wq w k0))] := hl
  have B_80 : ∀ (H : Heap) (lo : List Loc) (v_80 : St), Wo w g s.heap v_80 H lo → ∀ (ls : Array Slot), lv_has ls 2 [(0, .ref (wq w k0))] → W pg l en (rmL 4) s m ar bl me cd H lo 0 0 (Zv w bl ar s post) (F0 m 80 ls []) := by
    intro H lo v_80 I   ls hl
    refine lv_aload_n hx hb dX5_readPlan_80 rfl (lv_at hl 0 rfl) ?_
    refine lv_iconst (v := 3) hx hb dX5_readPlan_81 (by decide) ?_
    refine cVv E I (c_X5_need l w g v_80 k0 (3 : Int32) E.2.2.1 I.2.2 h_k0  ) (cwV 1 E.1.2.2.2.2 (gWs (C := "StarWalk$Tape") mw_2_203 mw_2_205 mw_s_7 mw_1_2 mw_2_206) rfl rfl rfl (by decide +kernel) ⟨by decide, by decide⟩) h_k0.1.1 ((ce_o h_k0.1.2).trans rfl) rfl rfl hl.1 rfl (Nat.le_of_ble_eq_true rfl) dX5_readPlan_82 ⟨Nat.le_refl _, Nat.le_refl _⟩ (fun u1 H lo hp hPS => ?_)
    obtain ⟨hwf, p2⟩ := hp
    have I : Wo w g s.heap u1 H lo := ⟨hPS.1, hPS.2, hwf⟩
    exact rV E I hr hlk (by rw [← hpost]; exact ⟨I.2.2, trivial⟩) dX5_readPlan_85
  have L_12 : ∀ (n : Nat), ∀ (H : Heap) (lo : List Loc) (v_12 : St), Wo w g s.heap v_12 H lo → ∀ (y12_1 : Int32), (0 ≤ y12_1.toInt ∧ y12_1.toInt ≤ 9) → (2147483647 - y12_1.toInt).toNat < n → ∀ (ls : Array Slot), lv_has ls 2 [(0, .ref (wq w k0)), (1, .int y12_1)] → W pg l en (rmL 4) s m ar bl me cd H lo 0 0 (Zv w bl ar s post) (F0 m 12 ls []) := by
    intro n
    induction n with
    | zero => intro H lo v_12 I y12_1 hy12_1 hm; exact absurd hm (Nat.not_lt_zero _)
    | succ n ih_12 =>
      intro H lo v_12 I y12_1 hy12_1 hm ls hl
      have B_70 : ∀ (H : Heap) (lo : List Loc) (v_70 : St), Wo w g s.heap v_70 H lo → (0 ≤ y12_1.toInt ∧ y12_1.toInt ≤ 8) → ∀ (ls : Array Slot), lv_has ls 2 [(0, .ref (wq w k0)), (1, .int y12_1)] → W pg l en (rmL 4) s m ar bl me cd H lo 0 0 (Zv w bl ar s post) (F0 m 70 ls []) := by
        intro H lo v_70 I  hE70_0 ls hl
        refine lv_aload_n hx hb dX5_readPlan_70 rfl (lv_at hl 0 rfl) ?_
        refine cVv E I (c_X5_takeToken l w g v_70 k0 E.2.2.1 I.2.2 h_k0  ) (cwV 0 E.1.2.2.2.2 (gWs (C := "StarWalk$Tape") mw_2_123 mw_2_125 mw_s_0 mw_1_2 mw_2_126) rfl rfl rfl (by decide +kernel) ⟨by decide, by decide⟩) h_k0.1.1 ((ce_o h_k0.1.2).trans rfl) rfl rfl hl.1 rfl (Nat.le_of_ble_eq_true rfl) dX5_readPlan_71 ⟨Nat.le_refl _, Nat.le_refl _⟩ (fun u3 H lo hp hPS => ?_)
        obtain ⟨hwf, p4⟩ := hp
        have I : Wo w g s.heap u3 H lo := ⟨hPS.1, hPS.2, hwf⟩
        obtain ⟨x5, ex5⟩ : ∃ z : Int32, z = y12_1 + 1 := ⟨_, rfl⟩
        have hx5 : x5.toInt = y12_1.toInt + (1) := by rw [ex5]; exact adI (a := y12_1.toInt) (b := 1) rfl rfl (by omega) (by omega)
        refine lv_iinc (v := x5) (lv' := [(1, .int x5), (0, .ref (wq w k0))]) hx hb dX5_readPlan_74 hl (k := 1) rfl (by rw [ex5]; rfl) (by decide) rfl (fun ls hl => ?_)
        refine lv_goto (tgt := 12) hx hb dX5_readPlan_77 (by decide) ?_
        exact ih_12 _ _ u3 I x5 (by omega) (by omega) ls (lv_sub hl [1, 0] rfl)
      refine lv_iload_n hx hb dX5_readPlan_12 rfl (lv_at hl 1 rfl) ?_
      refine lv_bipush (v := 8) hx hb dX5_readPlan_13 (by decide) ?_
      refine bi_gt E (a := y12_1.toInt) (b := 8) rfl rfl (tgt := 80) dX5_readPlan_15 (by decide) (fun c6 => ?_) (fun c6 => ?_)
      ·
        exact B_80 _ _ v_12 I   ls (lv_sub hl [0] rfl)
      ·
        refine lv_aload_n hx hb dX5_readPlan_18 rfl (lv_at hl 0 rfl) ?_
        refine g_Tape_found E I h_k0.1 mw_1_179 dX5_readPlan_19 ?_
        refine lv_topi (fun x7 ex7 => ?_)
        refine bz_ne E (a := x7.toInt) rfl (tgt := 80) dX5_readPlan_22 (by decide) (fun c8 => ?_) (fun c8 => ?_)
        ·
          exact B_80 _ _ v_12 I   ls (lv_sub hl [0] rfl)
        ·
          refine lv_aload_n hx hb dX5_readPlan_25 rfl (lv_at hl 0 rfl) ?_
          refine g_Tape_kind E I h_k0.1 mw_1_174 dX5_readPlan_26 ?_
          refine lv_topi (fun x9 ex9 => ?_)
          refine lv_iconst (v := 2) hx hb dX5_readPlan_29 (by decide) ?_
          refine bi_ne E (a := x9.toInt) (b := 2) rfl rfl (tgt := 80) dX5_readPlan_30 (by decide) (fun c10 => ?_) (fun c10 => ?_)
          ·
            exact B_80 _ _ v_12 I   ls (lv_sub hl [0] rfl)
          ·
            refine lv_aload_n hx hb dX5_readPlan_33 rfl (lv_at hl 0 rfl) ?_
            refine lv_iconst (v := 0) hx hb dX5_readPlan_34 (by decide) ?_
            refine lv_bipush (v := 6) hx hb dX5_readPlan_35 (by decide) ?_
            refine cVv E I (c_X5_needWithin l w g v_12 k0 (0 : Int32) (6 : Int32) E.2.2.1 I.2.2 h_k0  ) (cwV 2 E.1.2.2.2.2 (gWs (C := "StarWalk$Tape") mw_2_207 mw_2_209 mw_s_8 mw_1_2 mw_2_210) rfl rfl rfl (by decide +kernel) ⟨by decide, by decide⟩) h_k0.1.1 ((ce_o h_k0.1.2).trans rfl) rfl rfl hl.1 rfl (Nat.le_of_ble_eq_true rfl) dX5_readPlan_37 ⟨Nat.le_refl _, Nat.le_refl _⟩ (fun u11 H lo hp hPS => ?_)
            obtain ⟨hwf, p12⟩ := hp
            have I : Wo w g s.heap u11 H lo := ⟨hPS.1, hPS.2, hwf⟩
            refine lv_aload_n hx hb dX5_readPlan_40 rfl (lv_at hl 0 rfl) ?_
            refine g_Tape_found E I h_k0.1 mw_1_179 dX5_readPlan_41 ?_
            refine lv_topi (fun x13 ex13 => ?_)
            refine bz_ne E (a := x13.toInt) rfl (tgt := 70) dX5_readPlan_44 (by decide) (fun c14 => ?_) (fun c14 => ?_)
            ·
              exact B_70 _ _ u11 I  (by omega) ls (lv_sub hl [0, 1] rfl)
            ·
              refine lv_aload_n hx hb dX5_readPlan_47 rfl (lv_at hl 0 rfl) ?_
              refine g_Tape_draft E I h_k0.1 mw_1_172 dX5_readPlan_48 ?_
              refine lv_aload_n hx hb dX5_readPlan_51 rfl (lv_at hl 0 rfl) ?_
              refine g_Tape_value E I h_k0.1 mw_1_177 dX5_readPlan_52 ?_
              refine lv_topi (fun x15 ex15 => ?_)
              refine cVi E I (c_X0_addAim l w g u11 (k0 + 2) x15 E.2.2.1 I.2.2 h_k0.2.2  ) (cwV 1 E.1.2.2.2.2 (gWs (C := "StarWalk$Night") mw_3_36 mw_3_37 mw_3_38 mw_1_3 mw_3_39) rfl rfl rfl (by decide +kernel) ⟨by decide, by decide⟩) h_k0.2.2.1.1 ((ce_o h_k0.2.2.1.2).trans rfl) rfl rfl hl.1 rfl (Nat.le_of_ble_eq_true rfl) dX5_readPlan_55 ⟨Nat.le_refl _, Nat.le_refl _⟩ (fun r16 u17 H lo hp hPS => ?_)
              obtain ⟨hwf, p18⟩ := hp
              have I : Wo w g s.heap u17 H lo := ⟨hPS.1, hPS.2, hwf⟩
              refine bz_ne E (a := r16.toInt) rfl (tgt := 70) dX5_readPlan_58 (by decide) (fun c19 => ?_) (fun c19 => ?_)
              ·
                exact B_70 _ _ u17 I  (by omega) ls (lv_sub hl [0, 1] rfl)
              ·
                refine lv_aload_n hx hb dX5_readPlan_61 rfl (lv_at hl 0 rfl) ?_
                refine lv_iconst (v := 5) hx hb dX5_readPlan_62 (by decide) ?_
                refine lv_aload_n hx hb dX5_readPlan_63 rfl (lv_at hl 0 rfl) ?_
                refine g_Tape_first E I h_k0.1 mw_1_175 dX5_readPlan_64 ?_
                refine lv_topi (fun x20 ex20 => ?_)
                refine cVv E I (c_X5_refuse l w g u17 k0 (5 : Int32) x20 E.2.2.1 I.2.2 h_k0  ) (cwV 2 E.1.2.2.2.2 (gWs (C := "StarWalk$Tape") mw_2_134 mw_2_136 mw_s_2 mw_1_2 mw_2_137) rfl rfl rfl (by decide +kernel) ⟨by decide, by decide⟩) h_k0.1.1 ((ce_o h_k0.1.2).trans rfl) rfl rfl hl.1 rfl (Nat.le_of_ble_eq_true rfl) dX5_readPlan_67 ⟨Nat.le_refl _, Nat.le_refl _⟩ (fun u21 H lo hp hPS => ?_)
                obtain ⟨hwf, p22⟩ := hp
                have I : Wo w g s.heap u21 H lo := ⟨hPS.1, hPS.2, hwf⟩
                exact B_70 _ _ u21 I  (by omega) ls (lv_sub hl [0, 1] rfl)
  refine lv_aload_n hx hb dX5_readPlan_0 rfl (lv_at hl 0 rfl) ?_
  refine lv_bipush (v := 8) hx hb dX5_readPlan_1 (by decide) ?_
  refine cVv E I (c_X5_tellOnce l w g v k0 (8 : Int32) E.2.2.1 I.2.2 h_k0  ) (cwV 1 E.1.2.2.2.2 (gWs (C := "StarWalk$Tape") mw_3_8 mw_3_10 mw_s_13 mw_1_2 mw_3_11) rfl rfl rfl (by decide +kernel) ⟨by decide, by decide⟩) h_k0.1.1 ((ce_o h_k0.1.2).trans rfl) rfl rfl hl.1 rfl (Nat.le_of_ble_eq_true rfl) dX5_readPlan_3 ⟨Nat.le_refl _, Nat.le_refl _⟩ (fun u23 H lo hp hPS => ?_)
  obtain ⟨hwf, p24⟩ := hp
  have I : Wo w g s.heap u23 H lo := ⟨hPS.1, hPS.2, hwf⟩
  refine lv_aload_n hx hb dX5_readPlan_6 rfl (lv_at hl 0 rfl) ?_
  refine cVv E I (c_X5_takeToken l w g u23 k0 E.2.2.1 I.2.2 h_k0  ) (cwV 0 E.1.2.2.2.2 (gWs (C := "StarWalk$Tape") mw_2_123 mw_2_125 mw_s_0 mw_1_2 mw_2_126) rfl rfl rfl (by decide +kernel) ⟨by decide, by decide⟩) h_k0.1.1 ((ce_o h_k0.1.2).trans rfl) rfl rfl hl.1 rfl (Nat.le_of_ble_eq_true rfl) dX5_readPlan_7 ⟨Nat.le_refl _, Nat.le_refl _⟩ (fun u25 H lo hp hPS => ?_)
  obtain ⟨hwf, p26⟩ := hp
  have I : Wo w g s.heap u25 H lo := ⟨hPS.1, hPS.2, hwf⟩
  refine lv_iconst (v := 0) hx hb dX5_readPlan_10 (by decide) ?_
  refine lv_istore_n (lv' := [(1, .int 0), (0, .ref (wq w k0))]) hx hb dX5_readPlan_11 rfl hl (by decide) rfl (fun ls hl => ?_)
  exact L_12 ((2147483647 - (0 : Int32).toInt).toNat + 1) _ _ u25 I (0 : Int32) (by decide) (Nat.lt_succ_self _) ls (lv_sub hl [1, 0] rfl)
set_option maxHeartbeats 4000000 in
set_option maxRecDepth 100000 in
theorem c_X5_readWalker (l : Launch) (w : Wp) (g : Nat → Nat → Int32) (v : St) (k0 : Nat) (a0 : Int32) (hq : Inj w) (hw : WF (wk w) g v) (h_k0 : oT w k0) : CTv w l yX5_readWalker (wsy yX5_readWalker prog_7_method_9_code 2 none) (rmL 4) [.ref (wq w k0), .int a0] v (fun (u : St) => WF (wk w) g u ∧ True) := by
  generalize hpost : (fun (u : St) => WF (wk w) g u ∧ True) = post
  refine CTv.of prog_7_method_9_code 2 none "StarWalk$Tape" (by decide +kernel) rfl hq hw (Nat.le_of_ble_eq_true rfl) ?_
  intro pg en s m ar bl me cd ls E I hr hlk hl
  have hx := E.1.1
  have hb := E.1.2.1
  have hl : lv_has ls 2 [(0, .ref (wq w k0)), (1, .int a0)] := hl
  have B_20 : ∀ (H : Heap) (lo : List Loc) (v_20 : St), Wo w g s.heap v_20 H lo → ∀ (ls : Array Slot), lv_has ls 2 [(0, .ref (wq w k0)), (1, .int a0)] → W pg l en (rmL 4) s m ar bl me cd H lo 0 0 (Zv w bl ar s post) (F0 m 20 ls []) := by
    intro H lo v_20 I   ls hl
    refine lv_aload_n hx hb dX5_readWalker_20 rfl (lv_at hl 0 rfl) ?_
    refine cVv E I (c_X5_takeStop l w g v_20 k0 E.2.2.1 I.2.2 h_k0  ) (cwV 0 E.1.2.2.2.2 (gWs (C := "StarWalk$Tape") mw_2_211 mw_2_213 mw_s_9 mw_1_2 mw_2_214) rfl rfl rfl (by decide +kernel) ⟨by decide, by decide⟩) h_k0.1.1 ((ce_o h_k0.1.2).trans rfl) rfl rfl hl.1 rfl (Nat.le_of_ble_eq_true rfl) dX5_readWalker_21 ⟨Nat.le_refl _, Nat.le_refl _⟩ (fun u1 H lo hp hPS => ?_)
    obtain ⟨hwf, p2⟩ := hp
    have I : Wo w g s.heap u1 H lo := ⟨hPS.1, hPS.2, hwf⟩
    refine lv_aload_n hx hb dX5_readWalker_24 rfl (lv_at hl 0 rfl) ?_
    refine g_Tape_found E I h_k0.1 mw_1_179 dX5_readWalker_25 ?_
    refine lv_topi (fun x3 ex3 => ?_)
    refine bz_ne E (a := x3.toInt) rfl (tgt := 40) dX5_readWalker_28 (by decide) (fun c4 => ?_) (fun c4 => ?_)
    ·
      exact rV E I hr hlk (by rw [← hpost]; exact ⟨I.2.2, trivial⟩) dX5_readWalker_40
    ·
      refine lv_aload_n hx hb dX5_readWalker_31 rfl (lv_at hl 0 rfl) ?_
      refine g_Tape_draft E I h_k0.1 mw_1_172 dX5_readWalker_32 ?_
      refine lv_iload_n hx hb dX5_readWalker_35 rfl (lv_at hl 1 rfl) ?_
      refine cVi E I (c_X0_addWalker l w g u1 (k0 + 2) a0 E.2.2.1 I.2.2 h_k0.2.2  ) (cwV 1 E.1.2.2.2.2 (gWs (C := "StarWalk$Night") mw_2_236 mw_2_237 mw_2_238 mw_1_3 mw_2_239) rfl rfl rfl (by decide +kernel) ⟨by decide, by decide⟩) h_k0.2.2.1.1 ((ce_o h_k0.2.2.1.2).trans rfl) rfl rfl hl.1 rfl (Nat.le_of_ble_eq_true rfl) dX5_readWalker_36 ⟨Nat.le_refl _, Nat.le_refl _⟩ (fun r5 u6 H lo hp hPS => ?_)
      obtain ⟨hwf, p7⟩ := hp
      have I : Wo w g s.heap u6 H lo := ⟨hPS.1, hPS.2, hwf⟩
      refine lv_pop hx hb dX5_readWalker_39 rfl ?_
      exact rV E I hr hlk (by rw [← hpost]; exact ⟨I.2.2, trivial⟩) dX5_readWalker_40
  refine lv_aload_n hx hb dX5_readWalker_0 rfl (lv_at hl 0 rfl) ?_
  refine g_Tape_draft E I h_k0.1 mw_1_172 dX5_readWalker_1 ?_
  refine g_Night_walkers E I h_k0.2.2.1 mw_1_93 dX5_readWalker_4 ?_
  refine lv_topi (fun x8 ex8 => ?_)
  have hx8 := r_Night_walkers I h_k0.2.2.1
  rw [← ex8] at hx8
  refine lv_iconst (v := 3) hx hb dX5_readWalker_7 (by decide) ?_
  refine bi_lt E (a := x8.toInt) (b := 3) rfl rfl (tgt := 20) dX5_readWalker_8 (by decide) (fun c9 => ?_) (fun c9 => ?_)
  ·
    exact B_20 _ _ v I   ls (lv_sub hl [0, 1] rfl)
  ·
    refine lv_aload_n hx hb dX5_readWalker_11 rfl (lv_at hl 0 rfl) ?_
    refine lv_iconst (v := 5) hx hb dX5_readWalker_12 (by decide) ?_
    refine lv_aload_n hx hb dX5_readWalker_13 rfl (lv_at hl 0 rfl) ?_
    refine g_Tape_first E I h_k0.1 mw_1_175 dX5_readWalker_14 ?_
    refine lv_topi (fun x10 ex10 => ?_)
    refine cVv E I (c_X5_refuse l w g v k0 (5 : Int32) x10 E.2.2.1 I.2.2 h_k0  ) (cwV 2 E.1.2.2.2.2 (gWs (C := "StarWalk$Tape") mw_2_134 mw_2_136 mw_s_2 mw_1_2 mw_2_137) rfl rfl rfl (by decide +kernel) ⟨by decide, by decide⟩) h_k0.1.1 ((ce_o h_k0.1.2).trans rfl) rfl rfl hl.1 rfl (Nat.le_of_ble_eq_true rfl) dX5_readWalker_17 ⟨Nat.le_refl _, Nat.le_refl _⟩ (fun u11 H lo hp hPS => ?_)
    obtain ⟨hwf, p12⟩ := hp
    have I : Wo w g s.heap u11 H lo := ⟨hPS.1, hPS.2, hwf⟩
    exact B_20 _ _ u11 I   ls (lv_sub hl [0, 1] rfl)
set_option maxHeartbeats 4000000 in
set_option maxRecDepth 100000 in
theorem c_X5_namesNoStar (l : Launch) (w : Wp) (g : Nat → Nat → Int32) (v : St) (k0 : Nat) (hq : Inj w) (hw : WF (wk w) g v) (h_k0 : oT w k0) : CTi w l yX5_namesNoStar (wsy yX5_namesNoStar prog_7_method_4_code 2 (some .boolean)) (rmL 3) [.ref (wq w k0)] v (fun (r : Int32) (u : St) => u = v ∧ 0 ≤ r.toInt ∧ r.toInt ≤ 1) := by
  generalize hpost : (fun (r : Int32) (u : St) => u = v ∧ 0 ≤ r.toInt ∧ r.toInt ≤ 1) = post
  refine CTi.of prog_7_method_4_code 2 (some .boolean) "StarWalk$Tape" (by decide +kernel) rfl hq hw (Nat.le_of_ble_eq_true rfl) ?_
  intro pg en s m ar bl me cd ls E I hr hlk hl
  have hx := E.1.1
  have hb := E.1.2.1
  have hl : lv_has ls 2 [(0, .ref (wq w k0))] := hl
  have L_22 : ∀ (n : Nat), ∀ (H : Heap) (lo : List Loc), Wo w g s.heap v H lo → ∀ (y22_1 : Int32), (0 ≤ y22_1.toInt ∧ y22_1.toInt ≤ 8) → (2147483647 - y22_1.toInt).toNat < n → ∀ (ls : Array Slot), lv_has ls 2 [(0, .ref (wq w k0)), (1, .int y22_1)] → W pg l en (rmL 3) s m ar bl me cd H lo 0 0 (Zi w bl ar s post) (F0 m 22 ls []) := by
    intro n
    induction n with
    | zero => intro H lo  I y22_1 hy22_1 hm; exact absurd hm (Nat.not_lt_zero _)
    | succ n ih_22 =>
      intro H lo  I y22_1 hy22_1 hm ls hl
      refine lv_iload_n hx hb dX5_namesNoStar_22 rfl (lv_at hl 1 rfl) ?_
      refine lv_bipush (v := 8) hx hb dX5_namesNoStar_23 (by decide) ?_
      refine bi_ge E (a := y22_1.toInt) (b := 8) rfl rfl (tgt := 66) dX5_namesNoStar_25 (by decide) (fun c1 => ?_) (fun c1 => ?_)
      ·
        refine lv_iconst (v := 0) hx hb dX5_namesNoStar_66 (by decide) ?_
        exact rI E I hr hlk rfl (by rw [← hpost]; exact ⟨rfl, by have eL : (0 : Int32).toInt = 0 := rfl; omega⟩) dX5_namesNoStar_67
      ·
        refine lv_aload_n hx hb dX5_namesNoStar_28 rfl (lv_at hl 0 rfl) ?_
        refine g_Tape_draft E I h_k0.1 mw_1_172 dX5_namesNoStar_29 ?_
        refine lv_iload_n hx hb dX5_namesNoStar_32 rfl (lv_at hl 1 rfl) ?_
        refine cVi E I (c_X0_hasPlanned l w g v (k0 + 2) y22_1 E.2.2.1 I.2.2 h_k0.2.2  ) (cwV 1 E.1.2.2.2.2 (gWs (C := "StarWalk$Night") mw_3_44 mw_3_45 mw_3_46 mw_1_3 mw_3_47) rfl rfl rfl (by decide +kernel) ⟨by decide, by decide⟩) h_k0.2.2.1.1 ((ce_o h_k0.2.2.1.2).trans rfl) rfl rfl hl.1 rfl (Nat.le_of_ble_eq_true rfl) dX5_namesNoStar_33 ⟨Nat.le_refl _, Nat.le_refl _⟩ (fun r2 u3 H lo hp hPS => ?_)
        obtain ⟨hu, p4⟩ := hp
        rw [hu] at hPS
        have I : Wo w g s.heap v H lo := ⟨hPS.1, hPS.2, I.2.2⟩
        refine bz_eq E (a := r2.toInt) rfl (tgt := 66) dX5_namesNoStar_36 (by decide) (fun c5 => ?_) (fun c5 => ?_)
        ·
          refine lv_iconst (v := 0) hx hb dX5_namesNoStar_66 (by decide) ?_
          exact rI E I hr hlk rfl (by rw [← hpost]; exact ⟨rfl, by have eL : (0 : Int32).toInt = 0 := rfl; omega⟩) dX5_namesNoStar_67
        ·
          refine lv_aload_n hx hb dX5_namesNoStar_39 rfl (lv_at hl 0 rfl) ?_
          refine g_Tape_draft E I h_k0.1 mw_1_172 dX5_namesNoStar_40 ?_
          refine lv_aload_n hx hb dX5_namesNoStar_43 rfl (lv_at hl 0 rfl) ?_
          refine g_Tape_draft E I h_k0.1 mw_1_172 dX5_namesNoStar_44 ?_
          refine g_Night_plannedAims E I h_k0.2.2.1 mw_1_118 dX5_namesNoStar_47 ?_
          refine lv_iload_n hx hb dX5_namesNoStar_50 rfl (lv_at hl 1 rfl) ?_
          refine ga_12 E I h_k0.2.2.2.2.2.2.2.2.1 (by omega) dX5_namesNoStar_51 ?_
          refine lv_topi (fun x6 ex6 => ?_)
          refine cVi E I (c_X0_hasAim l w g v (k0 + 2) x6 E.2.2.1 I.2.2 h_k0.2.2  ) (cwV 1 E.1.2.2.2.2 (gWs (C := "StarWalk$Night") mw_3_48 mw_3_49 mw_3_50 mw_1_3 mw_3_51) rfl rfl rfl (by decide +kernel) ⟨by decide, by decide⟩) h_k0.2.2.1.1 ((ce_o h_k0.2.2.1.2).trans rfl) rfl rfl hl.1 rfl (Nat.le_of_ble_eq_true rfl) dX5_namesNoStar_52 ⟨Nat.le_refl _, Nat.le_refl _⟩ (fun r7 u8 H lo hp hPS => ?_)
          obtain ⟨hu, p9⟩ := hp
          rw [hu] at hPS
          have I : Wo w g s.heap v H lo := ⟨hPS.1, hPS.2, I.2.2⟩
          refine bz_ne E (a := r7.toInt) rfl (tgt := 60) dX5_namesNoStar_55 (by decide) (fun c10 => ?_) (fun c10 => ?_)
          ·
            obtain ⟨x11, ex11⟩ : ∃ z : Int32, z = y22_1 + 1 := ⟨_, rfl⟩
            have hx11 : x11.toInt = y22_1.toInt + (1) := by rw [ex11]; exact adI (a := y22_1.toInt) (b := 1) rfl rfl (by omega) (by omega)
            refine lv_iinc (v := x11) (lv' := [(1, .int x11), (0, .ref (wq w k0))]) hx hb dX5_namesNoStar_60 hl (k := 1) rfl (by rw [ex11]; rfl) (by decide) rfl (fun ls hl => ?_)
            refine lv_goto (tgt := 22) hx hb dX5_namesNoStar_63 (by decide) ?_
            exact ih_22 _ _ I x11 (by omega) (by omega) ls (lv_sub hl [1, 0] rfl)
          ·
            refine lv_iconst (v := 1) hx hb dX5_namesNoStar_58 (by decide) ?_
            exact rI E I hr hlk rfl (by rw [← hpost]; exact ⟨rfl, by have eL : (1 : Int32).toInt = 1 := rfl; omega⟩) dX5_namesNoStar_59
  refine lv_aload_n hx hb dX5_namesNoStar_0 rfl (lv_at hl 0 rfl) ?_
  refine g_Tape_draft E I h_k0.1 mw_1_172 dX5_namesNoStar_1 ?_
  refine g_Night_known E I h_k0.2.2.1 mw_1_87 dX5_namesNoStar_4 ?_
  refine lv_topi (fun x12 ex12 => ?_)
  refine lv_aload_n hx hb dX5_namesNoStar_7 rfl (lv_at hl 0 rfl) ?_
  refine g_Tape_draft E I h_k0.1 mw_1_172 dX5_namesNoStar_8 ?_
  refine g_Night_stars E I h_k0.2.2.1 mw_1_84 dX5_namesNoStar_11 ?_
  refine lv_topi (fun x13 ex13 => ?_)
  have hx13 := r_Night_stars I h_k0.2.2.1
  rw [← ex13] at hx13
  refine lv_ishr hx hb dX5_namesNoStar_14 ?_
  refine lv_topi (fun x14 ex14 => ?_)
  refine bz_eq E (a := x14.toInt) rfl (tgt := 20) dX5_namesNoStar_15 (by decide) (fun c15 => ?_) (fun c15 => ?_)
  ·
    refine lv_iconst (v := 0) hx hb dX5_namesNoStar_20 (by decide) ?_
    refine lv_istore_n (lv' := [(1, .int 0), (0, .ref (wq w k0))]) hx hb dX5_namesNoStar_21 rfl hl (by decide) rfl (fun ls hl => ?_)
    exact L_22 ((2147483647 - (0 : Int32).toInt).toNat + 1) _ _ I (0 : Int32) (by decide) (Nat.lt_succ_self _) ls (lv_sub hl [1, 0] rfl)
  ·
    refine lv_iconst (v := 1) hx hb dX5_namesNoStar_18 (by decide) ?_
    exact rI E I hr hlk rfl (by rw [← hpost]; exact ⟨rfl, by have eL : (1 : Int32).toInt = 1 := rfl; omega⟩) dX5_namesNoStar_19
set_option maxHeartbeats 4000000 in
set_option maxRecDepth 100000 in
theorem c_X5_addByte (l : Launch) (w : Wp) (g : Nat → Nat → Int32) (v : St) (k0 : Nat) (a0 : Int32) (hq : Inj w) (hw : WF (wk w) g v) (h_k0 : oT w k0) : CTi w l yX5_addByte (wsy yX5_addByte prog_7_method_2_code 2 (some .boolean)) (rmL 1) [.ref (wq w k0), .int a0] v (fun (r : Int32) (u : St) => (r.toInt = 0 ∧ (g k0 1).toInt = 160 ∧ WF (wk w) g u) ∨ (r.toInt = 1 ∧ (g k0 1).toInt ≤ 159 ∧ ∃ x : Int32, x.toInt = (g k0 1).toInt + 1 ∧ WF (wk w) (gup g k0 1 x) u)) := by
  generalize hpost : (fun (r : Int32) (u : St) => (r.toInt = 0 ∧ (g k0 1).toInt = 160 ∧ WF (wk w) g u) ∨ (r.toInt = 1 ∧ (g k0 1).toInt ≤ 159 ∧ ∃ x : Int32, x.toInt = (g k0 1).toInt + 1 ∧ WF (wk w) (gup g k0 1 x) u)) = post
  refine CTi.of prog_7_method_2_code 2 (some .boolean) "StarWalk$Tape" (by decide +kernel) rfl hq hw (Nat.le_of_ble_eq_true rfl) ?_
  intro pg en s m ar bl me cd ls E I hr hlk hl
  have hx := E.1.1
  have hb := E.1.2.1
  have hl : lv_has ls 2 [(0, .ref (wq w k0)), (1, .int a0)] := hl
  refine lv_aload_n hx hb dX5_addByte_0 rfl (lv_at hl 0 rfl) ?_
  refine g_Tape_length E I h_k0.1 mw_1_170 dX5_addByte_1 ?_
  refine lv_topi (fun x1 ex1 => ?_)
  have hx1 := r_Tape_length I h_k0.1
  rw [← ex1] at hx1
  have qx1 := (I.2.2 k0 1).2 (by rw [h_k0.1.2]; rfl)
  rw [← ex1] at qx1
  have tx1 := congrArg Int32.toInt qx1
  refine lv_sipush (v := 160) hx hb dX5_addByte_4 (by decide) ?_
  refine bi_lt E (a := x1.toInt) (b := 160) rfl rfl (tgt := 12) dX5_addByte_7 (by decide) (fun c2 => ?_) (fun c2 => ?_)
  ·
    refine lv_aload_n hx hb dX5_addByte_12 rfl (lv_at hl 0 rfl) ?_
    refine g_Tape_bytes E I h_k0.1 mw_1_169 dX5_addByte_13 ?_
    refine lv_aload_n hx hb dX5_addByte_16 rfl (lv_at hl 0 rfl) ?_
    refine g_Tape_length E I h_k0.1 mw_1_170 dX5_addByte_17 ?_
    refine lv_topi (fun x3 ex3 => ?_)
    obtain rfl : x1 = x3 := ex1.symm.symm.trans ex3.symm
    refine lv_iload_n hx hb dX5_addByte_20 rfl (lv_at hl 1 rfl) ?_
    refine lv_i2b (v := _) hx hb dX5_addByte_21 rfl ?_
    refine lv_topi (fun x4 ex4 => ?_)
    refine pa_17 E I h_k0.2.1 (by omega) dX5_addByte_22 (fun H lo I => ?_)
    generalize ev5 : up1 v (k0 + 1) x1.toNatClampNeg (vp_nar .byte x4) = v5 at I
    have mv5_0 : v5.1 k0 1 = x1 := by rw [← ev5, up1_n _ _ (Or.inl (by omega))] <;> exact ex1.symm
    refine lv_aload_n hx hb dX5_addByte_23 rfl (lv_at hl 0 rfl) ?_
    refine lv_dup hx hb dX5_addByte_24 rfl ?_
    refine g_Tape_length E I h_k0.1 mw_1_170 dX5_addByte_25 ?_
    refine lv_topi (fun x6 ex6 => ?_)
    obtain rfl : x1 = x6 := mv5_0.symm.trans ex6.symm
    refine lv_iconst (v := 1) hx hb dX5_addByte_28 (by decide) ?_
    refine lv_iadd hx hb dX5_addByte_29 ?_
    refine lv_topi (fun x7 ex7 => ?_)
    have hx7 : x7.toInt = x1.toInt + 1 := by rw [ex7]; exact adI (a := x1.toInt) (b := 1) rfl rfl (by omega) (by omega)
    refine p_Tape_length E I h_k0.1 mw_1_170 (by omega) dX5_addByte_30 (fun H lo I => ?_)
    generalize ev8 : up1 v5 k0 1 x7 = v8 at I
    refine lv_iconst (v := 1) hx hb dX5_addByte_33 (by decide) ?_
    exact rI E I hr hlk rfl (by rw [← hpost]; exact Or.inr ⟨rfl, by omega, x7, by omega, I.2.2⟩) dX5_addByte_34
  ·
    refine lv_iconst (v := 0) hx hb dX5_addByte_10 (by decide) ?_
    exact rI E I hr hlk rfl (by rw [← hpost]; exact Or.inl ⟨rfl, by omega, I.2.2⟩) dX5_addByte_11
