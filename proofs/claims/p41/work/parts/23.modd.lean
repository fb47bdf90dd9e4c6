theorem st_10 {y x A B c d k : Int} (hx : x = y + 1) (hB : B = A * 10) (h : y = k → A ≤ c) (hd : d = c * 10) : x = k + 1 → B ≤ d := fun e => by
  have := h (by omega)
  omega
theorem dj_10 {y : Int} (h : 0 ≤ y ∧ y < 10) : y = 0 ∨ y = 1 ∨ y = 2 ∨ y = 3 ∨ y = 4 ∨ y = 5 ∨ y = 6 ∨ y = 7 ∨ y = 8 ∨ y = 9 := by omega
theorem bd_10 {y A : Int} (h : 0 ≤ y ∧ y < 10) (h0 : y = 0 → A ≤ 1) (h1 : y = 1 → A ≤ 10) (h2 : y = 2 → A ≤ 100) (h3 : y = 3 → A ≤ 1000) (h4 : y = 4 → A ≤ 10000) (h5 : y = 5 → A ≤ 100000) (h6 : y = 6 → A ≤ 1000000) (h7 : y = 7 → A ≤ 10000000) (h8 : y = 8 → A ≤ 100000000) (h9 : y = 9 → A ≤ 1000000000) : A ≤ 1000000000 := by
  rcases dj_10 h with e | e | e | e | e | e | e | e | e | e
  · exact Int.le_trans (h0 e) (by decide)
  · exact Int.le_trans (h1 e) (by decide)
  · exact Int.le_trans (h2 e) (by decide)
  · exact Int.le_trans (h3 e) (by decide)
  · exact Int.le_trans (h4 e) (by decide)
  · exact Int.le_trans (h5 e) (by decide)
  · exact Int.le_trans (h6 e) (by decide)
  · exact Int.le_trans (h7 e) (by decide)
  · exact Int.le_trans (h8 e) (by decide)
  · exact Int.le_trans (h9 e) (by decide)
def F_X8_feed (k0 : Nat) (a0 : Int32) (v : St) : Int32 × St :=
xl (F_X8_in a0.toInt64 (0 : Int64) (127 : Int64) v) fun r2 =>
if r2.toInt = 0 then (
((-1 : Int32), v)) else (
xl (v.1 k0 12) fun x9 =>
if x9.toInt = 160 then (
((-3 : Int32), v)) else (
xl (up1 v (k0 + 5) x9.toNatClampNeg a0) fun v12 =>
xl (x9 + (1 : Int32)) fun x14 =>
xl (up1 v12 k0 12 x14) fun v15 =>
xl (v15.1 k0 12) fun x16 =>
(x16, v15)))
set_option maxHeartbeats 4000000 in
set_option maxRecDepth 100000 in
theorem c_X8_feed (l : Launch) (w : Wp) (g : Nat → Nat → Int32) (v : St) (k0 : Nat) (a0 : Int32) (hq : Inj w) (hw : WF (wk w) g v) (h_k0 : oM w k0) : CTi w l yX8_feed (wsy yX8_feed prog_10_method_7_code 2 (some .int)) (rmL 2) [.ref (wq w k0), .int a0] v (fun (r : Int32) (u : St) => (WF (wk w) g u ∧ True) ∧ ((r, u) = F_X8_feed k0 a0 v) ∧ (∀ k j : Nat, ¬ ((k = k0 ∧ j = 12) ∨ k = k0 + 5) → u.1 k j = v.1 k j)) := by
  generalize hpost : (fun (r : Int32) (u : St) => (WF (wk w) g u ∧ True) ∧ ((r, u) = F_X8_feed k0 a0 v) ∧ (∀ k j : Nat, ¬ ((k = k0 ∧ j = 12) ∨ k = k0 + 5) → u.1 k j = v.1 k j)) = post
  refine CTi.of prog_10_method_7_code 2 (some .int) "StarWalkModel" (by decide +kernel) rfl hq hw (Nat.le_of_ble_eq_true rfl) ?_
  intro pg en s m ar bl me cd ls E I hr hlk hl
  have hx := E.1.1
  have hb := E.1.2.1
  have hl : lv_has ls 2 [(0, .ref (wq w k0)), (1, .int a0)] := hl
  obtain ⟨res, hres⟩ : ∃ z, z = F_X8_feed k0 a0 v := ⟨_, rfl⟩
  have hF := hres.symm
  unfold F_X8_feed at hF
  replace hres : res = F_X8_feed k0 a0 v := hres
  have rz0 : ∀ k j : Nat, ¬ ((k = k0 ∧ j = 12) ∨ k = k0 + 5) → v.1 k j = v.1 k j := fun _ _ _ => rfl
  refine lv_iload_n hx hb dX8_feed_0 rfl (lv_at hl 1 rfl) ?_
  refine lv_i2l (v := a0.toInt64) hx hb dX8_feed_1 rfl ?_
  refine lv_lconst (v := 0) hx hb dX8_feed_2 (by decide) ?_
  refine lv_ldc2 (own := "StarWalkModel") hx hb E.1.2.2.2.1 (Ew E mw_5_28 rfl) dX8_feed_3 ?_
  refine cSi E I (c_X8_in l w g v a0.toInt64 (0 : Int64) (127 : Int64) E.2.2.1 I.2.2   ) (va_cwS 3 E.1.2.2.2.2 (gSs mw_5_29 mw_5_30 mw_1_9 mw_5_31) rfl rfl rfl (by decide +kernel) ⟨by decide, by decide⟩) rfl hl.1 rfl (Nat.le_of_ble_eq_true rfl) dX8_feed_6 ⟨Nat.le_refl _, Nat.le_refl _⟩ (fun r2 u3 H lo hp hPS => ?_)
  have iz4 := i64_of a0
  have iz5 : (0 : Int64).toInt = 0 := rfl
  have iz6 : (127 : Int64).toInt = 127 := rfl
  obtain ⟨hp, hex, hfr⟩ := hp
  replace hF := xl_i hex hF
  obtain ⟨hu, p7⟩ := hp
  rw [hu] at hPS
  have I : Wo w g s.heap v H lo := ⟨hPS.1, hPS.2, I.2.2⟩
  refine bz_ne E (a := r2.toInt) rfl (tgt := 14) dX8_feed_9 (by decide) (fun c8 => ?_) (fun c8 => ?_)
  ·
    replace hF := if_f c8 hF
    refine lv_aload_n hx hb dX8_feed_14 rfl (lv_at hl 0 rfl) ?_
    refine g_StarWalkModel_taped E I h_k0.1 mw_4_182 dX8_feed_15 ?_
    refine lv_topi (fun x9 ex9 => ?_)
    replace hF := xl_i (ex9) hF
    have hx9 := r_StarWalkModel_taped I h_k0.1
    rw [← ex9] at hx9
    refine lv_sipush (v := 160) hx hb dX8_feed_18 (by decide) ?_
    refine bi_ne E (a := x9.toInt) (b := 160) rfl rfl (tgt := 27) dX8_feed_21 (by decide) (fun c10 => ?_) (fun c10 => ?_)
    ·
      replace hF := if_f c10 hF
      refine lv_aload_n hx hb dX8_feed_27 rfl (lv_at hl 0 rfl) ?_
      refine g_StarWalkModel_tape E I h_k0.1 mw_4_181 dX8_feed_28 ?_
      refine lv_aload_n hx hb dX8_feed_31 rfl (lv_at hl 0 rfl) ?_
      refine g_StarWalkModel_taped E I h_k0.1 mw_4_182 dX8_feed_32 ?_
      refine lv_topi (fun x11 ex11 => ?_)
      obtain rfl : x9 = x11 := ex9.symm.symm.trans ex11.symm
      refine lv_iload_n hx hb dX8_feed_35 rfl (lv_at hl 1 rfl) ?_
      refine pa_34 E I h_k0.2.2.2.2.2.1 (by omega) dX8_feed_36 (fun H lo I => ?_)
      generalize ev12 : up1 v (k0 + 5) x9.toNatClampNeg a0 = v12 at I
      replace hF := xl_i (ev12.symm) hF
      have mv12_0 : v12.1 k0 12 = x9 := by rw [← ev12, up1_n _ _ (Or.inl (by omega))] <;> exact ex9.symm
      have rzv12 : ∀ k j : Nat, ¬ ((k = k0 ∧ j = 12) ∨ k = k0 + 5) → v12.1 k j = v.1 k j := fun k j h => fz_u ev12 (by have czx9 := cnI (x := x9) (by omega); omega) (rz0 k j h)
      refine lv_aload_n hx hb dX8_feed_37 rfl (lv_at hl 0 rfl) ?_
      refine lv_dup hx hb dX8_feed_38 rfl ?_
      refine g_StarWalkModel_taped E I h_k0.1 mw_4_182 dX8_feed_39 ?_
      refine lv_topi (fun x13 ex13 => ?_)
      obtain rfl : x9 = x13 := mv12_0.symm.trans ex13.symm
      refine lv_iconst (v := 1) hx hb dX8_feed_42 (by decide) ?_
      refine lv_iadd hx hb dX8_feed_43 ?_
      refine lv_topi (fun x14 ex14 => ?_)
      replace hF := xl_i (ex14) hF
      have hx14 : x14.toInt = x9.toInt + 1 := by rw [ex14]; exact adI (a := x9.toInt) (b := 1) rfl rfl (by omega) (by omega)
      refine p_StarWalkModel_taped E I h_k0.1 mw_4_182 (by omega) dX8_feed_44 (fun H lo I => ?_)
      generalize ev15 : up1 v12 k0 12 x14 = v15 at I
      replace hF := xl_i (ev15.symm) hF
      have rzv15 : ∀ k j : Nat, ¬ ((k = k0 ∧ j = 12) ∨ k = k0 + 5) → v15.1 k j = v.1 k j := fun k j h => fz_u ev15 (by omega) (rzv12 k j h)
      refine lv_aload_n hx hb dX8_feed_47 rfl (lv_at hl 0 rfl) ?_
      refine g_StarWalkModel_taped E I h_k0.1 mw_4_182 dX8_feed_48 ?_
      refine lv_topi (fun x16 ex16 => ?_)
      replace hF := xl_i (ex16) hF
      have hx16 := r_StarWalkModel_taped I h_k0.1
      rw [← ex16] at hx16
      exact rI E I hr hlk rfl (by rw [← hpost]; exact ⟨⟨I.2.2, trivial⟩, hF.trans hres, rzv15⟩) dX8_feed_51
    ·
      replace hF := if_t c10 hF
      refine lv_bipush (v := (-3)) hx hb dX8_feed_24 (by decide) ?_
      exact rI E I hr hlk rfl (by rw [← hpost]; exact ⟨⟨I.2.2, trivial⟩, hF.trans hres, rz0⟩) dX8_feed_26
  ·
    replace hF := if_t c8 hF
    refine lv_iconst (v := (-1)) hx hb dX8_feed_12 (by decide) ?_
    exact rI E I hr hlk rfl (by rw [← hpost]; exact ⟨⟨I.2.2, trivial⟩, hF.trans hres, rz0⟩) dX8_feed_13
def F_X8_end (k0 : Nat) (a0 : Int32) (v : St) : Int32 × St :=
xl (v.1 k0 12) fun x2 =>
xl (F_X8_in a0.toInt64 (0 : Int64) x2.toInt64 v) fun r4 =>
if r4.toInt = 0 then (
((-1 : Int32), v)) else (
xl (v.1 k0 12) fun x11 =>
xl (up1 v k0 12 a0) fun v12 =>
(x11, v12))
set_option maxHeartbeats 4000000 in
set_option maxRecDepth 100000 in
theorem c_X8_end (l : Launch) (w : Wp) (g : Nat → Nat → Int32) (v : St) (k0 : Nat) (a0 : Int32) (hq : Inj w) (hw : WF (wk w) g v) (h_k0 : oM w k0) : CTi w l yX8_end (wsy yX8_end prog_10_method_8_code 3 (some .int)) (rmL 2) [.ref (wq w k0), .int a0] v (fun (r : Int32) (u : St) => (WF (wk w) g u ∧ True) ∧ ((r, u) = F_X8_end k0 a0 v) ∧ (∀ k j : Nat, ¬ (k = k0 ∧ j = 12) → u.1 k j = v.1 k j)) := by
  generalize hpost : (fun (r : Int32) (u : St) => (WF (wk w) g u ∧ True) ∧ ((r, u) = F_X8_end k0 a0 v) ∧ (∀ k j : Nat, ¬ (k = k0 ∧ j = 12) → u.1 k j = v.1 k j)) = post
  refine CTi.of prog_10_method_8_code 3 (some .int) "StarWalkModel" (by decide +kernel) rfl hq hw (Nat.le_of_ble_eq_true rfl) ?_
  intro pg en s m ar bl me cd ls E I hr hlk hl
  have hx := E.1.1
  have hb := E.1.2.1
  have hl : lv_has ls 3 [(0, .ref (wq w k0)), (1, .int a0)] := hl
  obtain ⟨res, hres⟩ : ∃ z, z = F_X8_end k0 a0 v := ⟨_, rfl⟩
  have hF := hres.symm
  unfold F_X8_end at hF
  replace hres : res = F_X8_end k0 a0 v := hres
  have rz0 : ∀ k j : Nat, ¬ (k = k0 ∧ j = 12) → v.1 k j = v.1 k j := fun _ _ _ => rfl
  refine lv_iload_n hx hb dX8_end_0 rfl (lv_at hl 1 rfl) ?_
  refine lv_i2l (v := a0.toInt64) hx hb dX8_end_1 rfl ?_
  refine lv_lconst (v := 0) hx hb dX8_end_2 (by decide) ?_
  refine lv_aload_n hx hb dX8_end_3 rfl (lv_at hl 0 rfl) ?_
  refine g_StarWalkModel_taped E I h_k0.1 mw_4_182 dX8_end_4 ?_
  refine lv_topi (fun x2 ex2 => ?_)
  replace hF := xl_i (ex2) hF
  have hx2 := r_StarWalkModel_taped I h_k0.1
  rw [← ex2] at hx2
  refine lv_i2l (v := x2.toInt64) hx hb dX8_end_7 rfl ?_
  refine cSi E I (c_X8_in l w g v a0.toInt64 (0 : Int64) x2.toInt64 E.2.2.1 I.2.2   ) (va_cwS 3 E.1.2.2.2.2 (gSs mw_5_29 mw_5_30 mw_1_9 mw_5_31) rfl rfl rfl (by decide +kernel) ⟨by decide, by decide⟩) rfl hl.1 rfl (Nat.le_of_ble_eq_true rfl) dX8_end_8 ⟨Nat.le_refl _, Nat.le_refl _⟩ (fun r4 u5 H lo hp hPS => ?_)
  have iz6 := i64_of a0
  have iz7 : (0 : Int64).toInt = 0 := rfl
  have iz8 := i64_of x2
  obtain ⟨hp, hex, hfr⟩ := hp
  replace hF := xl_i hex hF
  obtain ⟨hu, p9⟩ := hp
  rw [hu] at hPS
  have I : Wo w g s.heap v H lo := ⟨hPS.1, hPS.2, I.2.2⟩
  refine bz_ne E (a := r4.toInt) rfl (tgt := 16) dX8_end_11 (by decide) (fun c10 => ?_) (fun c10 => ?_)
  ·
    replace hF := if_f c10 hF
    refine lv_aload_n hx hb dX8_end_16 rfl (lv_at hl 0 rfl) ?_
    refine g_StarWalkModel_taped E I h_k0.1 mw_4_182 dX8_end_17 ?_
    refine lv_topi (fun x11 ex11 => ?_)
    replace hF := xl_i (ex11) hF
    have hx11 := r_StarWalkModel_taped I h_k0.1
    rw [← ex11] at hx11
    refine lv_istore_n (lv' := [(2, .int x11), (0, .ref (wq w k0)), (1, .int a0)]) hx hb dX8_end_20 rfl hl (by decide) rfl (fun ls hl => ?_)
    refine lv_aload_n hx hb dX8_end_21 rfl (lv_at hl 1 rfl) ?_
    refine lv_iload_n hx hb dX8_end_22 rfl (lv_at hl 2 rfl) ?_
    refine p_StarWalkModel_taped E I h_k0.1 mw_4_182 (by omega) dX8_end_23 (fun H lo I => ?_)
    generalize ev12 : up1 v k0 12 a0 = v12 at I
    replace hF := xl_i (ev12.symm) hF
    have rzv12 : ∀ k j : Nat, ¬ (k = k0 ∧ j = 12) → v12.1 k j = v.1 k j := fun k j h => fz_u ev12 (by omega) (rz0 k j h)
    refine lv_iload_n hx hb dX8_end_26 rfl (lv_at hl 0 rfl) ?_
    exact rI E I hr hlk rfl (by rw [← hpost]; exact ⟨⟨I.2.2, trivial⟩, hF.trans hres, rzv12⟩) dX8_end_27
  ·
    replace hF := if_t c10 hF
    refine lv_iconst (v := (-1)) hx hb dX8_end_14 (by decide) ?_
    exact rI E I hr hlk rfl (by rw [← hpost]; exact ⟨⟨I.2.2, trivial⟩, hF.trans hres, rz0⟩) dX8_end_15
set_option maxHeartbeats 4000000 in
set_option maxRecDepth 100000 in
theorem c_X8_common (l : Launch) (w : Wp) (g : Nat → Nat → Int32) (v : St) (a0 : Int64) (a1 : Int64) (hq : Inj w) (hw : WF (wk w) g v) (h : ¬ a0.toInt = 0 ∨ ¬ a1.toInt = 0) : CTl w l yX8_common (wsy yX8_common prog_10_method_71_code 10 (some .long)) (rmL 1) [.long a0, .long a1] v (fun (r : Int64) (u : St) => (u = v ∧ ¬ r.toInt = 0) ∧ (True) ∧ True) := by
  generalize hpost : (fun (r : Int64) (u : St) => (u = v ∧ ¬ r.toInt = 0) ∧ (True) ∧ True) = post
  refine CTl.of prog_10_method_71_code 10 (some .long) "StarWalkModel" (by decide +kernel) rfl hq hw (Nat.le_of_ble_eq_true rfl) ?_
  intro pg en s m ar bl me cd ls E I hr hlk hl
  have hx := E.1.1
  have hb := E.1.2.1
  have hl : lv_has ls 10 [(0, .long a0), (2, .long a1)] := hl
  have L_6 : ∀ (n : Nat), ∀ (H : Heap) (lo : List Loc), Wo w g s.heap v H lo → ∀ (y6_4 : Int64) (y6_6 : Int64), (¬ y6_4.toInt = 0 ∨ ¬ y6_6.toInt = 0) → y6_6.toInt.natAbs < n → ∀ (ls : Array Slot), lv_has ls 10 [(4, .long y6_4), (6, .long y6_6)] → W pg l en (rmL 1) s m ar bl me cd H lo 0 0 (Zl w bl ar s post) (F0 m 6 ls []) := by
    intro n
    induction n with
    | zero => intro H lo  I y6_4 y6_6 iv6_0 hm; exact absurd hm (Nat.not_lt_zero _)
    | succ n ih_6 =>
      intro H lo  I y6_4 y6_6 iv6_0 hm ls hl
      refine lv_lload hx hb dX8_common_6 (lv_at hl 1 rfl) ?_
      refine lv_lconst (v := 0) hx hb dX8_common_8 (by decide) ?_
      refine W.lcmp hx hb dX8_common_9 ?_
      refine lv_topi (fun x1 ex1 => ?_)
      have iz2 : (0 : Int64).toInt = 0 := rfl
      have hx1 := lcB y6_6 (0 : Int64)
      rw [← ex1] at hx1
      refine bz_eq E (a := x1.toInt) rfl (tgt := 31) dX8_common_10 (by decide) (fun c3 => ?_) (fun c3 => ?_)
      ·
        refine lv_lload hx hb dX8_common_31 (lv_at hl 0 rfl) ?_
        exact rL E I hr hlk (by rw [← hpost]; exact ⟨⟨rfl, by have c0 : (0 : Int64).toInt = 0 := rfl; omega⟩, trivial, trivial⟩) dX8_common_33
      ·
        refine lv_lload hx hb dX8_common_13 (lv_at hl 0 rfl) ?_
        refine lv_lload hx hb dX8_common_15 (lv_at hl 1 rfl) ?_
        refine lv_lrem hx hb dX8_common_17 (lz_of (by omega)) ?_
        refine lv_topl (fun q4 eq4 => ?_)
        have hq4 := lrB y6_4 y6_6 (lz_of (by omega))
        rw [← eq4] at hq4
        refine lv_lstore (lv' := [(8, .long q4), (4, .long y6_4), (6, .long y6_6)]) hx hb dX8_common_18 hl (by decide) rfl (fun ls hl => ?_)
        refine lv_lload hx hb dX8_common_20 (lv_at hl 2 rfl) ?_
        refine lv_lstore (lv' := [(4, .long y6_6), (8, .long q4), (6, .long y6_6)]) hx hb dX8_common_22 hl (by decide) rfl (fun ls hl => ?_)
        refine lv_lload hx hb dX8_common_24 (lv_at hl 1 rfl) ?_
        refine lv_lstore (lv' := [(6, .long q4), (4, .long y6_6), (8, .long q4)]) hx hb dX8_common_26 hl (by decide) rfl (fun ls hl => ?_)
        refine lv_goto (tgt := 6) hx hb dX8_common_28 (by decide) ?_
        exact ih_6 _ _ I y6_6 q4 (by have c0 : (0 : Int64).toInt = 0 := rfl; omega) (by omega) ls (lv_sub hl [1, 0] rfl)
  refine lv_lload_n hx hb dX8_common_0 rfl (lv_at hl 0 rfl) ?_
  refine lv_lstore (lv' := [(4, .long a0), (0, .long a0), (2, .long a1)]) hx hb dX8_common_1 hl (by decide) rfl (fun ls hl => ?_)
  refine lv_lload_n hx hb dX8_common_3 rfl (lv_at hl 2 rfl) ?_
  refine lv_lstore (lv' := [(6, .long a1), (4, .long a0), (0, .long a0), (2, .long a1)]) hx hb dX8_common_4 hl (by decide) rfl (fun ls hl => ?_)
  exact L_6 (a1.toInt.natAbs + 1) _ _ I a0 a1 (by have c0 : (0 : Int64).toInt = 0 := rfl; omega) (Nat.lt_succ_self _) ls (lv_sub hl [1, 0] rfl)
set_option maxHeartbeats 4000000 in
set_option maxRecDepth 100000 in
theorem c_X8_told (l : Launch) (w : Wp) (g : Nat → Nat → Int32) (v : St) (a0 : Int64) (a1 : Int64) (a2 : Int32) (hq : Inj w) (hw : WF (wk w) g v) (h : ¬ a1.toInt = 0) : CTl w l yX8_told (wsy yX8_told prog_10_method_72_code 7 (some .long)) (rmL 2) [.long a0, .long a1, .int a2] v (fun (r : Int64) (u : St) => (u = v ∧ True) ∧ (True) ∧ True) := by
  generalize hpost : (fun (r : Int64) (u : St) => (u = v ∧ True) ∧ (True) ∧ True) = post
  refine CTl.of prog_10_method_72_code 7 (some .long) "StarWalkModel" (by decide +kernel) rfl hq hw (Nat.le_of_ble_eq_true rfl) ?_
  intro pg en s m ar bl me cd ls E I hr hlk hl
  have hx := E.1.1
  have hb := E.1.2.1
  have hl : lv_has ls 7 [(0, .long a0), (2, .long a1), (4, .int a2)] := hl
  refine lv_lload_n hx hb dX8_told_0 rfl (lv_at hl 1 rfl) ?_
  refine lv_lload_n hx hb dX8_told_1 rfl (lv_at hl 0 rfl) ?_
  refine cSl E I (c_X8_common l w g v a1 a0 E.2.2.1 I.2.2   (Or.inl h)) (va_cwS 2 E.1.2.2.2.2 (gSs mw_6_65 mw_6_66 mw_1_9 mw_6_67) rfl rfl rfl (by decide +kernel) ⟨by decide, by decide⟩) rfl hl.1 rfl (Nat.le_of_ble_eq_true rfl) dX8_told_2 ⟨Nat.le_refl _, Nat.le_refl _⟩ (fun r1 u2 H lo hp hPS => ?_)
  obtain ⟨hp, hex, hfr⟩ := hp
  obtain ⟨hu, p3⟩ := hp
  rw [hu] at hPS
  have I : Wo w g s.heap v H lo := ⟨hPS.1, hPS.2, I.2.2⟩
  refine lv_lstore (lv' := [(5, .long r1), (0, .long a0), (2, .long a1), (4, .int a2)]) hx hb dX8_told_5 hl (by decide) rfl (fun ls hl => ?_)
  refine lv_iload hx hb dX8_told_7 (lv_at hl 3 rfl) ?_
  refine bz_ne E (a := a2.toInt) rfl (tgt := 19) dX8_told_9 (by decide) (fun c4 => ?_) (fun c4 => ?_)
  ·
    refine lv_lload_n hx hb dX8_told_19 rfl (lv_at hl 2 rfl) ?_
    refine lv_lload hx hb dX8_told_20 (lv_at hl 0 rfl) ?_
    refine lv_ldiv hx hb dX8_told_22 (lz2 p3) ?_
    refine lv_topl (fun q5 eq5 => ?_)
    exact rL E I hr hlk (by rw [← hpost]; exact ⟨⟨rfl, trivial⟩, trivial, trivial⟩) dX8_told_23
  ·
    refine lv_lload_n hx hb dX8_told_12 rfl (lv_at hl 1 rfl) ?_
    refine lv_lload hx hb dX8_told_13 (lv_at hl 0 rfl) ?_
    refine lv_ldiv hx hb dX8_told_15 (lz2 p3) ?_
    refine lv_topl (fun q6 eq6 => ?_)
    refine lv_goto (tgt := 23) hx hb dX8_told_16 (by decide) ?_
    exact rL E I hr hlk (by rw [← hpost]; exact ⟨⟨rfl, trivial⟩, trivial, trivial⟩) dX8_told_23
set_option maxHeartbeats 4000000 in
set_option maxRecDepth 100000 in
theorem c_X8_findOdds (l : Launch) (w : Wp) (g : Nat → Nat → Int32) (v : St) (k0 : Nat) (a0 : Int32) (hq : Inj w) (hw : WF (wk w) g v) (h_k0 : oM w k0) : CTv w l yX8_findOdds (wsy yX8_findOdds prog_10_method_73_code 7 none) (rmL 6) [.ref (wq w k0), .int a0] v (fun (u : St) => (WF (wk w) g u ∧ ¬ (u.2 k0 25).toInt = 0) ∧ (True) ∧ (∀ k j : Nat, ¬ (k = k0 + 2 ∨ (k = k0 ∧ 19 ≤ j ∧ j ≤ 22)) → u.1 k j = v.1 k j)) := by
  generalize hpost : (fun (u : St) => (WF (wk w) g u ∧ ¬ (u.2 k0 25).toInt = 0) ∧ (True) ∧ (∀ k j : Nat, ¬ (k = k0 + 2 ∨ (k = k0 ∧ 19 ≤ j ∧ j ≤ 22)) → u.1 k j = v.1 k j)) = post
  refine CTv.of prog_10_method_73_code 7 none "StarWalkModel" (by decide +kernel) rfl hq hw (Nat.le_of_ble_eq_true rfl) ?_
  intro pg en s m ar bl me cd ls E I hr hlk hl
  have hx := E.1.1
  have hb := E.1.2.1
  have hl : lv_has ls 7 [(0, .ref (wq w k0)), (1, .int a0)] := hl
  have rz0 : ∀ k j : Nat, ¬ (k = k0 + 2 ∨ (k = k0 ∧ 19 ≤ j ∧ j ≤ 22)) → v.1 k j = v.1 k j := fun _ _ _ => rfl
  have L_51 : ∀ (n : Nat), ∀ (H : Heap) (lo : List Loc) (v_51 : St), Wo w g s.heap v_51 H lo → ∀ (y51_2 : Int32) (y51_3 : Int32), (0 ≤ y51_2.toInt ∧ y51_2.toInt ≤ 10) → (0 ≤ y51_3.toInt) → (1 ≤ (v_51.2 k0 25).toInt) → (∀ k j : Nat, ¬ (k = k0 + 2 ∨ (k = k0 ∧ 19 ≤ j ∧ j ≤ 22)) → v_51.1 k j = v.1 k j) → (2147483647 - y51_3.toInt).toNat < n → ∀ (ls : Array Slot), lv_has ls 7 [(0, .ref (wq w k0)), (1, .int a0), (2, .int y51_2), (3, .int y51_3)] → W pg l en (rmL 6) s m ar bl me cd H lo 0 0 (Zv w bl ar s post) (F0 m 51 ls []) := by
    intro n
    induction n with
    | zero => intro H lo v_51 I y51_2 y51_3 hy51_2 hy51_3 rB51_A rB51_Z hm; exact absurd hm (Nat.not_lt_zero _)
    | succ n ih_51 =>
      intro H lo v_51 I y51_2 y51_3 hy51_2 hy51_3 rB51_A rB51_Z hm ls hl
      have B_143 : ∀ (H : Heap) (lo : List Loc) (v_143 : St), Wo w g s.heap v_143 H lo → ∀ (y143_4 : Int64) (z143_1 : Int64) (z143_2 : Int64), (0 ≤ y51_2.toInt ∧ y51_2.toInt ≤ 10) → (0 ≤ y51_3.toInt ∧ y51_3.toInt ≤ 2147483646) → (1 ≤ (v_143.2 k0 25).toInt) → (∀ k j : Nat, ¬ (k = k0 + 2 ∨ (k = k0 ∧ 19 ≤ j ∧ j ≤ 22)) → v_143.1 k j = v.1 k j) → ∀ (ls : Array Slot), lv_has ls 7 [(0, .ref (wq w k0)), (1, .int a0), (2, .int y51_2), (3, .int y51_3), (4, .long y143_4)] → W pg l en (rmL 6) s m ar bl me cd H lo 0 0 (Zv w bl ar s post) (F0 m 143 ls [.long z143_2, .long z143_1, .ref (wq w k0)]) := by
        intro H lo v_143 I y143_4 z143_1 z143_2 hE143_0 hE143_1 rB143_A rB143_Z ls hl
        refine lv_ladd hx hb dX8_findOdds_143 ?_
        refine lv_topl (fun q1 eq1 => ?_)
        refine p_StarWalkModel_wellSum E I h_k0.1 mw_4_193 dX8_findOdds_144 (fun H lo I => ?_)
        generalize ev2 : upL v_143 k0 23 q1 = v2 at I
        have rzv2 : ∀ k j : Nat, ¬ (k = k0 + 2 ∨ (k = k0 ∧ 19 ≤ j ∧ j ≤ 22)) → v2.1 k j = v.1 k j := fun k j h => fz_l ev2 (rB143_Z k j h)
        have rlv2_A : 1 ≤ (v2.2 k0 25).toInt := (by rw [← ev2, upL_n _ _ (Or.inr (by decide))]; exact rB143_A)
        refine lv_aload_n hx hb dX8_findOdds_147 rfl (lv_at hl 0 rfl) ?_
        refine lv_dup hx hb dX8_findOdds_148 rfl ?_
        refine g_StarWalkModel_milesSum E I h_k0.1 mw_4_194 dX8_findOdds_149 ?_
        refine lv_topl (fun q3 eq3 => ?_)
        refine lv_lload hx hb dX8_findOdds_152 (lv_at hl 4 rfl) ?_
        refine lv_aload_n hx hb dX8_findOdds_154 rfl (lv_at hl 0 rfl) ?_
        refine g_StarWalkModel_at E I h_k0.1 mw_4_171 dX8_findOdds_155 ?_
        refine lv_bipush (v := 30) hx hb dX8_findOdds_158 (by decide) ?_
        refine ga_31 E I h_k0.2.2.1 (by decide) dX8_findOdds_160 ?_
        refine lv_topi (fun x4 ex4 => ?_)
        refine lv_i2l (v := x4.toInt64) hx hb dX8_findOdds_161 rfl ?_
        refine lv_lmul hx hb dX8_findOdds_162 ?_
        refine lv_topl (fun q6 eq6 => ?_)
        refine lv_ladd hx hb dX8_findOdds_163 ?_
        refine lv_topl (fun q7 eq7 => ?_)
        refine p_StarWalkModel_milesSum E I h_k0.1 mw_4_194 dX8_findOdds_164 (fun H lo I => ?_)
        generalize ev8 : upL v2 k0 24 q7 = v8 at I
        have rzv8 : ∀ k j : Nat, ¬ (k = k0 + 2 ∨ (k = k0 ∧ 19 ≤ j ∧ j ≤ 22)) → v8.1 k j = v.1 k j := fun k j h => fz_l ev8 (rzv2 k j h)
        have rlv8_A : 1 ≤ (v8.2 k0 25).toInt := (by rw [← ev8, upL_n _ _ (Or.inr (by decide))]; exact rlv2_A)
        obtain ⟨x9, ex9⟩ : ∃ z : Int32, z = y51_3 + 1 := ⟨_, rfl⟩
        have hx9 : x9.toInt = y51_3.toInt + (1) := by rw [ex9]; exact adI (a := y51_3.toInt) (b := 1) rfl rfl (by omega) (by omega)
        refine lv_iinc (v := x9) (lv' := [(3, .int x9), (0, .ref (wq w k0)), (1, .int a0), (2, .int y51_2), (4, .long y143_4)]) hx hb dX8_findOdds_167 hl (k := 3) rfl (by rw [ex9]; rfl) (by decide) rfl (fun ls hl => ?_)
        refine lv_goto (tgt := 51) hx hb dX8_findOdds_170 (by decide) ?_
        exact ih_51 _ _ v8 I y51_2 x9 (by omega) (by omega) rlv8_A rzv8 (by omega) ls (lv_sub hl [1, 2, 3, 0] rfl)
      have L_67 : ∀ (n : Nat), ∀ (H : Heap) (lo : List Loc), Wo w g s.heap v_51 H lo → ∀ (y67_4 : Int64) (y67_6 : Int32), (0 ≤ y67_6.toInt ∧ y67_6.toInt ≤ 10) → (0 ≤ y51_2.toInt ∧ y51_2.toInt ≤ 10) → (0 ≤ y51_3.toInt ∧ y51_3.toInt ≤ 2147483646) → (1 ≤ (v_51.2 k0 25).toInt) → (∀ k j : Nat, ¬ (k = k0 + 2 ∨ (k = k0 ∧ 19 ≤ j ∧ j ≤ 22)) → v_51.1 k j = v.1 k j) → (2147483647 - y67_6.toInt).toNat < n → ∀ (ls : Array Slot), lv_has ls 7 [(0, .ref (wq w k0)), (1, .int a0), (2, .int y51_2), (3, .int y51_3), (4, .long y67_4), (6, .int y67_6)] → W pg l en (rmL 6) s m ar bl me cd H lo 0 0 (Zv w bl ar s post) (F0 m 67 ls []) := by
        intro n
        induction n with
        | zero => intro H lo  I y67_4 y67_6 hy67_6 hE67_0 hE67_1 rB67_A rB67_Z hm; exact absurd hm (Nat.not_lt_zero _)
        | succ n ih_67 =>
          intro H lo  I y67_4 y67_6 hy67_6 hE67_0 hE67_1 rB67_A rB67_Z hm ls hl
          have B_98 : ∀ (H : Heap) (lo : List Loc), Wo w g s.heap v_51 H lo → ∀ (z98_1 : Int64), (0 ≤ y51_2.toInt ∧ y51_2.toInt ≤ 10) → (0 ≤ y51_3.toInt ∧ y51_3.toInt ≤ 2147483646) → (0 ≤ y67_6.toInt ∧ y67_6.toInt ≤ 9) → (1 ≤ (v_51.2 k0 25).toInt) → (∀ k j : Nat, ¬ (k = k0 + 2 ∨ (k = k0 ∧ 19 ≤ j ∧ j ≤ 22)) → v_51.1 k j = v.1 k j) → ∀ (ls : Array Slot), lv_has ls 7 [(0, .ref (wq w k0)), (1, .int a0), (2, .int y51_2), (3, .int y51_3), (6, .int y67_6)] → W pg l en (rmL 6) s m ar bl me cd H lo 0 0 (Zv w bl ar s post) (F0 m 98 ls [.long z98_1, .long y67_4]) := by
            intro H lo  I z98_1 hE98_0 hE98_1 hE98_2 rB98_A rB98_Z ls hl
            refine lv_lmul hx hb dX8_findOdds_98 ?_
            refine lv_topl (fun q10 eq10 => ?_)
            refine lv_lstore (lv' := [(4, .long q10), (0, .ref (wq w k0)), (1, .int a0), (2, .int y51_2), (3, .int y51_3), (6, .int y67_6)]) hx hb dX8_findOdds_99 hl (by decide) rfl (fun ls hl => ?_)
            obtain ⟨x11, ex11⟩ : ∃ z : Int32, z = y67_6 + 1 := ⟨_, rfl⟩
            have hx11 : x11.toInt = y67_6.toInt + (1) := by rw [ex11]; exact adI (a := y67_6.toInt) (b := 1) rfl rfl (by omega) (by omega)
            refine lv_iinc (v := x11) (lv' := [(6, .int x11), (4, .long q10), (0, .ref (wq w k0)), (1, .int a0), (2, .int y51_2), (3, .int y51_3)]) hx hb dX8_findOdds_101 hl (k := 5) rfl (by rw [ex11]; rfl) (by decide) rfl (fun ls hl => ?_)
            refine lv_goto (tgt := 67) hx hb dX8_findOdds_104 (by decide) ?_
            exact ih_67 _ _ I q10 x11 (by omega) (by omega) (by omega) rB98_A rB98_Z (by omega) ls (lv_sub hl [2, 3, 4, 5, 1, 0] rfl)
          refine lv_iload hx hb dX8_findOdds_67 (lv_at hl 5 rfl) ?_
          refine lv_bipush (v := 10) hx hb dX8_findOdds_69 (by decide) ?_
          refine lv_iload_n hx hb dX8_findOdds_71 rfl (lv_at hl 2 rfl) ?_
          refine lv_isub hx hb dX8_findOdds_72 ?_
          refine lv_topi (fun x12 ex12 => ?_)
          have hx12 : x12.toInt = 10 - y51_2.toInt := by rw [ex12]; exact sbI (a := 10) (b := y51_2.toInt) rfl rfl (by omega) (by omega)
          refine bi_ge E (a := y67_6.toInt) (b := x12.toInt) rfl rfl (tgt := 107) dX8_findOdds_73 (by decide) (fun c13 => ?_) (fun c13 => ?_)
          ·
            refine lv_aload_n hx hb dX8_findOdds_107 rfl (lv_at hl 0 rfl) ?_
            refine cVv E I (c_X8_starts l w g v_51 k0 E.2.2.1 I.2.2 h_k0  ) (cwV 0 E.1.2.2.2.2 (gWs (C := "StarWalkModel") mw_5_108 mw_5_110 mw_s_42 mw_1_9 mw_5_111) rfl rfl rfl (by decide +kernel) ⟨by decide, by decide⟩) h_k0.1.1 ((ce_o h_k0.1.2).trans rfl) rfl rfl hl.1 rfl (Nat.le_of_ble_eq_true rfl) dX8_findOdds_108 ⟨Nat.le_refl _, Nat.le_refl _⟩ (fun u14 H lo hp hPS => ?_)
            obtain ⟨hp, hex, hfr⟩ := hp
            obtain ⟨hwf, p15⟩ := hp
            have I : Wo w g s.heap u14 H lo := ⟨hPS.1, hPS.2, hwf⟩
            have rzu14 : ∀ k j : Nat, ¬ (k = k0 + 2 ∨ (k = k0 ∧ 19 ≤ j ∧ j ≤ 22)) → u14.1 k j = v.1 k j := fun k j h => (hfr k j (fun z => h (by omega))).trans (rB67_Z k j h)
            have rlu14_A : 1 ≤ (u14.2 k0 25).toInt := (by rw [p15]; exact rB67_A)
            refine lv_aload_n hx hb dX8_findOdds_111 rfl (lv_at hl 0 rfl) ?_
            refine g_StarWalkModel_at E I h_k0.1 mw_4_171 dX8_findOdds_112 ?_
            refine lv_bipush (v := 28) hx hb dX8_findOdds_115 (by decide) ?_
            refine lv_iload_n hx hb dX8_findOdds_117 rfl (lv_at hl 3 rfl) ?_
            refine lv_iload_n hx hb dX8_findOdds_118 rfl (lv_at hl 2 rfl) ?_
            refine lv_ishl hx hb dX8_findOdds_119 ?_
            refine lv_topi (fun x16 ex16 => ?_)
            refine pa_31 E I h_k0.2.2.1 (by decide) (by have ci : (28 : Int32).toNatClampNeg = 28 := rfl; rw [ci]; simp only [okk]; omega) dX8_findOdds_120 (fun H lo I => ?_)
            generalize ev17 : up1 u14 (k0 + 2) (28 : Int32).toNatClampNeg x16 = v17 at I
            have rzv17 : ∀ k j : Nat, ¬ (k = k0 + 2 ∨ (k = k0 ∧ 19 ≤ j ∧ j ≤ 22)) → v17.1 k j = v.1 k j := fun k j h => fz_u ev17 (by have cl28 : (28 : Int32).toNatClampNeg = 28 := rfl; omega) (rzu14 k j h)
            have rlv17_A : 1 ≤ (v17.2 k0 25).toInt := (by rw [← ev17]; exact rlu14_A)
            refine lv_aload_n hx hb dX8_findOdds_121 rfl (lv_at hl 0 rfl) ?_
            refine cVv E I (c_X8_plansGo l w g v17 k0 E.2.2.1 I.2.2 h_k0  ) (cwV 0 E.1.2.2.2.2 (gWs (C := "StarWalkModel") mw_5_235 mw_5_237 mw_s_55 mw_1_9 mw_5_238) rfl rfl rfl (by decide +kernel) ⟨by decide, by decide⟩) h_k0.1.1 ((ce_o h_k0.1.2).trans rfl) rfl rfl hl.1 rfl (Nat.le_of_ble_eq_true rfl) dX8_findOdds_122 ⟨Nat.le_refl _, Nat.le_refl _⟩ (fun u18 H lo hp hPS => ?_)
            obtain ⟨hp, hex, hfr⟩ := hp
            obtain ⟨hwf, p19⟩ := hp
            have I : Wo w g s.heap u18 H lo := ⟨hPS.1, hPS.2, hwf⟩
            have rzu18 : ∀ k j : Nat, ¬ (k = k0 + 2 ∨ (k = k0 ∧ 19 ≤ j ∧ j ≤ 22)) → u18.1 k j = v.1 k j := fun k j h => (hfr k j (fun z => h (by rcases z with z | z <;> omega))).trans (rzv17 k j h)
            have rlu18_A : 1 ≤ (u18.2 k0 25).toInt := (by rw [p19]; exact rlv17_A)
            refine lv_aload_n hx hb dX8_findOdds_125 rfl (lv_at hl 0 rfl) ?_
            refine lv_dup hx hb dX8_findOdds_126 rfl ?_
            refine g_StarWalkModel_wellSum E I h_k0.1 mw_4_193 dX8_findOdds_127 ?_
            refine lv_topl (fun q20 eq20 => ?_)
            refine lv_aload_n hx hb dX8_findOdds_130 rfl (lv_at hl 0 rfl) ?_
            refine cVi E I (c_X8_isAtWell l w g u18 k0 E.2.2.1 I.2.2 h_k0  ) (cwV 0 E.1.2.2.2.2 (gWs (C := "StarWalkModel") mw_5_112 mw_5_114 mw_s_43 mw_1_9 mw_5_115) rfl rfl rfl (by decide +kernel) ⟨by decide, by decide⟩) h_k0.1.1 ((ce_o h_k0.1.2).trans rfl) rfl rfl hl.1 rfl (Nat.le_of_ble_eq_true rfl) dX8_findOdds_131 ⟨Nat.le_refl _, Nat.le_refl _⟩ (fun r21 u22 H lo hp hPS => ?_)
            obtain ⟨hp, hex, hfr⟩ := hp
            obtain ⟨hu, p23⟩ := hp
            rw [hu] at hPS
            have I : Wo w g s.heap u18 H lo := ⟨hPS.1, hPS.2, I.2.2⟩
            refine bz_eq E (a := r21.toInt) rfl (tgt := 142) dX8_findOdds_134 (by decide) (fun c24 => ?_) (fun c24 => ?_)
            ·
              refine lv_lconst (v := 0) hx hb dX8_findOdds_142 (by decide) ?_
              exact B_143 _ _ u18 I y67_4 q20 (0 : Int64) (by omega) (by omega) rlu18_A rzu18 ls (lv_sub hl [0, 1, 2, 3, 4] rfl)
            ·
              refine lv_lload hx hb dX8_findOdds_137 (lv_at hl 4 rfl) ?_
              refine lv_goto (tgt := 143) hx hb dX8_findOdds_139 (by decide) ?_
              exact B_143 _ _ u18 I y67_4 q20 y67_4 (by omega) (by omega) rlu18_A rzu18 ls (lv_sub hl [0, 1, 2, 3, 4] rfl)
          ·
            refine lv_lload hx hb dX8_findOdds_76 (lv_at hl 4 rfl) ?_
            refine lv_iload_n hx hb dX8_findOdds_78 rfl (lv_at hl 3 rfl) ?_
            refine lv_iload hx hb dX8_findOdds_79 (lv_at hl 5 rfl) ?_
            refine lv_ishr hx hb dX8_findOdds_81 ?_
            refine lv_topi (fun x25 ex25 => ?_)
            refine lv_iconst (v := 1) hx hb dX8_findOdds_82 (by decide) ?_
            refine lv_iand hx hb dX8_findOdds_83 ?_
            refine lv_topi (fun x26 ex26 => ?_)
            have hx26 := anI (x := x25) (y := (1 : Int32)) (b := 1) rfl (by decide)
            rw [← ex26] at hx26
            refine lv_iconst (v := 1) hx hb dX8_findOdds_84 (by decide) ?_
            refine bi_ne E (a := x26.toInt) (b := 1) rfl rfl (tgt := 93) dX8_findOdds_85 (by decide) (fun c27 => ?_) (fun c27 => ?_)
            ·
              refine lv_bipush (v := 10) hx hb dX8_findOdds_93 (by decide) ?_
              refine lv_iload_n hx hb dX8_findOdds_95 rfl (lv_at hl 1 rfl) ?_
              refine lv_isub hx hb dX8_findOdds_96 ?_
              refine lv_topi (fun x28 ex28 => ?_)
              refine lv_i2l (v := x28.toInt64) hx hb dX8_findOdds_97 rfl ?_
              exact B_98 _ _ I x28.toInt64 (by omega) (by omega) (by omega) rB67_A rB67_Z ls (lv_sub hl [0, 1, 2, 3, 5] rfl)
            ·
              refine lv_iload_n hx hb dX8_findOdds_88 rfl (lv_at hl 1 rfl) ?_
              refine lv_i2l (v := a0.toInt64) hx hb dX8_findOdds_89 rfl ?_
              refine lv_goto (tgt := 98) hx hb dX8_findOdds_90 (by decide) ?_
              exact B_98 _ _ I a0.toInt64 (by omega) (by omega) (by omega) rB67_A rB67_Z ls (lv_sub hl [0, 1, 2, 3, 5] rfl)
      refine lv_iload_n hx hb dX8_findOdds_51 rfl (lv_at hl 3 rfl) ?_
      refine lv_iconst (v := 1) hx hb dX8_findOdds_52 (by decide) ?_
      refine lv_bipush (v := 10) hx hb dX8_findOdds_53 (by decide) ?_
      refine lv_iload_n hx hb dX8_findOdds_55 rfl (lv_at hl 2 rfl) ?_
      refine lv_isub hx hb dX8_findOdds_56 ?_
      refine lv_topi (fun x31 ex31 => ?_)
      have hx31 : x31.toInt = 10 - y51_2.toInt := by rw [ex31]; exact sbI (a := 10) (b := y51_2.toInt) rfl rfl (by omega) (by omega)
      refine lv_ishl hx hb dX8_findOdds_57 ?_
      refine lv_topi (fun x32 ex32 => ?_)
      refine bi_ge E (a := y51_3.toInt) (b := x32.toInt) rfl rfl (tgt := 173) dX8_findOdds_58 (by decide) (fun c33 => ?_) (fun c33 => ?_)
      ·
        have rgy51_3 := i32_rng y51_3
        have rgx32 := i32_rng x32
        exact rV E I hr hlk (by rw [← hpost]; exact ⟨⟨I.2.2, by have := rB51_A; omega⟩, trivial, rB51_Z⟩) dX8_findOdds_173
      ·
        have rgy51_3 := i32_rng y51_3
        have rgx32 := i32_rng x32
        refine lv_lconst (v := 1) hx hb dX8_findOdds_61 (by decide) ?_
        refine lv_lstore (lv' := [(4, .long (1 : Int64)), (0, .ref (wq w k0)), (1, .int a0), (2, .int y51_2), (3, .int y51_3)]) hx hb dX8_findOdds_62 hl (by decide) rfl (fun ls hl => ?_)
        refine lv_iconst (v := 0) hx hb dX8_findOdds_64 (by decide) ?_
        refine lv_istore (lv' := [(6, .int 0), (4, .long (1 : Int64)), (0, .ref (wq w k0)), (1, .int a0), (2, .int y51_2), (3, .int y51_3)]) hx hb dX8_findOdds_65 hl (by decide) rfl (fun ls hl => ?_)
        exact L_67 ((2147483647 - (0 : Int32).toInt).toNat + 1) _ _ I (1 : Int64) (0 : Int32) (by decide) (by omega) (by omega) rB51_A rB51_Z (Nat.lt_succ_self _) ls (lv_sub hl [2, 3, 4, 5, 1, 0] rfl)
  have L_25 : ∀ (n : Nat), ∀ (H : Heap) (lo : List Loc) (v_25 : St), Wo w g s.heap v_25 H lo → ∀ (y25_2 : Int32) (y25_3 : Int32), (0 ≤ y25_2.toInt ∧ y25_2.toInt ≤ 10) → (0 ≤ y25_3.toInt ∧ y25_3.toInt ≤ 10) → (∀ k j : Nat, ¬ (k = k0 + 2 ∨ (k = k0 ∧ 19 ≤ j ∧ j ≤ 22)) → v_25.1 k j = v.1 k j) → (1 ≤ (v_25.2 k0 25).toInt) → (y25_3.toInt = 0 → (v_25.2 k0 25).toInt ≤ 1) → (y25_3.toInt = 1 → (v_25.2 k0 25).toInt ≤ 10) → (y25_3.toInt = 2 → (v_25.2 k0 25).toInt ≤ 100) → (y25_3.toInt = 3 → (v_25.2 k0 25).toInt ≤ 1000) → (y25_3.toInt = 4 → (v_25.2 k0 25).toInt ≤ 10000) → (y25_3.toInt = 5 → (v_25.2 k0 25).toInt ≤ 100000) → (y25_3.toInt = 6 → (v_25.2 k0 25).toInt ≤ 1000000) → (y25_3.toInt = 7 → (v_25.2 k0 25).toInt ≤ 10000000) → (y25_3.toInt = 8 → (v_25.2 k0 25).toInt ≤ 100000000) → (y25_3.toInt = 9 → (v_25.2 k0 25).toInt ≤ 1000000000) → (y25_3.toInt = 10 → (v_25.2 k0 25).toInt ≤ 10000000000) → (2147483647 - y25_3.toInt).toNat < n → ∀ (ls : Array Slot), lv_has ls 7 [(0, .ref (wq w k0)), (1, .int a0), (2, .int y25_2), (3, .int y25_3)] → W pg l en (rmL 6) s m ar bl me cd H lo 0 0 (Zv w bl ar s post) (F0 m 25 ls []) := by
    intro n
    induction n with
    | zero => intro H lo v_25 I y25_2 y25_3 hy25_2 hy25_3 rB25_Z iv25_0 iv25_1 iv25_2 iv25_3 iv25_4 iv25_5 iv25_6 iv25_7 iv25_8 iv25_9 iv25_10 iv25_11 hm; exact absurd hm (Nat.not_lt_zero _)
    | succ n ih_25 =>
      intro H lo v_25 I y25_2 y25_3 hy25_2 hy25_3 rB25_Z iv25_0 iv25_1 iv25_2 iv25_3 iv25_4 iv25_5 iv25_6 iv25_7 iv25_8 iv25_9 iv25_10 iv25_11 hm ls hl
      refine lv_iload_n hx hb dX8_findOdds_25 rfl (lv_at hl 3 rfl) ?_
      refine lv_bipush (v := 10) hx hb dX8_findOdds_26 (by decide) ?_
      refine bi_ge E (a := y25_3.toInt) (b := 10) rfl rfl (tgt := 49) dX8_findOdds_28 (by decide) (fun c34 => ?_) (fun c34 => ?_)
      ·
        refine lv_iconst (v := 0) hx hb dX8_findOdds_49 (by decide) ?_
        refine lv_istore_n (lv' := [(3, .int 0), (0, .ref (wq w k0)), (1, .int a0), (2, .int y25_2)]) hx hb dX8_findOdds_50 rfl hl (by decide) rfl (fun ls hl => ?_)
        exact L_51 ((2147483647 - (0 : Int32).toInt).toNat + 1) _ _ v_25 I y25_2 (0 : Int32) (by omega) (by decide) iv25_0 rB25_Z (Nat.lt_succ_self _) ls (lv_sub hl [1, 2, 3, 0] rfl)
      ·
        refine lv_aload_n hx hb dX8_findOdds_31 rfl (lv_at hl 0 rfl) ?_
        refine lv_dup hx hb dX8_findOdds_32 rfl ?_
        refine g_StarWalkModel_allWays E I h_k0.1 mw_4_195 dX8_findOdds_33 ?_
        refine lv_topl (fun q35 eq35 => ?_)
        have tiq35 := congrArg Int64.toInt eq35
        refine lv_ldc2 (own := "StarWalkModel") hx hb E.1.2.2.2.1 (Ew E mw_5_153 rfl) dX8_findOdds_36 ?_
        refine lv_lmul hx hb dX8_findOdds_39 ?_
        refine lv_topl (fun q36 eq36 => ?_)
        have hA9 := bd_10 (y := y25_3.toInt) ⟨hy25_3.1, c34⟩ iv25_1 iv25_2 iv25_3 iv25_4 iv25_5 iv25_6 iv25_7 iv25_8 iv25_9 iv25_10
        have hq36 : q36.toInt = q35.toInt * 10 := by rw [eq36]; exact mlL (a := q35.toInt) (b := 10) rfl rfl (by omega) (by omega)
        refine p_StarWalkModel_allWays E I h_k0.1 mw_4_195 dX8_findOdds_40 (fun H lo I => ?_)
        generalize ev37 : upL v_25 k0 25 q36 = v37 at I
        have rzv37 : ∀ k j : Nat, ¬ (k = k0 + 2 ∨ (k = k0 ∧ 19 ≤ j ∧ j ≤ 22)) → v37.1 k j = v.1 k j := fun k j h => fz_l ev37 (rB25_Z k j h)
        have wav37 : v37.2 k0 25 = q36 := by rw [← ev37]; exact upL_s _ _ _ _
        have wiv37 := congrArg Int64.toInt wav37
        obtain ⟨x38, ex38⟩ : ∃ z : Int32, z = y25_3 + 1 := ⟨_, rfl⟩
        have hx38 : x38.toInt = y25_3.toInt + (1) := by rw [ex38]; exact adI (a := y25_3.toInt) (b := 1) rfl rfl (by omega) (by omega)
        refine lv_iinc (v := x38) (lv' := [(3, .int x38), (0, .ref (wq w k0)), (1, .int a0), (2, .int y25_2)]) hx hb dX8_findOdds_43 hl (k := 3) rfl (by rw [ex38]; rfl) (by decide) rfl (fun ls hl => ?_)
        refine lv_goto (tgt := 25) hx hb dX8_findOdds_46 (by decide) ?_
        have hB9 : (v37.2 k0 25).toInt = (v_25.2 k0 25).toInt * 10 := by rw [wiv37, hq36, tiq35]
        exact ih_25 _ _ v37 I y25_2 x38 (by omega) (by omega) rzv37 (by omega) (fun e => absurd e (by omega)) (st_10 (k := 0) hx38 hB9 iv25_1 (by decide)) (st_10 (k := 1) hx38 hB9 iv25_2 (by decide)) (st_10 (k := 2) hx38 hB9 iv25_3 (by decide)) (st_10 (k := 3) hx38 hB9 iv25_4 (by decide)) (st_10 (k := 4) hx38 hB9 iv25_5 (by decide)) (st_10 (k := 5) hx38 hB9 iv25_6 (by decide)) (st_10 (k := 6) hx38 hB9 iv25_7 (by decide)) (st_10 (k := 7) hx38 hB9 iv25_8 (by decide)) (st_10 (k := 8) hx38 hB9 iv25_9 (by decide)) (st_10 (k := 9) hx38 hB9 iv25_10 (by decide)) (by omega) ls (lv_sub hl [1, 2, 3, 0] rfl)
  refine lv_aload_n hx hb dX8_findOdds_0 rfl (lv_at hl 0 rfl) ?_
  refine g_StarWalkModel_st E I h_k0.1 mw_4_170 dX8_findOdds_1 ?_
  refine lv_bipush (v := 29) hx hb dX8_findOdds_4 (by decide) ?_
  refine ga_30 E I h_k0.2.1 (by decide) dX8_findOdds_6 ?_
  refine lv_topi (fun x39 ex39 => ?_)
  have hx39 : 0 ≤ x39.toInt ∧ x39.toInt ≤ 10 := by have h := ra_30 I h_k0.2.1 29; rw [ex39]; exact h.2.1 rfl
  refine lv_istore_n (lv' := [(2, .int x39), (0, .ref (wq w k0)), (1, .int a0)]) hx hb dX8_findOdds_7 rfl hl (by decide) rfl (fun ls hl => ?_)
  refine lv_aload_n hx hb dX8_findOdds_8 rfl (lv_at hl 1 rfl) ?_
  refine lv_lconst (v := 0) hx hb dX8_findOdds_9 (by decide) ?_
  refine p_StarWalkModel_wellSum E I h_k0.1 mw_4_193 dX8_findOdds_10 (fun H lo I => ?_)
  generalize ev40 : upL v k0 23 (0 : Int64) = v40 at I
  have rzv40 : ∀ k j : Nat, ¬ (k = k0 + 2 ∨ (k = k0 ∧ 19 ≤ j ∧ j ≤ 22)) → v40.1 k j = v.1 k j := fun k j h => fz_l ev40 (rz0 k j h)
  refine lv_aload_n hx hb dX8_findOdds_13 rfl (lv_at hl 1 rfl) ?_
  refine lv_lconst (v := 0) hx hb dX8_findOdds_14 (by decide) ?_
  refine p_StarWalkModel_milesSum E I h_k0.1 mw_4_194 dX8_findOdds_15 (fun H lo I => ?_)
  generalize ev41 : upL v40 k0 24 (0 : Int64) = v41 at I
  have rzv41 : ∀ k j : Nat, ¬ (k = k0 + 2 ∨ (k = k0 ∧ 19 ≤ j ∧ j ≤ 22)) → v41.1 k j = v.1 k j := fun k j h => fz_l ev41 (rzv40 k j h)
  refine lv_aload_n hx hb dX8_findOdds_18 rfl (lv_at hl 1 rfl) ?_
  refine lv_lconst (v := 1) hx hb dX8_findOdds_19 (by decide) ?_
  refine p_StarWalkModel_allWays E I h_k0.1 mw_4_195 dX8_findOdds_20 (fun H lo I => ?_)
  generalize ev42 : upL v41 k0 25 (1 : Int64) = v42 at I
  have rzv42 : ∀ k j : Nat, ¬ (k = k0 + 2 ∨ (k = k0 ∧ 19 ≤ j ∧ j ≤ 22)) → v42.1 k j = v.1 k j := fun k j h => fz_l ev42 (rzv41 k j h)
  have wav42 : v42.2 k0 25 = (1 : Int64) := by rw [← ev42]; exact upL_s _ _ _ _
  have wiv42 := congrArg Int64.toInt wav42
  refine lv_iload_n hx hb dX8_findOdds_23 rfl (lv_at hl 0 rfl) ?_
  refine lv_istore_n (lv' := [(3, .int x39), (2, .int x39), (0, .ref (wq w k0)), (1, .int a0)]) hx hb dX8_findOdds_24 rfl hl (by decide) rfl (fun ls hl => ?_)
  exact L_25 ((2147483647 - x39.toInt).toNat + 1) _ _ v42 I x39 x39 (by omega) (by omega) rzv42 (by have c1 : (1 : Int64).toInt = 1 := rfl; omega) (by have c1 : (1 : Int64).toInt = 1 := rfl; omega) (by have c1 : (1 : Int64).toInt = 1 := rfl; omega) (by have c1 : (1 : Int64).toInt = 1 := rfl; omega) (by have c1 : (1 : Int64).toInt = 1 := rfl; omega) (by have c1 : (1 : Int64).toInt = 1 := rfl; omega) (by have c1 : (1 : Int64).toInt = 1 := rfl; omega) (by have c1 : (1 : Int64).toInt = 1 := rfl; omega) (by have c1 : (1 : Int64).toInt = 1 := rfl; omega) (by have c1 : (1 : Int64).toInt = 1 := rfl; omega) (by have c1 : (1 : Int64).toInt = 1 := rfl; omega) (by have c1 : (1 : Int64).toInt = 1 := rfl; omega) (Nat.lt_succ_self _) ls (lv_sub hl [2, 3, 1, 0] rfl)
set_option maxHeartbeats 4000000 in
set_option maxRecDepth 100000 in
theorem c_X8_luck (l : Launch) (w : Wp) (g : Nat → Nat → Int32) (v : St) (k0 : Nat) (a0 : Int32) (a1 : Int32) (hq : Inj w) (hw : WF (wk w) g v) (h_k0 : oM w k0) : CTl w l yX8_luck (wsy yX8_luck prog_10_method_74_code 3 (some .long)) (rmL 7) [.ref (wq w k0), .int a0, .int a1] v (fun (r : Int64) (u : St) => (WF (wk w) g u ∧ True) ∧ (True) ∧ (∀ k j : Nat, ¬ (k = k0 + 2 ∨ (k = k0 ∧ 19 ≤ j ∧ j ≤ 22)) → u.1 k j = v.1 k j)) := by
  generalize hpost : (fun (r : Int64) (u : St) => (WF (wk w) g u ∧ True) ∧ (True) ∧ (∀ k j : Nat, ¬ (k = k0 + 2 ∨ (k = k0 ∧ 19 ≤ j ∧ j ≤ 22)) → u.1 k j = v.1 k j)) = post
  refine CTl.of prog_10_method_74_code 3 (some .long) "StarWalkModel" (by decide +kernel) rfl hq hw (Nat.le_of_ble_eq_true rfl) ?_
  intro pg en s m ar bl me cd ls E I hr hlk hl
  have hx := E.1.1
  have hb := E.1.2.1
  have hl : lv_has ls 3 [(0, .ref (wq w k0)), (1, .int a0), (2, .int a1)] := hl
  have rz0 : ∀ k j : Nat, ¬ (k = k0 + 2 ∨ (k = k0 ∧ 19 ≤ j ∧ j ≤ 22)) → v.1 k j = v.1 k j := fun _ _ _ => rfl
  refine lv_iload_n hx hb dX8_luck_0 rfl (lv_at hl 1 rfl) ?_
  refine lv_i2l (v := a0.toInt64) hx hb dX8_luck_1 rfl ?_
  refine lv_lconst (v := 0) hx hb dX8_luck_2 (by decide) ?_
  refine lv_ldc2 (own := "StarWalkModel") hx hb E.1.2.2.2.1 (Ew E mw_5_153 rfl) dX8_luck_3 ?_
  refine cSi E I (c_X8_in l w g v a0.toInt64 (0 : Int64) (10 : Int64) E.2.2.1 I.2.2   ) (va_cwS 3 E.1.2.2.2.2 (gSs mw_5_29 mw_5_30 mw_1_9 mw_5_31) rfl rfl rfl (by decide +kernel) ⟨by decide, by decide⟩) rfl hl.1 rfl (Nat.le_of_ble_eq_true rfl) dX8_luck_6 ⟨Nat.le_refl _, Nat.le_refl _⟩ (fun r2 u3 H lo hp hPS => ?_)
  have iz4 := i64_of a0
  have iz5 : (0 : Int64).toInt = 0 := rfl
  have iz6 : (10 : Int64).toInt = 10 := rfl
  obtain ⟨hp, hex, hfr⟩ := hp
  obtain ⟨hu, p7⟩ := hp
  rw [hu] at hPS
  have I : Wo w g s.heap v H lo := ⟨hPS.1, hPS.2, I.2.2⟩
  refine bz_eq E (a := r2.toInt) rfl (tgt := 19) dX8_luck_9 (by decide) (fun c8 => ?_) (fun c8 => ?_)
  ·
    refine lv_ldc2 (own := "StarWalkModel") hx hb E.1.2.2.2.1 (Ew E mw_6_57 rfl) dX8_luck_19 ?_
    exact rL E I hr hlk (by rw [← hpost]; exact ⟨⟨I.2.2, trivial⟩, trivial, rz0⟩) dX8_luck_22
  ·
    refine lv_iload_n hx hb dX8_luck_12 rfl (lv_at hl 2 rfl) ?_
    refine cSi E I (c_X8_isPart l w g v a1 E.2.2.1 I.2.2   ) (va_cwS 1 E.1.2.2.2.2 (gSs mw_6_13 mw_6_14 mw_1_9 mw_6_15) rfl rfl rfl (by decide +kernel) ⟨by decide, by decide⟩) rfl hl.1 rfl (Nat.le_of_ble_eq_true rfl) dX8_luck_13 ⟨Nat.le_refl _, Nat.le_refl _⟩ (fun r9 u10 H lo hp hPS => ?_)
    obtain ⟨hp, hex, hfr⟩ := hp
    obtain ⟨hu, p11⟩ := hp
    rw [hu] at hPS
    have I : Wo w g s.heap v H lo := ⟨hPS.1, hPS.2, I.2.2⟩
    refine bz_ne E (a := r9.toInt) rfl (tgt := 23) dX8_luck_16 (by decide) (fun c12 => ?_) (fun c12 => ?_)
    ·
      refine lv_aload_n hx hb dX8_luck_23 rfl (lv_at hl 0 rfl) ?_
      refine lv_iload_n hx hb dX8_luck_24 rfl (lv_at hl 1 rfl) ?_
      refine cVv E I (c_X8_findOdds l w g v k0 a0 E.2.2.1 I.2.2 h_k0  ) (cwV 1 E.1.2.2.2.2 (gWs (C := "StarWalkModel") mw_6_58 mw_6_60 mw_s_60 mw_1_9 mw_6_61) rfl rfl rfl (by decide +kernel) ⟨by decide, by decide⟩) h_k0.1.1 ((ce_o h_k0.1.2).trans rfl) rfl rfl hl.1 rfl (Nat.le_of_ble_eq_true rfl) dX8_luck_25 ⟨Nat.le_refl _, Nat.le_refl _⟩ (fun u13 H lo hp hPS => ?_)
      obtain ⟨hp, hex, hfr⟩ := hp
      obtain ⟨hwf, p14⟩ := hp
      have I : Wo w g s.heap u13 H lo := ⟨hPS.1, hPS.2, hwf⟩
      have rzu13 : ∀ k j : Nat, ¬ (k = k0 + 2 ∨ (k = k0 ∧ 19 ≤ j ∧ j ≤ 22)) → u13.1 k j = v.1 k j := fun k j h => (hfr k j (fun z => h (by rcases z with z | z <;> omega))).trans (rz0 k j h)
      refine lv_aload_n hx hb dX8_luck_28 rfl (lv_at hl 0 rfl) ?_
      refine g_StarWalkModel_wellSum E I h_k0.1 mw_4_193 dX8_luck_29 ?_
      refine lv_topl (fun q15 eq15 => ?_)
      refine lv_aload_n hx hb dX8_luck_32 rfl (lv_at hl 0 rfl) ?_
      refine g_StarWalkModel_allWays E I h_k0.1 mw_4_195 dX8_luck_33 ?_
      refine lv_topl (fun q16 eq16 => ?_)
      refine lv_iload_n hx hb dX8_luck_36 rfl (lv_at hl 2 rfl) ?_
      refine cSl E I (c_X8_told l w g u13 q15 q16 a1 E.2.2.1 I.2.2   (by rw [eq16]; exact p14)) (va_cwS 3 E.1.2.2.2.2 (gSs mw_6_62 mw_6_63 mw_1_9 mw_6_64) rfl rfl rfl (by decide +kernel) ⟨by decide, by decide⟩) rfl hl.1 rfl (Nat.le_of_ble_eq_true rfl) dX8_luck_37 ⟨Nat.le_refl _, Nat.le_refl _⟩ (fun r17 u18 H lo hp hPS => ?_)
      obtain ⟨hp, hex, hfr⟩ := hp
      obtain ⟨hu, p19⟩ := hp
      rw [hu] at hPS
      have I : Wo w g s.heap u13 H lo := ⟨hPS.1, hPS.2, I.2.2⟩
      exact rL E I hr hlk (by rw [← hpost]; exact ⟨⟨I.2.2, trivial⟩, trivial, rzu13⟩) dX8_luck_40
    ·
      refine lv_ldc2 (own := "StarWalkModel") hx hb E.1.2.2.2.1 (Ew E mw_6_57 rfl) dX8_luck_19 ?_
      exact rL E I hr hlk (by rw [← hpost]; exact ⟨⟨I.2.2, trivial⟩, trivial, rz0⟩) dX8_luck_22
set_option maxHeartbeats 4000000 in
set_option maxRecDepth 100000 in
theorem c_X8_mean (l : Launch) (w : Wp) (g : Nat → Nat → Int32) (v : St) (k0 : Nat) (a0 : Int32) (a1 : Int32) (hq : Inj w) (hw : WF (wk w) g v) (h_k0 : oM w k0) : CTl w l yX8_mean (wsy yX8_mean prog_10_method_75_code 3 (some .long)) (rmL 7) [.ref (wq w k0), .int a0, .int a1] v (fun (r : Int64) (u : St) => (WF (wk w) g u ∧ True) ∧ (True) ∧ (∀ k j : Nat, ¬ (k = k0 + 2 ∨ (k = k0 ∧ 19 ≤ j ∧ j ≤ 22)) → u.1 k j = v.1 k j)) := by
  generalize hpost : (fun (r : Int64) (u : St) => (WF (wk w) g u ∧ True) ∧ (True) ∧ (∀ k j : Nat, ¬ (k = k0 + 2 ∨ (k = k0 ∧ 19 ≤ j ∧ j ≤ 22)) → u.1 k j = v.1 k j)) = post
  refine CTl.of prog_10_method_75_code 3 (some .long) "StarWalkModel" (by decide +kernel) rfl hq hw (Nat.le_of_ble_eq_true rfl) ?_
  intro pg en s m ar bl me cd ls E I hr hlk hl
  have hx := E.1.1
  have hb := E.1.2.1
  have hl : lv_has ls 3 [(0, .ref (wq w k0)), (1, .int a0), (2, .int a1)] := hl
  have rz0 : ∀ k j : Nat, ¬ (k = k0 + 2 ∨ (k = k0 ∧ 19 ≤ j ∧ j ≤ 22)) → v.1 k j = v.1 k j := fun _ _ _ => rfl
  refine lv_iload_n hx hb dX8_mean_0 rfl (lv_at hl 1 rfl) ?_
  refine lv_i2l (v := a0.toInt64) hx hb dX8_mean_1 rfl ?_
  refine lv_lconst (v := 0) hx hb dX8_mean_2 (by decide) ?_
  refine lv_ldc2 (own := "StarWalkModel") hx hb E.1.2.2.2.1 (Ew E mw_5_153 rfl) dX8_mean_3 ?_
  refine cSi E I (c_X8_in l w g v a0.toInt64 (0 : Int64) (10 : Int64) E.2.2.1 I.2.2   ) (va_cwS 3 E.1.2.2.2.2 (gSs mw_5_29 mw_5_30 mw_1_9 mw_5_31) rfl rfl rfl (by decide +kernel) ⟨by decide, by decide⟩) rfl hl.1 rfl (Nat.le_of_ble_eq_true rfl) dX8_mean_6 ⟨Nat.le_refl _, Nat.le_refl _⟩ (fun r2 u3 H lo hp hPS => ?_)
  have iz4 := i64_of a0
  have iz5 : (0 : Int64).toInt = 0 := rfl
  have iz6 : (10 : Int64).toInt = 10 := rfl
  obtain ⟨hp, hex, hfr⟩ := hp
  obtain ⟨hu, p7⟩ := hp
  rw [hu] at hPS
  have I : Wo w g s.heap v H lo := ⟨hPS.1, hPS.2, I.2.2⟩
  refine bz_eq E (a := r2.toInt) rfl (tgt := 19) dX8_mean_9 (by decide) (fun c8 => ?_) (fun c8 => ?_)
  ·
    refine lv_ldc2 (own := "StarWalkModel") hx hb E.1.2.2.2.1 (Ew E mw_6_57 rfl) dX8_mean_19 ?_
    exact rL E I hr hlk (by rw [← hpost]; exact ⟨⟨I.2.2, trivial⟩, trivial, rz0⟩) dX8_mean_22
  ·
    refine lv_iload_n hx hb dX8_mean_12 rfl (lv_at hl 2 rfl) ?_
    refine cSi E I (c_X8_isPart l w g v a1 E.2.2.1 I.2.2   ) (va_cwS 1 E.1.2.2.2.2 (gSs mw_6_13 mw_6_14 mw_1_9 mw_6_15) rfl rfl rfl (by decide +kernel) ⟨by decide, by decide⟩) rfl hl.1 rfl (Nat.le_of_ble_eq_true rfl) dX8_mean_13 ⟨Nat.le_refl _, Nat.le_refl _⟩ (fun r9 u10 H lo hp hPS => ?_)
    obtain ⟨hp, hex, hfr⟩ := hp
    obtain ⟨hu, p11⟩ := hp
    rw [hu] at hPS
    have I : Wo w g s.heap v H lo := ⟨hPS.1, hPS.2, I.2.2⟩
    refine bz_ne E (a := r9.toInt) rfl (tgt := 23) dX8_mean_16 (by decide) (fun c12 => ?_) (fun c12 => ?_)
    ·
      refine lv_aload_n hx hb dX8_mean_23 rfl (lv_at hl 0 rfl) ?_
      refine lv_iload_n hx hb dX8_mean_24 rfl (lv_at hl 1 rfl) ?_
      refine cVv E I (c_X8_findOdds l w g v k0 a0 E.2.2.1 I.2.2 h_k0  ) (cwV 1 E.1.2.2.2.2 (gWs (C := "StarWalkModel") mw_6_58 mw_6_60 mw_s_60 mw_1_9 mw_6_61) rfl rfl rfl (by decide +kernel) ⟨by decide, by decide⟩) h_k0.1.1 ((ce_o h_k0.1.2).trans rfl) rfl rfl hl.1 rfl (Nat.le_of_ble_eq_true rfl) dX8_mean_25 ⟨Nat.le_refl _, Nat.le_refl _⟩ (fun u13 H lo hp hPS => ?_)
      obtain ⟨hp, hex, hfr⟩ := hp
      obtain ⟨hwf, p14⟩ := hp
      have I : Wo w g s.heap u13 H lo := ⟨hPS.1, hPS.2, hwf⟩
      have rzu13 : ∀ k j : Nat, ¬ (k = k0 + 2 ∨ (k = k0 ∧ 19 ≤ j ∧ j ≤ 22)) → u13.1 k j = v.1 k j := fun k j h => (hfr k j (fun z => h (by rcases z with z | z <;> omega))).trans (rz0 k j h)
      refine lv_aload_n hx hb dX8_mean_28 rfl (lv_at hl 0 rfl) ?_
      refine g_StarWalkModel_milesSum E I h_k0.1 mw_4_194 dX8_mean_29 ?_
      refine lv_topl (fun q15 eq15 => ?_)
      refine lv_aload_n hx hb dX8_mean_32 rfl (lv_at hl 0 rfl) ?_
      refine g_StarWalkModel_allWays E I h_k0.1 mw_4_195 dX8_mean_33 ?_
      refine lv_topl (fun q16 eq16 => ?_)
      refine lv_iload_n hx hb dX8_mean_36 rfl (lv_at hl 2 rfl) ?_
      refine cSl E I (c_X8_told l w g u13 q15 q16 a1 E.2.2.1 I.2.2   (by rw [eq16]; exact p14)) (va_cwS 3 E.1.2.2.2.2 (gSs mw_6_62 mw_6_63 mw_1_9 mw_6_64) rfl rfl rfl (by decide +kernel) ⟨by decide, by decide⟩) rfl hl.1 rfl (Nat.le_of_ble_eq_true rfl) dX8_mean_37 ⟨Nat.le_refl _, Nat.le_refl _⟩ (fun r17 u18 H lo hp hPS => ?_)
      obtain ⟨hp, hex, hfr⟩ := hp
      obtain ⟨hu, p19⟩ := hp
      rw [hu] at hPS
      have I : Wo w g s.heap u13 H lo := ⟨hPS.1, hPS.2, I.2.2⟩
      exact rL E I hr hlk (by rw [← hpost]; exact ⟨⟨I.2.2, trivial⟩, trivial, rzu13⟩) dX8_mean_40
    ·
      refine lv_ldc2 (own := "StarWalkModel") hx hb E.1.2.2.2.1 (Ew E mw_6_57 rfl) dX8_mean_19 ?_
      exact rL E I hr hlk (by rw [← hpost]; exact ⟨⟨I.2.2, trivial⟩, trivial, rz0⟩) dX8_mean_22
def F_X8_read (k0 : Nat) (a0 : Int32) (a1 : Int32) (a2 : Int32) (a3 : Int32) (v : St) : Int32 × St :=
xl (fun (self_62 : Int32 → Int32 → Int32 → St → Int32 × St) (y62_5 : Int32) (y62_6 : Int32) (y62_7 : Int32) (v_62 : St) =>
xl (fun (y203_5 : Int32) (y203_6 : Int32) (v_203 : St) =>
xl (y62_7 + 1) fun x1 =>
(self_62 y203_5 y203_6 x1 v_203)) fun J_203 =>
xl (fun (self_167 : Int32 → St → Int32 × St) (y167_10 : Int32) (v_167 : St) =>
if y167_10.toInt < 54 then (
xl (v_167.1 (k0 + 9) y167_10.toNatClampNeg) fun x4 =>
xl (up1 v_167 (k0 + 1) y167_10.toNatClampNeg x4) fun v5 =>
xl (y167_10 + 1) fun x6 =>
(self_167 x6 v5)) else (
xl ((-20 : Int32) - y62_7) fun x3 =>
(x3, v_167))) fun P_167 =>
xl (fun (z136_0 : Int32) =>
if z136_0.toInt = 0 then (
xl ((40 : Int32) * a0) fun x8 =>
xl (x8 + a2) fun x9 =>
xl (x9 + y62_7) fun x10 =>
xl (v_62.1 (k0 + 8) x10.toNatClampNeg) fun x11 =>
xm (F_X8_go k0 x11 v_62) fun r12 u13 =>
if r12.toInt < 0 then (
(lp P_167 (fun _ _ => ((0 : Int32), v)) ((2147483647 - (0 : Int32).toInt).toNat + 1) (0 : Int32) u13)) else (
xl (y62_6 + 1) fun x16 =>
(J_203 z136_0 x16 u13))) else (
(J_203 z136_0 y62_6 v_62))) fun J_136 =>
xl ((J_136 (2 : Int32))) fun J_131 =>
if y62_7.toInt < a3.toInt then (
if y62_5.toInt = 0 then (
xl (a2.toInt64 + y62_7.toInt64) fun q23 =>
xl (v_62.1 (k0 + 6) a0.toNatClampNeg) fun x24 =>
if x24.toInt = (-4) then (
(J_136 (1 : Int32))) else (
xl (v_62.1 (k0 + 6) a0.toNatClampNeg) fun x26 =>
if x26.toInt = a1.toInt then (
xl (lg_cmp q23 (0 : Int64)) fun x28 =>
if x28.toInt < 0 then (
(J_131 )) else (
xl (v_62.1 (k0 + 7) a0.toNatClampNeg) fun x31 =>
xl (lg_cmp q23 x31.toInt64) fun x33 =>
if x33.toInt < 0 then (
(J_136 (0 : Int32))) else (
(J_131 )))) else (
(J_136 (3 : Int32))))) else (
xl (up1 v_62 k0 29 y62_5) fun v20 =>
(y62_6, v20))) else (
xl (up1 v_62 k0 29 y62_5) fun v18 =>
(y62_6, v18))) fun P_62 =>
xl (fun (self_26 : Int32 → St → Int32 × St) (y26_5 : Int32) (v_26 : St) =>
if y26_5.toInt < 54 then (
xl (v_26.1 (k0 + 1) y26_5.toNatClampNeg) fun x37 =>
xl (up1 v_26 (k0 + 9) y26_5.toNatClampNeg x37) fun v38 =>
xl (y26_5 + 1) fun x39 =>
(self_26 x39 v38)) else (
(lp P_62 (fun _ _ _ _ => ((0 : Int32), v)) ((2147483647 - (0 : Int32).toInt).toNat + 1) (0 : Int32) (0 : Int32) (0 : Int32) v_26))) fun P_26 =>
xl (F_X8_isSheet a0 a1 v) fun r40 =>
if r40.toInt = 0 then (
((-1 : Int32), v)) else (
xl (F_X8_in a3.toInt64 (0 : Int64) (10 : Int64) v) fun r45 =>
if r45.toInt = 0 then (
((-1 : Int32), v)) else (
(lp P_26 (fun _ _ => ((0 : Int32), v)) ((2147483647 - (0 : Int32).toInt).toNat + 1) (0 : Int32) v)))
set_option maxHeartbeats 4000000 in
set_option maxRecDepth 100000 in
theorem c_X8_read (l : Launch) (w : Wp) (g : Nat → Nat → Int32) (v : St) (k0 : Nat) (a0 : Int32) (a1 : Int32) (a2 : Int32) (a3 : Int32) (hq : Inj w) (hw : WF (wk w) g v) (h_k0 : oM w k0) : CTi w l yX8_read (wsy yX8_read prog_10_method_89_code 11 (some .int)) (rmL 6) [.ref (wq w k0), .int a0, .int a1, .int a2, .int a3] v (fun (r : Int32) (u : St) => (WF (wk w) g u ∧ True) ∧ ((r, u) = F_X8_read k0 a0 a1 a2 a3 v) ∧ (∀ k j : Nat, ¬ (k = k0 + 1 ∨ k = k0 + 2 ∨ k = k0 + 9 ∨ (k = k0 ∧ ((19 ≤ j ∧ j ≤ 20) ∨ j = 29))) → u.1 k j = v.1 k j)) := by
  generalize hpost : (fun (r : Int32) (u : St) => (WF (wk w) g u ∧ True) ∧ ((r, u) = F_X8_read k0 a0 a1 a2 a3 v) ∧ (∀ k j : Nat, ¬ (k = k0 + 1 ∨ k = k0 + 2 ∨ k = k0 + 9 ∨ (k = k0 ∧ ((19 ≤ j ∧ j ≤ 20) ∨ j = 29))) → u.1 k j = v.1 k j)) = post
  refine CTi.of prog_10_method_89_code 11 (some .int) "StarWalkModel" (by decide +kernel) rfl hq hw (Nat.le_of_ble_eq_true rfl) ?_
  intro pg en s m ar bl me cd ls E I hr hlk hl
  have hx := E.1.1
  have hb := E.1.2.1
  have hl : lv_has ls 11 [(0, .ref (wq w k0)), (1, .int a0), (2, .int a1), (3, .int a2), (4, .int a3)] := hl
  obtain ⟨res, hres⟩ : ∃ z, z = F_X8_read k0 a0 a1 a2 a3 v := ⟨_, rfl⟩
  have hF := hres.symm
  unfold F_X8_read at hF
  replace hres : res = F_X8_read k0 a0 a1 a2 a3 v := hres
  have rz0 : ∀ k j : Nat, ¬ (k = k0 + 1 ∨ k = k0 + 2 ∨ k = k0 + 9 ∨ (k = k0 ∧ ((19 ≤ j ∧ j ≤ 20) ∨ j = 29))) → v.1 k j = v.1 k j := fun _ _ _ => rfl
  obtain ⟨P_62, eP_62, hF⟩ := xl_e hF
  have L_62 : ∀ (n : Nat), ∀ (H : Heap) (lo : List Loc) (v_62 : St), Wo w g s.heap v_62 H lo → ∀ (y62_5 : Int32) (y62_6 : Int32) (y62_7 : Int32), (0 ≤ y62_5.toInt ∧ y62_5.toInt ≤ 3) → (0 ≤ y62_7.toInt ∧ y62_7.toInt ≤ 10) → (0 ≤ a0.toInt ∧ a0.toInt ≤ 3) → (0 ≤ a1.toInt ∧ a1.toInt ≤ 2) → (0 ≤ a3.toInt ∧ a3.toInt ≤ 10) → (∀ k j : Nat, ¬ (k = k0 + 1 ∨ k = k0 + 2 ∨ k = k0 + 9 ∨ (k = k0 ∧ ((19 ≤ j ∧ j ≤ 20) ∨ j = 29))) → v_62.1 k j = v.1 k j) → (lp P_62 (fun _ _ _ _ => ((0 : Int32), v)) n y62_5 y62_6 y62_7 v_62 = res) → (2147483647 - y62_7.toInt).toNat < n → ∀ (ls : Array Slot), lv_has ls 11 [(0, .ref (wq w k0)), (1, .int a0), (2, .int a1), (3, .int a2), (4, .int a3), (5, .int y62_5), (6, .int y62_6), (7, .int y62_7)] → W pg l en (rmL 6) s m ar bl me cd H lo 0 0 (Zi w bl ar s post) (F0 m 62 ls []) := by
    intro n
    induction n with
    | zero => intro H lo v_62 I y62_5 y62_6 y62_7 hy62_5 hy62_7 hE62_0 hE62_1 hE62_2 rB62_Z hF hm; exact absurd hm (Nat.not_lt_zero _)
    | succ n ih_62 =>
      intro H lo v_62 I y62_5 y62_6 y62_7 hy62_5 hy62_7 hE62_0 hE62_1 hE62_2 rB62_Z hF hm ls hl
      replace hF := lpa4 eP_62 hF
      obtain ⟨J_203, eJ_203, hF⟩ := xl_e hF
      have B_203 : ∀ (H : Heap) (lo : List Loc) (v_203 : St), Wo w g s.heap v_203 H lo → ∀ (y203_5 : Int32) (y203_6 : Int32), (0 ≤ y203_5.toInt ∧ y203_5.toInt ≤ 3) → (0 ≤ a0.toInt ∧ a0.toInt ≤ 3) → (0 ≤ a1.toInt ∧ a1.toInt ≤ 2) → (1 ≤ a3.toInt ∧ a3.toInt ≤ 10) → (0 ≤ y62_7.toInt ∧ y62_7.toInt ≤ 9) → (∀ k j : Nat, ¬ (k = k0 + 1 ∨ k = k0 + 2 ∨ k = k0 + 9 ∨ (k = k0 ∧ ((19 ≤ j ∧ j ≤ 20) ∨ j = 29))) → v_203.1 k j = v.1 k j) → (J_203 y203_5 y203_6 v_203 = res) → ∀ (ls : Array Slot), lv_has ls 11 [(0, .ref (wq w k0)), (1, .int a0), (2, .int a1), (3, .int a2), (4, .int a3), (5, .int y203_5), (6, .int y203_6), (7, .int y62_7)] → W pg l en (rmL 6) s m ar bl me cd H lo 0 0 (Zi w bl ar s post) (F0 m 203 ls []) := by
        intro H lo v_203 I y203_5 y203_6 hy203_5 hE203_0 hE203_1 hE203_2 hE203_3 rB203_Z hF ls hl
        replace hF := ap3 eJ_203 hF
        obtain ⟨x1, ex1⟩ : ∃ z : Int32, z = y62_7 + 1 := ⟨_, rfl⟩
        replace hF := xl_i (ex1) hF
        have hx1 : x1.toInt = y62_7.toInt + (1) := by rw [ex1]; exact adI (a := y62_7.toInt) (b := 1) rfl rfl (by omega) (by omega)
        refine lv_iinc (v := x1) (lv' := [(7, .int x1), (0, .ref (wq w k0)), (1, .int a0), (2, .int a1), (3, .int a2), (4, .int a3), (5, .int y203_5), (6, .int y203_6)]) hx hb dX8_read_203 hl (k := 7) rfl (by rw [ex1]; rfl) (by decide) rfl (fun ls hl => ?_)
        refine lv_goto (tgt := 62) hx hb dX8_read_206 (by decide) ?_
        exact ih_62 _ _ v_203 I y203_5 y203_6 x1 (by omega) (by omega) (by omega) (by omega) (by omega) rB203_Z hF (by omega) ls (lv_sub hl [1, 2, 3, 4, 5, 6, 7, 0] rfl)
      obtain ⟨P_167, eP_167, hF⟩ := xl_e hF
      have L_167 : ∀ (n : Nat), ∀ (H : Heap) (lo : List Loc) (v_167 : St), Wo w g s.heap v_167 H lo → ∀ (y167_10 : Int32), (0 ≤ y167_10.toInt ∧ y167_10.toInt ≤ 54) → (0 ≤ y62_7.toInt ∧ y62_7.toInt ≤ 9) → (∀ k j : Nat, ¬ (k = k0 + 1 ∨ k = k0 + 2 ∨ k = k0 + 9 ∨ (k = k0 ∧ ((19 ≤ j ∧ j ≤ 20) ∨ j = 29))) → v_167.1 k j = v.1 k j) → (lp P_167 (fun _ _ => ((0 : Int32), v)) n y167_10 v_167 = res) → (2147483647 - y167_10.toInt).toNat < n → ∀ (ls : Array Slot), lv_has ls 11 [(0, .ref (wq w k0)), (7, .int y62_7), (10, .int y167_10)] → W pg l en (rmL 6) s m ar bl me cd H lo 0 0 (Zi w bl ar s post) (F0 m 167 ls []) := by
        intro n
        induction n with
        | zero => intro H lo v_167 I y167_10 hy167_10 hE167_0 rB167_Z hF hm; exact absurd hm (Nat.not_lt_zero _)
        | succ n ih_167 =>
          intro H lo v_167 I y167_10 hy167_10 hE167_0 rB167_Z hF hm ls hl
          replace hF := lpa2 eP_167 hF
          refine lv_iload hx hb dX8_read_167 (lv_at hl 2 rfl) ?_
          refine lv_bipush (v := 54) hx hb dX8_read_169 (by decide) ?_
          refine bi_ge E (a := y167_10.toInt) (b := 54) rfl rfl (tgt := 194) dX8_read_171 (by decide) (fun c2 => ?_) (fun c2 => ?_)
          ·
            replace hF := if_l c2 hF
            refine lv_bipush (v := (-20)) hx hb dX8_read_194 (by decide) ?_
            refine lv_iload hx hb dX8_read_196 (lv_at hl 1 rfl) ?_
            refine lv_isub hx hb dX8_read_198 ?_
            refine lv_topi (fun x3 ex3 => ?_)
            replace hF := xl_i (ex3) hF
            have hx3 : x3.toInt = (-20) - y62_7.toInt := by rw [ex3]; exact sbI (a := (-20)) (b := y62_7.toInt) rfl rfl (by omega) (by omega)
            exact rI E I hr hlk rfl (by rw [← hpost]; exact ⟨⟨I.2.2, trivial⟩, hF.trans hres, rB167_Z⟩) dX8_read_199
          ·
            replace hF := if_t c2 hF
            refine lv_aload_n hx hb dX8_read_174 rfl (lv_at hl 0 rfl) ?_
            refine g_StarWalkModel_st E I h_k0.1 mw_4_170 dX8_read_175 ?_
            refine lv_iload hx hb dX8_read_178 (lv_at hl 2 rfl) ?_
            refine lv_aload_n hx hb dX8_read_180 rfl (lv_at hl 0 rfl) ?_
            refine g_StarWalkModel_had E I h_k0.1 mw_4_200 dX8_read_181 ?_
            refine lv_iload hx hb dX8_read_184 (lv_at hl 2 rfl) ?_
            refine ga_38 E I h_k0.2.2.2.2.2.2.2.2.2 (by omega) dX8_read_186 ?_
            refine lv_topi (fun x4 ex4 => ?_)
            replace hF := xl_i (ex4) hF
            have hx4 := ra_38 I h_k0.2.2.2.2.2.2.2.2.2 y167_10.toNatClampNeg
            rw [← ex4] at hx4
            have cix4 := cnI (x := y167_10) (by omega)
            simp only [okk] at hx4
            refine pa_30 E I h_k0.2.1 (by omega) (by have ci := cnI (x := y167_10) (by omega); simp only [okk]; omega) dX8_read_187 (fun H lo I => ?_)
            generalize ev5 : up1 v_167 (k0 + 1) y167_10.toNatClampNeg x4 = v5 at I
            replace hF := xl_i (ev5.symm) hF
            have rzv5 : ∀ k j : Nat, ¬ (k = k0 + 1 ∨ k = k0 + 2 ∨ k = k0 + 9 ∨ (k = k0 ∧ ((19 ≤ j ∧ j ≤ 20) ∨ j = 29))) → v5.1 k j = v.1 k j := fun k j h => fz_u ev5 (by have czy167_10 := cnI (x := y167_10) (by omega); omega) (rB167_Z k j h)
            obtain ⟨x6, ex6⟩ : ∃ z : Int32, z = y167_10 + 1 := ⟨_, rfl⟩
            replace hF := xl_i (ex6) hF
            have hx6 : x6.toInt = y167_10.toInt + (1) := by rw [ex6]; exact adI (a := y167_10.toInt) (b := 1) rfl rfl (by omega) (by omega)
            refine lv_iinc (v := x6) (lv' := [(10, .int x6), (0, .ref (wq w k0)), (7, .int y62_7)]) hx hb dX8_read_188 hl (k := 2) rfl (by rw [ex6]; rfl) (by decide) rfl (fun ls hl => ?_)
            refine lv_goto (tgt := 167) hx hb dX8_read_191 (by decide) ?_
            exact ih_167 _ _ v5 I x6 (by omega) (by omega) rzv5 hF (by omega) ls (lv_sub hl [1, 2, 0] rfl)
      obtain ⟨J_136, eJ_136, hF⟩ := xl_e hF
      have B_136 : ∀ (H : Heap) (lo : List Loc), Wo w g s.heap v_62 H lo → ∀ (z136_0 : Int32), (0 ≤ z136_0.toInt ∧ z136_0.toInt ≤ 3) → (0 ≤ a0.toInt ∧ a0.toInt ≤ 3) → (0 ≤ a1.toInt ∧ a1.toInt ≤ 2) → (1 ≤ a3.toInt ∧ a3.toInt ≤ 10) → (0 ≤ y62_7.toInt ∧ y62_7.toInt ≤ 9) → (∀ k j : Nat, ¬ (k = k0 + 1 ∨ k = k0 + 2 ∨ k = k0 + 9 ∨ (k = k0 ∧ ((19 ≤ j ∧ j ≤ 20) ∨ j = 29))) → v_62.1 k j = v.1 k j) → (z136_0.toInt = 0 → 0 ≤ a2.toInt + y62_7.toInt ∧ a2.toInt + y62_7.toInt ≤ 39) → (J_136 z136_0 = res) → ∀ (ls : Array Slot), lv_has ls 11 [(0, .ref (wq w k0)), (1, .int a0), (2, .int a1), (3, .int a2), (4, .int a3), (6, .int y62_6), (7, .int y62_7)] → W pg l en (rmL 6) s m ar bl me cd H lo 0 0 (Zi w bl ar s post) (F0 m 136 ls [.int z136_0]) := by
        intro H lo  I z136_0 hz136_0 hE136_0 hE136_1 hE136_2 hE136_3 rB136_Z iv136_0 hF ls hl
        replace hF := ap1 eJ_136 hF
        refine lv_istore (lv' := [(5, .int z136_0), (0, .ref (wq w k0)), (1, .int a0), (2, .int a1), (3, .int a2), (4, .int a3), (6, .int y62_6), (7, .int y62_7)]) hx hb dX8_read_136 hl (by decide) rfl (fun ls hl => ?_)
        refine lv_iload hx hb dX8_read_138 (lv_at hl 0 rfl) ?_
        refine bz_ne E (a := z136_0.toInt) rfl (tgt := 203) dX8_read_140 (by decide) (fun c7 => ?_) (fun c7 => ?_)
        ·
          replace hF := if_f c7 hF
          exact B_203 _ _ v_62 I z136_0 y62_6 (by omega) (by omega) (by omega) (by omega) (by omega) rB136_Z hF ls (lv_sub hl [1, 2, 3, 4, 5, 0, 6, 7] rfl)
        ·
          replace hF := if_t c7 hF
          refine lv_aload_n hx hb dX8_read_143 rfl (lv_at hl 1 rfl) ?_
          refine lv_aload_n hx hb dX8_read_144 rfl (lv_at hl 1 rfl) ?_
          refine g_StarWalkModel_cells E I h_k0.1 mw_4_198 dX8_read_145 ?_
          refine lv_bipush (v := 40) hx hb dX8_read_148 (by decide) ?_
          refine lv_iload_n hx hb dX8_read_150 rfl (lv_at hl 2 rfl) ?_
          refine lv_imul hx hb dX8_read_151 ?_
          refine lv_topi (fun x8 ex8 => ?_)
          replace hF := xl_i (ex8) hF
          have hx8 : x8.toInt = 40 * a0.toInt := by rw [ex8]; exact mlI (a := 40) (b := a0.toInt) rfl rfl (by omega) (by omega)
          refine lv_iload_n hx hb dX8_read_152 rfl (lv_at hl 4 rfl) ?_
          refine lv_iadd hx hb dX8_read_153 ?_
          refine lv_topi (fun x9 ex9 => ?_)
          replace hF := xl_i (ex9) hF
          have hx9 : x9.toInt = x8.toInt + a2.toInt := by rw [ex9]; exact adI (a := x8.toInt) (b := a2.toInt) rfl rfl (by omega) (by omega)
          refine lv_iload hx hb dX8_read_154 (lv_at hl 7 rfl) ?_
          refine lv_iadd hx hb dX8_read_156 ?_
          refine lv_topi (fun x10 ex10 => ?_)
          replace hF := xl_i (ex10) hF
          have hx10 : x10.toInt = x9.toInt + y62_7.toInt := by rw [ex10]; exact adI (a := x9.toInt) (b := y62_7.toInt) rfl rfl (by omega) (by omega)
          refine ga_37 E I h_k0.2.2.2.2.2.2.2.2.1 (by omega) dX8_read_157 ?_
          refine lv_topi (fun x11 ex11 => ?_)
          replace hF := xl_i (ex11) hF
          refine cVi E I (c_X8_go l w g v_62 k0 x11 E.2.2.1 I.2.2 h_k0  ) (cwV 1 E.1.2.2.2.2 (gWs (C := "StarWalkModel") mw_6_132 mw_5_212 mw_5_213 mw_1_9 mw_5_214) rfl rfl rfl (by decide +kernel) ⟨by decide, by decide⟩) h_k0.1.1 ((ce_o h_k0.1.2).trans rfl) rfl rfl hl.1 rfl (Nat.le_of_ble_eq_true rfl) dX8_read_158 ⟨Nat.le_refl _, Nat.le_refl _⟩ (fun r12 u13 H lo hp hPS => ?_)
          obtain ⟨hp, hex, hfr⟩ := hp
          replace hF := xm_i hex hF
          obtain ⟨hwf, p14⟩ := hp
          have I : Wo w g s.heap u13 H lo := ⟨hPS.1, hPS.2, hwf⟩
          have rzu13 : ∀ k j : Nat, ¬ (k = k0 + 1 ∨ k = k0 + 2 ∨ k = k0 + 9 ∨ (k = k0 ∧ ((19 ≤ j ∧ j ≤ 20) ∨ j = 29))) → u13.1 k j = v.1 k j := fun k j h => (hfr k j (fun z => h (by rcases z with z | z | z <;> omega))).trans (rB136_Z k j h)
          refine bz_ge E (a := r12.toInt) rfl (tgt := 200) dX8_read_161 (by decide) (fun c15 => ?_) (fun c15 => ?_)
          ·
            replace hF := if_l c15 hF
            obtain ⟨x16, ex16⟩ : ∃ z : Int32, z = y62_6 + 1 := ⟨_, rfl⟩
            replace hF := xl_i (ex16) hF
            refine lv_iinc (v := x16) (lv' := [(6, .int x16), (5, .int z136_0), (0, .ref (wq w k0)), (1, .int a0), (2, .int a1), (3, .int a2), (4, .int a3), (7, .int y62_7)]) hx hb dX8_read_200 hl (k := 6) rfl (by rw [ex16]; rfl) (by decide) rfl (fun ls hl => ?_)
            exact B_203 _ _ u13 I z136_0 x16 (by omega) (by omega) (by omega) (by omega) (by omega) rzu13 hF ls (lv_sub hl [2, 3, 4, 5, 6, 1, 0, 7] rfl)
          ·
            replace hF := if_t c15 hF
            refine lv_iconst (v := 0) hx hb dX8_read_164 (by decide) ?_
            refine lv_istore (lv' := [(10, .int 0), (5, .int z136_0), (0, .ref (wq w k0)), (1, .int a0), (2, .int a1), (3, .int a2), (4, .int a3), (6, .int y62_6), (7, .int y62_7)]) hx hb dX8_read_165 hl (by decide) rfl (fun ls hl => ?_)
            exact L_167 ((2147483647 - (0 : Int32).toInt).toNat + 1) _ _ u13 I (0 : Int32) (by decide) (by omega) rzu13 hF (Nat.lt_succ_self _) ls (lv_sub hl [2, 8, 0] rfl)
      obtain ⟨J_131, eJ_131, hF⟩ := xl_e hF
      have B_131 : ∀ (H : Heap) (lo : List Loc), Wo w g s.heap v_62 H lo → (0 ≤ a0.toInt ∧ a0.toInt ≤ 3) → (0 ≤ a1.toInt ∧ a1.toInt ≤ 2) → (1 ≤ a3.toInt ∧ a3.toInt ≤ 10) → (0 ≤ y62_7.toInt ∧ y62_7.toInt ≤ 9) → (∀ k j : Nat, ¬ (k = k0 + 1 ∨ k = k0 + 2 ∨ k = k0 + 9 ∨ (k = k0 ∧ ((19 ≤ j ∧ j ≤ 20) ∨ j = 29))) → v_62.1 k j = v.1 k j) → (J_131  = res) → ∀ (ls : Array Slot), lv_has ls 11 [(0, .ref (wq w k0)), (1, .int a0), (2, .int a1), (3, .int a2), (4, .int a3), (6, .int y62_6), (7, .int y62_7)] → W pg l en (rmL 6) s m ar bl me cd H lo 0 0 (Zi w bl ar s post) (F0 m 131 ls []) := by
        intro H lo  I  hE131_0 hE131_1 hE131_2 hE131_3 rB131_Z hF ls hl
        replace hF := ap0 eJ_131 hF
        refine lv_iconst (v := 2) hx hb dX8_read_131 (by decide) ?_
        refine lv_goto (tgt := 136) hx hb dX8_read_132 (by decide) ?_
        exact B_136 _ _ I (2 : Int32) (by decide) (by omega) (by omega) (by omega) (by omega) rB131_Z (fun h => absurd h (by decide)) hF ls (lv_sub hl [0, 1, 2, 3, 4, 5, 6] rfl)
      refine lv_iload hx hb dX8_read_62 (lv_at hl 7 rfl) ?_
      refine lv_iload hx hb dX8_read_64 (lv_at hl 4 rfl) ?_
      refine bi_ge E (a := y62_7.toInt) (b := a3.toInt) rfl rfl (tgt := 209) dX8_read_66 (by decide) (fun c17 => ?_) (fun c17 => ?_)
      ·
        replace hF := if_l c17 hF
        refine lv_aload_n hx hb dX8_read_209 rfl (lv_at hl 0 rfl) ?_
        refine lv_iload hx hb dX8_read_210 (lv_at hl 5 rfl) ?_
        refine p_StarWalkModel_torn E I h_k0.1 mw_4_199 dX8_read_212 (fun H lo I => ?_)
        generalize ev18 : up1 v_62 k0 29 y62_5 = v18 at I
        replace hF := xl_i (ev18.symm) hF
        have rzv18 : ∀ k j : Nat, ¬ (k = k0 + 1 ∨ k = k0 + 2 ∨ k = k0 + 9 ∨ (k = k0 ∧ ((19 ≤ j ∧ j ≤ 20) ∨ j = 29))) → v18.1 k j = v.1 k j := fun k j h => fz_u ev18 (by omega) (rB62_Z k j h)
        refine lv_iload hx hb dX8_read_215 (lv_at hl 6 rfl) ?_
        exact rI E I hr hlk rfl (by rw [← hpost]; exact ⟨⟨I.2.2, trivial⟩, hF.trans hres, rzv18⟩) dX8_read_217
      ·
        replace hF := if_t c17 hF
        refine lv_iload hx hb dX8_read_69 (lv_at hl 5 rfl) ?_
        refine bz_ne E (a := y62_5.toInt) rfl (tgt := 209) dX8_read_71 (by decide) (fun c19 => ?_) (fun c19 => ?_)
        ·
          replace hF := if_f c19 hF
          refine lv_aload_n hx hb dX8_read_209 rfl (lv_at hl 0 rfl) ?_
          refine lv_iload hx hb dX8_read_210 (lv_at hl 5 rfl) ?_
          refine p_StarWalkModel_torn E I h_k0.1 mw_4_199 dX8_read_212 (fun H lo I => ?_)
          generalize ev20 : up1 v_62 k0 29 y62_5 = v20 at I
          replace hF := xl_i (ev20.symm) hF
          have rzv20 : ∀ k j : Nat, ¬ (k = k0 + 1 ∨ k = k0 + 2 ∨ k = k0 + 9 ∨ (k = k0 ∧ ((19 ≤ j ∧ j ≤ 20) ∨ j = 29))) → v20.1 k j = v.1 k j := fun k j h => fz_u ev20 (by omega) (rB62_Z k j h)
          refine lv_iload hx hb dX8_read_215 (lv_at hl 6 rfl) ?_
          exact rI E I hr hlk rfl (by rw [← hpost]; exact ⟨⟨I.2.2, trivial⟩, hF.trans hres, rzv20⟩) dX8_read_217
        ·
          replace hF := if_t c19 hF
          refine lv_iload_n hx hb dX8_read_74 rfl (lv_at hl 3 rfl) ?_
          refine lv_i2l (v := a2.toInt64) hx hb dX8_read_75 rfl ?_
          refine lv_iload hx hb dX8_read_76 (lv_at hl 7 rfl) ?_
          refine lv_i2l (v := y62_7.toInt64) hx hb dX8_read_78 rfl ?_
          refine lv_ladd hx hb dX8_read_79 ?_
          refine lv_topl (fun q23 eq23 => ?_)
          replace hF := xl_i (eq23) hF
          have hq23 : q23.toInt = a2.toInt + y62_7.toInt := by have := i32_rng a2; rw [eq23]; exact adL (i64_of a2) (i64_of y62_7) (by omega) (by omega)
          refine lv_lstore (lv' := [(8, .long q23), (0, .ref (wq w k0)), (1, .int a0), (2, .int a1), (3, .int a2), (4, .int a3), (5, .int y62_5), (6, .int y62_6), (7, .int y62_7)]) hx hb dX8_read_80 hl (by decide) rfl (fun ls hl => ?_)
          refine lv_aload_n hx hb dX8_read_82 rfl (lv_at hl 1 rfl) ?_
          refine g_StarWalkModel_lanes E I h_k0.1 mw_4_196 dX8_read_83 ?_
          refine lv_iload_n hx hb dX8_read_86 rfl (lv_at hl 2 rfl) ?_
          refine ga_35 E I h_k0.2.2.2.2.2.2.1 (by omega) dX8_read_87 ?_
          refine lv_topi (fun x24 ex24 => ?_)
          replace hF := xl_i (ex24) hF
          refine lv_bipush (v := (-4)) hx hb dX8_read_88 (by decide) ?_
          refine bi_ne E (a := x24.toInt) (b := (-4)) rfl rfl (tgt := 97) dX8_read_90 (by decide) (fun c25 => ?_) (fun c25 => ?_)
          ·
            replace hF := if_f c25 hF
            refine lv_aload_n hx hb dX8_read_97 rfl (lv_at hl 1 rfl) ?_
            refine g_StarWalkModel_lanes E I h_k0.1 mw_4_196 dX8_read_98 ?_
            refine lv_iload_n hx hb dX8_read_101 rfl (lv_at hl 2 rfl) ?_
            refine ga_35 E I h_k0.2.2.2.2.2.2.1 (by omega) dX8_read_102 ?_
            refine lv_topi (fun x26 ex26 => ?_)
            replace hF := xl_i (ex26) hF
            refine lv_iload_n hx hb dX8_read_103 rfl (lv_at hl 3 rfl) ?_
            refine bi_eq E (a := x26.toInt) (b := a1.toInt) rfl rfl (tgt := 111) dX8_read_104 (by decide) (fun c27 => ?_) (fun c27 => ?_)
            ·
              replace hF := if_t c27 hF
              refine lv_lload hx hb dX8_read_111 (lv_at hl 0 rfl) ?_
              refine lv_lconst (v := 0) hx hb dX8_read_113 (by decide) ?_
              refine W.lcmp hx hb dX8_read_114 ?_
              refine lv_topi (fun x28 ex28 => ?_)
              replace hF := xl_i (ex28) hF
              have iz29 : (0 : Int64).toInt = 0 := rfl
              have hx28 := lcB q23 (0 : Int64)
              rw [← ex28] at hx28
              refine bz_lt E (a := x28.toInt) rfl (tgt := 131) dX8_read_115 (by decide) (fun c30 => ?_) (fun c30 => ?_)
              ·
                replace hF := if_t c30 hF
                exact B_131 _ _ I  (by omega) (by omega) (by omega) (by omega) rB62_Z hF ls (lv_sub hl [1, 2, 3, 4, 5, 7, 8] rfl)
              ·
                replace hF := if_l c30 hF
                refine lv_lload hx hb dX8_read_118 (lv_at hl 0 rfl) ?_
                refine lv_aload_n hx hb dX8_read_120 rfl (lv_at hl 1 rfl) ?_
                refine g_StarWalkModel_sizes E I h_k0.1 mw_4_197 dX8_read_121 ?_
                refine lv_iload_n hx hb dX8_read_124 rfl (lv_at hl 2 rfl) ?_
                refine ga_36 E I h_k0.2.2.2.2.2.2.2.1 (by omega) dX8_read_125 ?_
                refine lv_topi (fun x31 ex31 => ?_)
                replace hF := xl_i (ex31) hF
                have hx31 := ra_36 I h_k0.2.2.2.2.2.2.2.1 a0.toNatClampNeg
                rw [← ex31] at hx31
                have hx31 : 0 ≤ x31.toInt ∧ x31.toInt ≤ 40 := by
                  have ci := cnI (x := a0) (by omega)
                  simp only [okk] at hx31
                  omega
                refine lv_i2l (v := x31.toInt64) hx hb dX8_read_126 rfl ?_
                refine W.lcmp hx hb dX8_read_127 ?_
                refine lv_topi (fun x33 ex33 => ?_)
                replace hF := xl_i (ex33) hF
                have iz34 := i64_of x31
                have hx33 := lcB q23 x31.toInt64
                rw [← ex33] at hx33
                refine bz_lt E (a := x33.toInt) rfl (tgt := 135) dX8_read_128 (by decide) (fun c35 => ?_) (fun c35 => ?_)
                ·
                  replace hF := if_t c35 hF
                  refine lv_iconst (v := 0) hx hb dX8_read_135 (by decide) ?_
                  exact B_136 _ _ I (0 : Int32) (by decide) (by omega) (by omega) (by omega) (by omega) rB62_Z (fun _ => by omega) hF ls (lv_sub hl [1, 2, 3, 4, 5, 7, 8] rfl)
                ·
                  replace hF := if_l c35 hF
                  exact B_131 _ _ I  (by omega) (by omega) (by omega) (by omega) rB62_Z hF ls (lv_sub hl [1, 2, 3, 4, 5, 7, 8] rfl)
            ·
              replace hF := if_f c27 hF
              refine lv_iconst (v := 3) hx hb dX8_read_107 (by decide) ?_
              refine lv_goto (tgt := 136) hx hb dX8_read_108 (by decide) ?_
              exact B_136 _ _ I (3 : Int32) (by decide) (by omega) (by omega) (by omega) (by omega) rB62_Z (fun h => absurd h (by decide)) hF ls (lv_sub hl [1, 2, 3, 4, 5, 7, 8] rfl)
          ·
            replace hF := if_t c25 hF
            refine lv_iconst (v := 1) hx hb dX8_read_93 (by decide) ?_
            refine lv_goto (tgt := 136) hx hb dX8_read_94 (by decide) ?_
            exact B_136 _ _ I (1 : Int32) (by decide) (by omega) (by omega) (by omega) (by omega) rB62_Z (fun h => absurd h (by decide)) hF ls (lv_sub hl [1, 2, 3, 4, 5, 7, 8] rfl)
  obtain ⟨P_26, eP_26, hF⟩ := xl_e hF
  have L_26 : ∀ (n : Nat), ∀ (H : Heap) (lo : List Loc) (v_26 : St), Wo w g s.heap v_26 H lo → ∀ (y26_5 : Int32), (0 ≤ y26_5.toInt ∧ y26_5.toInt ≤ 54) → (0 ≤ a0.toInt ∧ a0.toInt ≤ 3) → (0 ≤ a1.toInt ∧ a1.toInt ≤ 2) → (0 ≤ a3.toInt ∧ a3.toInt ≤ 10) → (∀ k j : Nat, ¬ (k = k0 + 1 ∨ k = k0 + 2 ∨ k = k0 + 9 ∨ (k = k0 ∧ ((19 ≤ j ∧ j ≤ 20) ∨ j = 29))) → v_26.1 k j = v.1 k j) → (lp P_26 (fun _ _ => ((0 : Int32), v)) n y26_5 v_26 = res) → (2147483647 - y26_5.toInt).toNat < n → ∀ (ls : Array Slot), lv_has ls 11 [(0, .ref (wq w k0)), (1, .int a0), (2, .int a1), (3, .int a2), (4, .int a3), (5, .int y26_5)] → W pg l en (rmL 6) s m ar bl me cd H lo 0 0 (Zi w bl ar s post) (F0 m 26 ls []) := by
    intro n
    induction n with
    | zero => intro H lo v_26 I y26_5 hy26_5 hE26_0 hE26_1 hE26_2 rB26_Z hF hm; exact absurd hm (Nat.not_lt_zero _)
    | succ n ih_26 =>
      intro H lo v_26 I y26_5 hy26_5 hE26_0 hE26_1 hE26_2 rB26_Z hF hm ls hl
      replace hF := lpa2 eP_26 hF
      refine lv_iload hx hb dX8_read_26 (lv_at hl 5 rfl) ?_
      refine lv_bipush (v := 54) hx hb dX8_read_28 (by decide) ?_
      refine bi_ge E (a := y26_5.toInt) (b := 54) rfl rfl (tgt := 53) dX8_read_30 (by decide) (fun c36 => ?_) (fun c36 => ?_)
      ·
        replace hF := if_l c36 hF
        refine lv_iconst (v := 0) hx hb dX8_read_53 (by decide) ?_
        refine lv_istore (lv' := [(5, .int 0), (0, .ref (wq w k0)), (1, .int a0), (2, .int a1), (3, .int a2), (4, .int a3)]) hx hb dX8_read_54 hl (by decide) rfl (fun ls hl => ?_)
        refine lv_iconst (v := 0) hx hb dX8_read_56 (by decide) ?_
        refine lv_istore (lv' := [(6, .int 0), (5, .int 0), (0, .ref (wq w k0)), (1, .int a0), (2, .int a1), (3, .int a2), (4, .int a3)]) hx hb dX8_read_57 hl (by decide) rfl (fun ls hl => ?_)
        refine lv_iconst (v := 0) hx hb dX8_read_59 (by decide) ?_
        refine lv_istore (lv' := [(7, .int 0), (6, .int 0), (5, .int 0), (0, .ref (wq w k0)), (1, .int a0), (2, .int a1), (3, .int a2), (4, .int a3)]) hx hb dX8_read_60 hl (by decide) rfl (fun ls hl => ?_)
        exact L_62 ((2147483647 - (0 : Int32).toInt).toNat + 1) _ _ v_26 I (0 : Int32) (0 : Int32) (0 : Int32) (by decide) (by decide) (by omega) (by omega) (by omega) rB26_Z hF (Nat.lt_succ_self _) ls (lv_sub hl [3, 4, 5, 6, 7, 2, 1, 0] rfl)
      ·
        replace hF := if_t c36 hF
        refine lv_aload_n hx hb dX8_read_33 rfl (lv_at hl 0 rfl) ?_
        refine g_StarWalkModel_had E I h_k0.1 mw_4_200 dX8_read_34 ?_
        refine lv_iload hx hb dX8_read_37 (lv_at hl 5 rfl) ?_
        refine lv_aload_n hx hb dX8_read_39 rfl (lv_at hl 0 rfl) ?_
        refine g_StarWalkModel_st E I h_k0.1 mw_4_170 dX8_read_40 ?_
        refine lv_iload hx hb dX8_read_43 (lv_at hl 5 rfl) ?_
        refine ga_30 E I h_k0.2.1 (by omega) dX8_read_45 ?_
        refine lv_topi (fun x37 ex37 => ?_)
        replace hF := xl_i (ex37) hF
        have hx37 := ra_30 I h_k0.2.1 y26_5.toNatClampNeg
        rw [← ex37] at hx37
        have cix37 := cnI (x := y26_5) (by omega)
        simp only [okk] at hx37
        refine pa_38 E I h_k0.2.2.2.2.2.2.2.2.2 (by omega) (by have ci := cnI (x := y26_5) (by omega); simp only [okk]; omega) dX8_read_46 (fun H lo I => ?_)
        generalize ev38 : up1 v_26 (k0 + 9) y26_5.toNatClampNeg x37 = v38 at I
        replace hF := xl_i (ev38.symm) hF
        have rzv38 : ∀ k j : Nat, ¬ (k = k0 + 1 ∨ k = k0 + 2 ∨ k = k0 + 9 ∨ (k = k0 ∧ ((19 ≤ j ∧ j ≤ 20) ∨ j = 29))) → v38.1 k j = v.1 k j := fun k j h => fz_u ev38 (by have czy26_5 := cnI (x := y26_5) (by omega); omega) (rB26_Z k j h)
        obtain ⟨x39, ex39⟩ : ∃ z : Int32, z = y26_5 + 1 := ⟨_, rfl⟩
        replace hF := xl_i (ex39) hF
        have hx39 : x39.toInt = y26_5.toInt + (1) := by rw [ex39]; exact adI (a := y26_5.toInt) (b := 1) rfl rfl (by omega) (by omega)
        refine lv_iinc (v := x39) (lv' := [(5, .int x39), (0, .ref (wq w k0)), (1, .int a0), (2, .int a1), (3, .int a2), (4, .int a3)]) hx hb dX8_read_47 hl (k := 5) rfl (by rw [ex39]; rfl) (by decide) rfl (fun ls hl => ?_)
        refine lv_goto (tgt := 26) hx hb dX8_read_50 (by decide) ?_
        exact ih_26 _ _ v38 I x39 (by omega) (by omega) (by omega) (by omega) rzv38 hF (by omega) ls (lv_sub hl [1, 2, 3, 4, 5, 0] rfl)
  refine lv_iload_n hx hb dX8_read_0 rfl (lv_at hl 1 rfl) ?_
  refine lv_iload_n hx hb dX8_read_1 rfl (lv_at hl 2 rfl) ?_
  refine cSi E I (c_X8_isSheet l w g v a0 a1 E.2.2.1 I.2.2   ) (va_cwS 2 E.1.2.2.2.2 (gSs mw_6_120 mw_6_121 mw_1_9 mw_6_122) rfl rfl rfl (by decide +kernel) ⟨by decide, by decide⟩) rfl hl.1 rfl (Nat.le_of_ble_eq_true rfl) dX8_read_2 ⟨Nat.le_refl _, Nat.le_refl _⟩ (fun r40 u41 H lo hp hPS => ?_)
  obtain ⟨hp, hex, hfr⟩ := hp
  replace hF := xl_i hex hF
  obtain ⟨hu, p42⟩ := hp
  rw [hu] at hPS
  have I : Wo w g s.heap v H lo := ⟨hPS.1, hPS.2, I.2.2⟩
  refine bz_eq E (a := r40.toInt) rfl (tgt := 21) dX8_read_5 (by decide) (fun c43 => ?_) (fun c43 => ?_)
  ·
    replace hF := if_t c43 hF
    refine lv_iconst (v := (-1)) hx hb dX8_read_21 (by decide) ?_
    exact rI E I hr hlk rfl (by rw [← hpost]; exact ⟨⟨I.2.2, trivial⟩, hF.trans hres, rz0⟩) dX8_read_22
  ·
    replace hF := if_f c43 hF
    refine lv_iload hx hb dX8_read_8 (lv_at hl 4 rfl) ?_
    refine lv_i2l (v := a3.toInt64) hx hb dX8_read_10 rfl ?_
    refine lv_lconst (v := 0) hx hb dX8_read_11 (by decide) ?_
    refine lv_ldc2 (own := "StarWalkModel") hx hb E.1.2.2.2.1 (Ew E mw_5_153 rfl) dX8_read_12 ?_
    refine cSi E I (c_X8_in l w g v a3.toInt64 (0 : Int64) (10 : Int64) E.2.2.1 I.2.2   ) (va_cwS 3 E.1.2.2.2.2 (gSs mw_5_29 mw_5_30 mw_1_9 mw_5_31) rfl rfl rfl (by decide +kernel) ⟨by decide, by decide⟩) rfl hl.1 rfl (Nat.le_of_ble_eq_true rfl) dX8_read_15 ⟨Nat.le_refl _, Nat.le_refl _⟩ (fun r45 u46 H lo hp hPS => ?_)
    have iz47 := i64_of a3
    have iz48 : (0 : Int64).toInt = 0 := rfl
    have iz49 : (10 : Int64).toInt = 10 := rfl
    obtain ⟨hp, hex, hfr⟩ := hp
    replace hF := xl_i hex hF
    obtain ⟨hu, p50⟩ := hp
    rw [hu] at hPS
    have I : Wo w g s.heap v H lo := ⟨hPS.1, hPS.2, I.2.2⟩
    refine bz_ne E (a := r45.toInt) rfl (tgt := 23) dX8_read_18 (by decide) (fun c51 => ?_) (fun c51 => ?_)
    ·
      replace hF := if_f c51 hF
      refine lv_iconst (v := 0) hx hb dX8_read_23 (by decide) ?_
      refine lv_istore (lv' := [(5, .int 0), (0, .ref (wq w k0)), (1, .int a0), (2, .int a1), (3, .int a2), (4, .int a3)]) hx hb dX8_read_24 hl (by decide) rfl (fun ls hl => ?_)
      exact L_26 ((2147483647 - (0 : Int32).toInt).toNat + 1) _ _ v I (0 : Int32) (by decide) (by omega) (by omega) (by omega) rz0 hF (Nat.lt_succ_self _) ls (lv_sub hl [1, 2, 3, 4, 5, 0] rfl)
    ·
      replace hF := if_t c51 hF
      refine lv_iconst (v := (-1)) hx hb dX8_read_21 (by decide) ?_
      exact rI E I hr hlk rfl (by rw [← hpost]; exact ⟨⟨I.2.2, trivial⟩, hF.trans hres, rz0⟩) dX8_read_22
