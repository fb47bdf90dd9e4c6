set_option maxHeartbeats 4000000 in
set_option maxRecDepth 100000 in
theorem c_X1_divisorOf (l : Launch) (w : Wp) (g : Nat → Nat → Int32) (v : St) (a0 : Int64) (a1 : Int64) (hq : Inj w) (hw : WF (wk w) g v) : CTl w l yX1_divisorOf (wsy yX1_divisorOf prog_3_method_5_code 11 (some .long)) (rmL 1) [.long a0, .long a1] v (fun (r : Int64) (u : St) => (u = v ∧ True) ∧ (True) ∧ True) := by
  generalize hpost : (fun (r : Int64) (u : St) => (u = v ∧ True) ∧ (True) ∧ True) = post
  refine CTl.of prog_3_method_5_code 11 (some .long) "StarWalk$Odds" (by decide +kernel) rfl hq hw (Nat.le_of_ble_eq_true rfl) ?_
  intro pg en s m ar bl me cd ls E I hr hlk hl
  have hx := E.1.1
  have hb := E.1.2.1
  have hl : lv_has ls 11 [(0, .long a0), (2, .long a1)] := hl
  have L_9 : ∀ (n : Nat), ∀ (H : Heap) (lo : List Loc), Wo w g s.heap v H lo → ∀ (y9_4 : Int64) (y9_6 : Int64) (y9_8 : Int32), (0 ≤ y9_8.toInt ∧ y9_8.toInt ≤ 1000) → (2147483647 - y9_8.toInt).toNat < n → ∀ (ls : Array Slot), lv_has ls 11 [(4, .long y9_4), (6, .long y9_6), (8, .int y9_8)] → W pg l en (rmL 1) s m ar bl me cd H lo 0 0 (Zl w bl ar s post) (F0 m 9 ls []) := by
    intro n
    induction n with
    | zero => intro H lo  I y9_4 y9_6 y9_8 hy9_8 hm; exact absurd hm (Nat.not_lt_zero _)
    | succ n ih_9 =>
      intro H lo  I y9_4 y9_6 y9_8 hy9_8 hm ls hl
      refine lv_iload hx hb dX1_divisorOf_9 (lv_at hl 2 rfl) ?_
      refine lv_sipush (v := 1000) hx hb dX1_divisorOf_11 (by decide) ?_
      refine bi_ge E (a := y9_8.toInt) (b := 1000) rfl rfl (tgt := 45) dX1_divisorOf_14 (by decide) (fun c1 => ?_) (fun c1 => ?_)
      ·
        refine lv_lload hx hb dX1_divisorOf_45 (lv_at hl 0 rfl) ?_
        exact rL E I hr hlk (by rw [← hpost]; exact ⟨⟨rfl, trivial⟩, trivial, trivial⟩) dX1_divisorOf_47
      ·
        refine lv_lload hx hb dX1_divisorOf_17 (lv_at hl 1 rfl) ?_
        refine lv_lconst (v := 0) hx hb dX1_divisorOf_19 (by decide) ?_
        refine W.lcmp hx hb dX1_divisorOf_20 ?_
        refine lv_topi (fun x2 ex2 => ?_)
        have iz3 : (0 : Int64).toInt = 0 := rfl
        have hx2 := lcB y9_6 (0 : Int64)
        rw [← ex2] at hx2
        refine bz_eq E (a := x2.toInt) rfl (tgt := 45) dX1_divisorOf_21 (by decide) (fun c4 => ?_) (fun c4 => ?_)
        ·
          refine lv_lload hx hb dX1_divisorOf_45 (lv_at hl 0 rfl) ?_
          exact rL E I hr hlk (by rw [← hpost]; exact ⟨⟨rfl, trivial⟩, trivial, trivial⟩) dX1_divisorOf_47
        ·
          refine lv_lload hx hb dX1_divisorOf_24 (lv_at hl 0 rfl) ?_
          refine lv_lload hx hb dX1_divisorOf_26 (lv_at hl 1 rfl) ?_
          refine lv_lrem hx hb dX1_divisorOf_28 (lz_of (by omega)) ?_
          refine lv_topl (fun q5 eq5 => ?_)
          refine lv_lstore (lv' := [(9, .long q5), (4, .long y9_4), (6, .long y9_6), (8, .int y9_8)]) hx hb dX1_divisorOf_29 hl (by decide) rfl (fun ls hl => ?_)
          refine lv_lload hx hb dX1_divisorOf_31 (lv_at hl 2 rfl) ?_
          refine lv_lstore (lv' := [(4, .long y9_6), (9, .long q5), (6, .long y9_6), (8, .int y9_8)]) hx hb dX1_divisorOf_33 hl (by decide) rfl (fun ls hl => ?_)
          refine lv_lload hx hb dX1_divisorOf_35 (lv_at hl 1 rfl) ?_
          refine lv_lstore (lv' := [(6, .long q5), (4, .long y9_6), (9, .long q5), (8, .int y9_8)]) hx hb dX1_divisorOf_37 hl (by decide) rfl (fun ls hl => ?_)
          obtain ⟨x6, ex6⟩ : ∃ z : Int32, z = y9_8 + 1 := ⟨_, rfl⟩
          have hx6 : x6.toInt = y9_8.toInt + (1) := by rw [ex6]; exact adI (a := y9_8.toInt) (b := 1) rfl rfl (by omega) (by omega)
          refine lv_iinc (v := x6) (lv' := [(8, .int x6), (6, .long q5), (4, .long y9_6), (9, .long q5)]) hx hb dX1_divisorOf_39 hl (k := 3) rfl (by rw [ex6]; rfl) (by decide) rfl (fun ls hl => ?_)
          refine lv_goto (tgt := 9) hx hb dX1_divisorOf_42 (by decide) ?_
          exact ih_9 _ _ I y9_6 q5 x6 (by omega) (by omega) ls (lv_sub hl [2, 1, 0] rfl)
  refine lv_lload_n hx hb dX1_divisorOf_0 rfl (lv_at hl 0 rfl) ?_
  refine lv_lstore (lv' := [(4, .long a0), (0, .long a0), (2, .long a1)]) hx hb dX1_divisorOf_1 hl (by decide) rfl (fun ls hl => ?_)
  refine lv_lload_n hx hb dX1_divisorOf_3 rfl (lv_at hl 2 rfl) ?_
  refine lv_lstore (lv' := [(6, .long a1), (4, .long a0), (0, .long a0), (2, .long a1)]) hx hb dX1_divisorOf_4 hl (by decide) rfl (fun ls hl => ?_)
  refine lv_iconst (v := 0) hx hb dX1_divisorOf_6 (by decide) ?_
  refine lv_istore (lv' := [(8, .int 0), (6, .long a1), (4, .long a0), (0, .long a0), (2, .long a1)]) hx hb dX1_divisorOf_7 hl (by decide) rfl (fun ls hl => ?_)
  exact L_9 ((2147483647 - (0 : Int32).toInt).toNat + 1) _ _ I a0 a1 (0 : Int32) (by decide) (Nat.lt_succ_self _) ls (lv_sub hl [2, 1, 0] rfl)
set_option maxHeartbeats 4000000 in
set_option maxRecDepth 100000 in
theorem c_X1_part (l : Launch) (w : Wp) (g : Nat → Nat → Int32) (v : St) (k0 : Nat) (a0 : Int64) (a1 : Int32) (a2 : Int32) (hq : Inj w) (hw : WF (wk w) g v) (h_k0 : oO w k0) : CTl w l yX1_part (wsy yX1_part prog_3_method_4_code 9 (some .long)) (rmL 2) [.ref (wq w k0), .long a0, .int a1, .int a2] v (fun (r : Int64) (u : St) => (u = v ∧ True) ∧ (True) ∧ True) := by
  generalize hpost : (fun (r : Int64) (u : St) => (u = v ∧ True) ∧ (True) ∧ True) = post
  refine CTl.of prog_3_method_4_code 9 (some .long) "StarWalk$Odds" (by decide +kernel) rfl hq hw (Nat.le_of_ble_eq_true rfl) ?_
  intro pg en s m ar bl me cd ls E I hr hlk hl
  have hx := E.1.1
  have hb := E.1.2.1
  have hl : lv_has ls 9 [(0, .ref (wq w k0)), (1, .long a0), (3, .int a1), (4, .int a2)] := hl
  have B_33 : ∀ (H : Heap) (lo : List Loc), Wo w g s.heap v H lo → ∀ (y33_5 : Int64), ∀ (ls : Array Slot), lv_has ls 9 [(1, .long a0), (4, .int a2), (5, .long y33_5)] → W pg l en (rmL 2) s m ar bl me cd H lo 0 0 (Zl w bl ar s post) (F0 m 33 ls []) := by
    intro H lo  I y33_5  ls hl
    refine lv_lload_n hx hb dX1_part_33 rfl (lv_at hl 0 rfl) ?_
    refine lv_lload hx hb dX1_part_34 (lv_at hl 2 rfl) ?_
    refine cSl E I (c_X1_divisorOf l w g v a0 y33_5 E.2.2.1 I.2.2   ) (va_cwS 2 E.1.2.2.2.2 (gSs mw_4_66 mw_4_67 mw_1_7 mw_4_68) rfl rfl rfl (by decide +kernel) ⟨by decide, by decide⟩) rfl hl.1 rfl (Nat.le_of_ble_eq_true rfl) dX1_part_36 ⟨Nat.le_refl _, Nat.le_refl _⟩ (fun r1 u2 H lo hp hPS => ?_)
    obtain ⟨hp, hex, hfr⟩ := hp
    obtain ⟨hu, p3⟩ := hp
    rw [hu] at hPS
    have I : Wo w g s.heap v H lo := ⟨hPS.1, hPS.2, I.2.2⟩
    refine lv_lstore (lv' := [(7, .long r1), (1, .long a0), (4, .int a2), (5, .long y33_5)]) hx hb dX1_part_39 hl (by decide) rfl (fun ls hl => ?_)
    refine lv_lload hx hb dX1_part_41 (lv_at hl 0 rfl) ?_
    refine lv_lconst (v := 0) hx hb dX1_part_43 (by decide) ?_
    refine W.lcmp hx hb dX1_part_44 ?_
    refine lv_topi (fun x4 ex4 => ?_)
    have iz5 : (0 : Int64).toInt = 0 := rfl
    have hx4 := lcB r1 (0 : Int64)
    rw [← ex4] at hx4
    refine bz_ne E (a := x4.toInt) rfl (tgt := 50) dX1_part_45 (by decide) (fun c6 => ?_) (fun c6 => ?_)
    ·
      refine lv_iload hx hb dX1_part_50 (lv_at hl 2 rfl) ?_
      refine bz_ne E (a := a2.toInt) rfl (tgt := 62) dX1_part_52 (by decide) (fun c7 => ?_) (fun c7 => ?_)
      ·
        refine lv_lload hx hb dX1_part_62 (lv_at hl 3 rfl) ?_
        refine lv_lload hx hb dX1_part_64 (lv_at hl 0 rfl) ?_
        refine lv_ldiv hx hb dX1_part_66 (lz_of (by omega)) ?_
        refine lv_topl (fun q8 eq8 => ?_)
        exact rL E I hr hlk (by rw [← hpost]; exact ⟨⟨rfl, trivial⟩, trivial, trivial⟩) dX1_part_67
      ·
        refine lv_lload_n hx hb dX1_part_55 rfl (lv_at hl 1 rfl) ?_
        refine lv_lload hx hb dX1_part_56 (lv_at hl 0 rfl) ?_
        refine lv_ldiv hx hb dX1_part_58 (lz_of (by omega)) ?_
        refine lv_topl (fun q9 eq9 => ?_)
        refine lv_goto (tgt := 67) hx hb dX1_part_59 (by decide) ?_
        exact rL E I hr hlk (by rw [← hpost]; exact ⟨⟨rfl, trivial⟩, trivial, trivial⟩) dX1_part_67
    ·
      refine lv_lconst (v := 0) hx hb dX1_part_48 (by decide) ?_
      exact rL E I hr hlk (by rw [← hpost]; exact ⟨⟨rfl, trivial⟩, trivial, trivial⟩) dX1_part_49
  have L_6 : ∀ (n : Nat), ∀ (H : Heap) (lo : List Loc), Wo w g s.heap v H lo → ∀ (y6_5 : Int64) (y6_7 : Int32), (0 ≤ y6_7.toInt ∧ y6_7.toInt ≤ 8) → (2147483647 - y6_7.toInt).toNat < n → ∀ (ls : Array Slot), lv_has ls 9 [(1, .long a0), (3, .int a1), (4, .int a2), (5, .long y6_5), (7, .int y6_7)] → W pg l en (rmL 2) s m ar bl me cd H lo 0 0 (Zl w bl ar s post) (F0 m 6 ls []) := by
    intro n
    induction n with
    | zero => intro H lo  I y6_5 y6_7 hy6_7 hm; exact absurd hm (Nat.not_lt_zero _)
    | succ n ih_6 =>
      intro H lo  I y6_5 y6_7 hy6_7 hm ls hl
      refine lv_iload hx hb dX1_part_6 (lv_at hl 4 rfl) ?_
      refine lv_iload_n hx hb dX1_part_8 rfl (lv_at hl 1 rfl) ?_
      refine bi_ge E (a := y6_7.toInt) (b := a1.toInt) rfl rfl (tgt := 33) dX1_part_9 (by decide) (fun c10 => ?_) (fun c10 => ?_)
      ·
        have rga1 := i32_rng a1
        exact B_33 _ _ I y6_5  ls (lv_sub hl [0, 2, 3] rfl)
      ·
        have rga1 := i32_rng a1
        refine lv_iload hx hb dX1_part_12 (lv_at hl 4 rfl) ?_
        refine lv_bipush (v := 8) hx hb dX1_part_14 (by decide) ?_
        refine bi_ge E (a := y6_7.toInt) (b := 8) rfl rfl (tgt := 33) dX1_part_16 (by decide) (fun c11 => ?_) (fun c11 => ?_)
        ·
          exact B_33 _ _ I y6_5  ls (lv_sub hl [0, 2, 3] rfl)
        ·
          refine lv_lload hx hb dX1_part_19 (lv_at hl 3 rfl) ?_
          refine lv_ldc2 (own := "StarWalk$Odds") hx hb E.1.2.2.2.1 (Ew E mw_4_59 rfl) dX1_part_21 ?_
          refine lv_lmul hx hb dX1_part_24 ?_
          refine lv_topl (fun q12 eq12 => ?_)
          refine lv_lstore (lv' := [(5, .long q12), (1, .long a0), (3, .int a1), (4, .int a2), (7, .int y6_7)]) hx hb dX1_part_25 hl (by decide) rfl (fun ls hl => ?_)
          obtain ⟨x13, ex13⟩ : ∃ z : Int32, z = y6_7 + 1 := ⟨_, rfl⟩
          have hx13 : x13.toInt = y6_7.toInt + (1) := by rw [ex13]; exact adI (a := y6_7.toInt) (b := 1) rfl rfl (by omega) (by omega)
          refine lv_iinc (v := x13) (lv' := [(7, .int x13), (5, .long q12), (1, .long a0), (3, .int a1), (4, .int a2)]) hx hb dX1_part_27 hl (k := 4) rfl (by rw [ex13]; rfl) (by decide) rfl (fun ls hl => ?_)
          refine lv_goto (tgt := 6) hx hb dX1_part_30 (by decide) ?_
          exact ih_6 _ _ I q12 x13 (by omega) (by omega) ls (lv_sub hl [2, 3, 4, 1, 0] rfl)
  refine lv_lconst (v := 1) hx hb dX1_part_0 (by decide) ?_
  refine lv_lstore (lv' := [(5, .long (1 : Int64)), (0, .ref (wq w k0)), (1, .long a0), (3, .int a1), (4, .int a2)]) hx hb dX1_part_1 hl (by decide) rfl (fun ls hl => ?_)
  refine lv_iconst (v := 0) hx hb dX1_part_3 (by decide) ?_
  refine lv_istore (lv' := [(7, .int 0), (5, .long (1 : Int64)), (0, .ref (wq w k0)), (1, .long a0), (3, .int a1), (4, .int a2)]) hx hb dX1_part_4 hl (by decide) rfl (fun ls hl => ?_)
  exact L_6 ((2147483647 - (0 : Int32).toInt).toNat + 1) _ _ I (1 : Int64) (0 : Int32) (by decide) (Nat.lt_succ_self _) ls (lv_sub hl [3, 4, 5, 1, 0] rfl)
set_option maxHeartbeats 4000000 in
set_option maxRecDepth 100000 in
theorem c_X1_weigh_v8 (l : Launch) (w : Wp) (g : Nat → Nat → Int32) (v : St) (k0 : Nat) (hq : Inj w) (hw : WF (wk w) g v) (h_k0 : oO w k0) : CTl w l yX1_weigh (wsy yX1_weigh prog_3_method_3_code 8 (some .long)) (rmL 5) [.ref (wq w k0), .int 8] v (fun (r : Int64) (u : St) => (WF (wk w) g u ∧ True) ∧ (True) ∧ (∀ k j : Nat, ¬ (k0 ≤ k ∧ k < k0 + 20) → u.1 k j = v.1 k j)) := by
  generalize hpost : (fun (r : Int64) (u : St) => (WF (wk w) g u ∧ True) ∧ (True) ∧ (∀ k j : Nat, ¬ (k0 ≤ k ∧ k < k0 + 20) → u.1 k j = v.1 k j)) = post
  refine CTl.of prog_3_method_3_code 8 (some .long) "StarWalk$Odds" (by decide +kernel) rfl hq hw (Nat.le_of_ble_eq_true rfl) ?_
  intro pg en s m ar bl me cd ls E I hr hlk hl
  have hx := E.1.1
  have hb := E.1.2.1
  have hl : lv_has ls 8 [(0, .ref (wq w k0)), (1, .int 8)] := hl
  have rz0 : ∀ k j : Nat, ¬ (k0 ≤ k ∧ k < k0 + 20) → v.1 k j = v.1 k j := fun _ _ _ => rfl
  have B_24 : ∀ (H : Heap) (lo : List Loc), Wo w g s.heap v H lo → (∀ k j : Nat, ¬ (k0 ≤ k ∧ k < k0 + 20) → v.1 k j = v.1 k j) → ∀ (ls : Array Slot), lv_has ls 8 [(0, .ref (wq w k0)), (2, .ref (wq w (k0 + 10 + (1 + (8 : Int32).toNatClampNeg))))] → W pg l en (rmL 5) s m ar bl me cd H lo 0 0 (Zl w bl ar s post) (F0 m 24 ls []) := by
    intro H lo  I  rB24_Z ls hl
    refine lv_aload_n hx hb dX1_weigh_24 rfl (lv_at hl 0 rfl) ?_
    refine g_Odds_ofMiles E I h_k0.1 mw_2_34 dX1_weigh_25 ?_
    refine lv_topi (fun x1 ex1 => ?_)
    refine bz_eq E (a := x1.toInt) rfl (tgt := 39) dX1_weigh_28 (by decide) (fun c2 => ?_) (fun c2 => ?_)
    ·
      refine lv_aload_n hx hb dX1_weigh_39 rfl (lv_at hl 0 rfl) ?_
      refine g_Odds_night E I h_k0.1 mw_2_31 dX1_weigh_40 ?_
      refine lv_aload_n hx hb dX1_weigh_43 rfl (lv_at hl 1 rfl) ?_
      refine cVi E I (c_X0_isAtWell l w g v (k0 + 1) (k0 + 10 + (1 + (8 : Int32).toNatClampNeg)) E.2.2.1 I.2.2 h_k0.2.1 (h_k0.2.2.2 (8 : Int32).toNatClampNeg (by decide))  ) (cwV 1 E.1.2.2.2.2 (gWs (C := "StarWalk$Night") mw_4_56 mw_3_76 mw_3_77 mw_1_3 mw_3_78) rfl rfl rfl (by decide +kernel) ⟨by decide, by decide⟩) h_k0.2.1.1.1 ((ce_o h_k0.2.1.1.2).trans rfl) rfl rfl hl.1 rfl (Nat.le_of_ble_eq_true rfl) dX1_weigh_44 ⟨Nat.le_refl _, Nat.le_refl _⟩ (fun r3 u4 H lo hp hPS => ?_)
      obtain ⟨hp, hex, hfr⟩ := hp
      obtain ⟨hu, p5⟩ := hp
      rw [hu] at hPS
      have I : Wo w g s.heap v H lo := ⟨hPS.1, hPS.2, I.2.2⟩
      refine cNi E I (c_X7_oneIf l w g v r3 E.2.2.1 I.2.2   ) ⟨va_cnB 1 E.1.2.2.2.2 (gYs mw_3_88) rfl rfl rfl (E.2.2.2.1.2.2.2.2.2.2.2.2.1) (Ew E mw_1_1 rfl) (by decide +kernel) ⟨by decide, by decide⟩, Ew E mw_3_87 rfl, trivial⟩ rfl hl.1 rfl (Nat.le_of_ble_eq_true rfl) dX1_weigh_47 ⟨Nat.le_refl _, Nat.le_refl _⟩ (fun r6 u7 H lo hp hPS => ?_)
      obtain ⟨hp, hex, hfr⟩ := hp
      obtain ⟨hu, p8⟩ := hp
      rw [hu] at hPS
      have I : Wo w g s.heap v H lo := ⟨hPS.1, hPS.2, I.2.2⟩
      refine lv_i2l (v := r6.toInt64) hx hb dX1_weigh_50 rfl ?_
      exact rL E I hr hlk (by rw [← hpost]; exact ⟨⟨I.2.2, trivial⟩, trivial, rB24_Z⟩) dX1_weigh_51
    ·
      refine lv_aload_n hx hb dX1_weigh_31 rfl (lv_at hl 1 rfl) ?_
      refine g_Place_miles E I (h_k0.2.2.2 (8 : Int32).toNatClampNeg (by decide)) mw_1_50 dX1_weigh_32 ?_
      refine lv_topi (fun x10 ex10 => ?_)
      refine lv_i2l (v := x10.toInt64) hx hb dX1_weigh_35 rfl ?_
      refine lv_goto (tgt := 51) hx hb dX1_weigh_36 (by decide) ?_
      exact rL E I hr hlk (by rw [← hpost]; exact ⟨⟨I.2.2, trivial⟩, trivial, rB24_Z⟩) dX1_weigh_51
  refine lv_aload_n hx hb dX1_weigh_0 rfl (lv_at hl 0 rfl) ?_
  refine g_Odds_places E I h_k0.1 mw_2_32 dX1_weigh_1 ?_
  refine lv_iload_n hx hb dX1_weigh_4 rfl (lv_at hl 1 rfl) ?_
  refine ga_22 E I h_k0.2.2.1 (by decide) dX1_weigh_5 ?_
  refine lv_astore_n (lv' := [(2, .ref (wq w (k0 + 10 + (1 + (8 : Int32).toNatClampNeg)))), (0, .ref (wq w k0)), (1, .int 8)]) hx hb dX1_weigh_6 rfl hl (by decide) rfl (fun ls hl => ?_)
  refine lv_iload_n hx hb dX1_weigh_7 rfl (lv_at hl 2 rfl) ?_
  refine lv_bipush (v := 8) hx hb dX1_weigh_8 (by decide) ?_
  refine bi_ge E (a := 8) (b := 8) rfl rfl (tgt := 24) dX1_weigh_10 (by decide) (fun c12 => ?_) (fun c12 => ?_)
  ·
    exact B_24 _ _ I  rz0 ls (lv_sub hl [1, 0] rfl)
  ·
    exfalso; omega
set_option maxHeartbeats 4000000 in
set_option maxRecDepth 100000 in
theorem c_X1_weigh_v7 (l : Launch) (w : Wp) (g : Nat → Nat → Int32) (v : St) (k0 : Nat) (hq : Inj w) (hw : WF (wk w) g v) (h_k0 : oO w k0) : CTl w l yX1_weigh (wsy yX1_weigh prog_3_method_3_code 8 (some .long)) (rmL 6) [.ref (wq w k0), .int 7] v (fun (r : Int64) (u : St) => (WF (wk w) g u ∧ True) ∧ (True) ∧ (∀ k j : Nat, ¬ (k0 ≤ k ∧ k < k0 + 20) → u.1 k j = v.1 k j)) := by
  generalize hpost : (fun (r : Int64) (u : St) => (WF (wk w) g u ∧ True) ∧ (True) ∧ (∀ k j : Nat, ¬ (k0 ≤ k ∧ k < k0 + 20) → u.1 k j = v.1 k j)) = post
  refine CTl.of prog_3_method_3_code 8 (some .long) "StarWalk$Odds" (by decide +kernel) rfl hq hw (Nat.le_of_ble_eq_true rfl) ?_
  intro pg en s m ar bl me cd ls E I hr hlk hl
  have hx := E.1.1
  have hb := E.1.2.1
  have hl : lv_has ls 8 [(0, .ref (wq w k0)), (1, .int 7)] := hl
  have rz0 : ∀ k j : Nat, ¬ (k0 ≤ k ∧ k < k0 + 20) → v.1 k j = v.1 k j := fun _ _ _ => rfl
  have L_91 : ∀ (n : Nat), ∀ (H : Heap) (lo : List Loc) (v_91 : St), Wo w g s.heap v_91 H lo → ∀ (y91_4 : Int64) (y91_6 : Int32), (0 ≤ y91_6.toInt ∧ y91_6.toInt ≤ 2) → (∀ k j : Nat, ¬ (k0 ≤ k ∧ k < k0 + 20) → v_91.1 k j = v.1 k j) → (2147483647 - y91_6.toInt).toNat < n → ∀ (ls : Array Slot), lv_has ls 8 [(0, .ref (wq w k0)), (1, .int 7), (2, .ref (wq w (k0 + 10 + (1 + (7 : Int32).toNatClampNeg)))), (3, .ref (wq w (k0 + 10 + (1 + (8 : Int32).toNatClampNeg)))), (4, .long y91_4), (6, .int y91_6)] → W pg l en (rmL 6) s m ar bl me cd H lo 0 0 (Zl w bl ar s post) (F0 m 91 ls []) := by
    intro n
    induction n with
    | zero => intro H lo v_91 I y91_4 y91_6 hy91_6 rB91_Z hm; exact absurd hm (Nat.not_lt_zero _)
    | succ n ih_91 =>
      intro H lo v_91 I y91_4 y91_6 hy91_6 rB91_Z hm ls hl
      have B_195 : ∀ (H : Heap) (lo : List Loc) (v_195 : St), Wo w g s.heap v_195 H lo → ∀ (y195_4 : Int64), (0 ≤ y91_6.toInt ∧ y91_6.toInt ≤ 1) → (∀ k j : Nat, ¬ (k0 ≤ k ∧ k < k0 + 20) → v_195.1 k j = v.1 k j) → ∀ (ls : Array Slot), lv_has ls 8 [(0, .ref (wq w k0)), (1, .int 7), (2, .ref (wq w (k0 + 10 + (1 + (7 : Int32).toNatClampNeg)))), (3, .ref (wq w (k0 + 10 + (1 + (8 : Int32).toNatClampNeg)))), (4, .long y195_4), (6, .int y91_6)] → W pg l en (rmL 6) s m ar bl me cd H lo 0 0 (Zl w bl ar s post) (F0 m 195 ls []) := by
        intro H lo v_195 I y195_4 hE195_0 rB195_Z ls hl
        obtain ⟨x1, ex1⟩ : ∃ z : Int32, z = y91_6 + 1 := ⟨_, rfl⟩
        have hx1 : x1.toInt = y91_6.toInt + (1) := by rw [ex1]; exact adI (a := y91_6.toInt) (b := 1) rfl rfl (by omega) (by omega)
        refine lv_iinc (v := x1) (lv' := [(6, .int x1), (0, .ref (wq w k0)), (1, .int 7), (2, .ref (wq w (k0 + 10 + (1 + (7 : Int32).toNatClampNeg)))), (3, .ref (wq w (k0 + 10 + (1 + (8 : Int32).toNatClampNeg)))), (4, .long y195_4)]) hx hb dX1_weigh_195 hl (k := 5) rfl (by rw [ex1]; rfl) (by decide) rfl (fun ls hl => ?_)
        refine lv_goto (tgt := 91) hx hb dX1_weigh_198 (by decide) ?_
        exact ih_91 _ _ v_195 I y195_4 x1 (by omega) rB195_Z (by omega) ls (lv_sub hl [1, 2, 3, 4, 5, 0] rfl)
      have B_155 : ∀ (H : Heap) (lo : List Loc) (v_155 : St), Wo w g s.heap v_155 H lo → ∀ (y155_7 : Int32) (z155_1 : Int32) (z155_2 : Int32) (z155_3 : Int32), (1 ≤ y155_7.toInt) → (0 ≤ z155_3.toInt ∧ z155_3.toInt ≤ 1) → (0 ≤ y91_6.toInt ∧ y91_6.toInt ≤ 1) → (∀ k j : Nat, ¬ (k0 ≤ k ∧ k < k0 + 20) → v_155.1 k j = v.1 k j) → ∀ (ls : Array Slot), lv_has ls 8 [(0, .ref (wq w k0)), (1, .int 7), (2, .ref (wq w (k0 + 10 + (1 + (7 : Int32).toNatClampNeg)))), (3, .ref (wq w (k0 + 10 + (1 + (8 : Int32).toNatClampNeg)))), (4, .long y91_4), (6, .int y91_6), (7, .int y155_7)] → W pg l en (rmL 6) s m ar bl me cd H lo 0 0 (Zl w bl ar s post) (F0 m 155 ls [.int z155_3, .int z155_2, .int z155_1, .ref (wq w (k0 + 1))]) := by
        intro H lo v_155 I y155_7 z155_1 z155_2 z155_3 hy155_7 hz155_3 hE155_0 rB155_Z ls hl
        refine cNi E I (c_X7_withBit l w g v_155 z155_1 z155_2 z155_3 E.2.2.1 I.2.2   ) ⟨va_cnB 3 E.1.2.2.2.2 (gYs mw_2_230) rfl rfl rfl (E.2.2.2.1.2.2.2.2.2.2.2.2.2) (Ew E mw_1_1 rfl) (by decide +kernel) ⟨by decide, by decide⟩, Ew E mw_2_229 rfl, trivial⟩ rfl hl.1 rfl (Nat.le_of_ble_eq_true rfl) dX1_weigh_155 ⟨Nat.le_refl _, Nat.le_refl _⟩ (fun r2 u3 H lo hp hPS => ?_)
        obtain ⟨hp, hex, hfr⟩ := hp
        obtain ⟨hu, p4⟩ := hp
        rw [hu] at hPS
        have I : Wo w g s.heap v_155 H lo := ⟨hPS.1, hPS.2, I.2.2⟩
        refine p_Night_clouds E I h_k0.2.1.1 mw_1_106 dX1_weigh_158 (fun H lo I => ?_)
        generalize ev5 : up1 v_155 (k0 + 1) 11 r2 = v5 at I
        have rzv5 : ∀ k j : Nat, ¬ (k0 ≤ k ∧ k < k0 + 20) → v5.1 k j = v.1 k j := fun k j h => fz_u ev5 (by omega) (rB155_Z k j h)
        refine lv_aload_n hx hb dX1_weigh_161 rfl (lv_at hl 0 rfl) ?_
        refine g_Odds_night E I h_k0.1 mw_2_31 dX1_weigh_162 ?_
        refine lv_aload_n hx hb dX1_weigh_165 rfl (lv_at hl 3 rfl) ?_
        refine lv_aload_n hx hb dX1_weigh_166 rfl (lv_at hl 0 rfl) ?_
        refine g_Odds_night E I h_k0.1 mw_2_31 dX1_weigh_167 ?_
        refine g_Night_plannedAims E I h_k0.2.1.1 mw_1_117 dX1_weigh_170 ?_
        refine lv_iload_n hx hb dX1_weigh_173 rfl (lv_at hl 1 rfl) ?_
        refine ga_12 E I h_k0.2.1.2.2.2.2.2.2.1 (by decide) dX1_weigh_174 ?_
        refine lv_topi (fun x6 ex6 => ?_)
        refine cVi E I (c_X0_step l w g v5 (k0 + 1) (k0 + 10 + (1 + (8 : Int32).toNatClampNeg)) x6 E.2.2.1 I.2.2 h_k0.2.1 (h_k0.2.2.2 (8 : Int32).toNatClampNeg (by decide))  ) (cwV 2 E.1.2.2.2.2 (gWs (C := "StarWalk$Night") mw_4_61 mw_3_177 mw_3_178 mw_1_3 mw_3_179) rfl rfl rfl (by decide +kernel) ⟨by decide, by decide⟩) h_k0.2.1.1.1 ((ce_o h_k0.2.1.1.2).trans rfl) rfl rfl hl.1 rfl (Nat.le_of_ble_eq_true rfl) dX1_weigh_175 ⟨Nat.le_refl _, Nat.le_refl _⟩ (fun r7 u8 H lo hp hPS => ?_)
        obtain ⟨hp, hex, hfr⟩ := hp
        obtain ⟨hwf, p9⟩ := hp
        have I : Wo w g s.heap u8 H lo := ⟨hPS.1, hPS.2, hwf⟩
        have rzu8 : ∀ k j : Nat, ¬ (k0 ≤ k ∧ k < k0 + 20) → u8.1 k j = v.1 k j := fun k j h => (hfr k j (fun z => h (by have cl8 : (8 : Int32).toNatClampNeg = 8 := rfl; omega))).trans (rzv5 k j h)
        refine lv_pop hx hb dX1_weigh_178 rfl ?_
        refine lv_lload hx hb dX1_weigh_179 (lv_at hl 4 rfl) ?_
        refine lv_iload hx hb dX1_weigh_181 (lv_at hl 6 rfl) ?_
        refine lv_i2l (v := y155_7.toInt64) hx hb dX1_weigh_183 rfl ?_
        refine lv_aload_n hx hb dX1_weigh_184 rfl (lv_at hl 0 rfl) ?_
        refine lv_iload_n hx hb dX1_weigh_185 rfl (lv_at hl 1 rfl) ?_
        refine lv_iconst (v := 1) hx hb dX1_weigh_186 (by decide) ?_
        refine lv_iadd hx hb dX1_weigh_187 ?_
        refine lv_topi (fun x11 ex11 => ?_)
        obtain rfl : x11 = 8 := ex11.trans (by decide)
        refine cVl E I (c_X1_weigh_v8 l w g u8 k0 E.2.2.1 I.2.2 h_k0  ) (cwV 1 E.1.2.2.2.2 (gWs (C := "StarWalk$Odds") mw_4_51 mw_4_53 mw_s_24 mw_1_7 mw_4_54) rfl rfl rfl (by decide +kernel) ⟨by decide, by decide⟩) h_k0.1.1 ((ce_o h_k0.1.2).trans rfl) rfl rfl hl.1 rfl (Nat.le_of_ble_eq_true rfl) dX1_weigh_188 ⟨Nat.le_refl _, Nat.le_refl _⟩ (fun r12 u13 H lo hp hPS => ?_)
        obtain ⟨hp, hex, hfr⟩ := hp
        obtain ⟨hwf, p14⟩ := hp
        have I : Wo w g s.heap u13 H lo := ⟨hPS.1, hPS.2, hwf⟩
        have rzu13 : ∀ k j : Nat, ¬ (k0 ≤ k ∧ k < k0 + 20) → u13.1 k j = v.1 k j := fun k j h => (hfr k j (fun z => h (by omega))).trans (rzu8 k j h)
        refine lv_lmul hx hb dX1_weigh_191 ?_
        refine lv_topl (fun q15 eq15 => ?_)
        refine lv_ladd hx hb dX1_weigh_192 ?_
        refine lv_topl (fun q16 eq16 => ?_)
        refine lv_lstore (lv' := [(4, .long q16), (0, .ref (wq w k0)), (1, .int 7), (2, .ref (wq w (k0 + 10 + (1 + (7 : Int32).toNatClampNeg)))), (3, .ref (wq w (k0 + 10 + (1 + (8 : Int32).toNatClampNeg)))), (6, .int y91_6), (7, .int y155_7)]) hx hb dX1_weigh_193 hl (by decide) rfl (fun ls hl => ?_)
        exact B_195 _ _ u13 I q16 (by omega) rzu13 ls (lv_sub hl [1, 2, 3, 4, 0, 5] rfl)
      have B_117 : ∀ (H : Heap) (lo : List Loc) (v_117 : St), Wo w g s.heap v_117 H lo → ∀ (z117_0 : Int32), (0 ≤ y91_6.toInt ∧ y91_6.toInt ≤ 1) → (∀ k j : Nat, ¬ (k0 ≤ k ∧ k < k0 + 20) → v_117.1 k j = v.1 k j) → ∀ (ls : Array Slot), lv_has ls 8 [(0, .ref (wq w k0)), (1, .int 7), (2, .ref (wq w (k0 + 10 + (1 + (7 : Int32).toNatClampNeg)))), (3, .ref (wq w (k0 + 10 + (1 + (8 : Int32).toNatClampNeg)))), (4, .long y91_4), (6, .int y91_6)] → W pg l en (rmL 6) s m ar bl me cd H lo 0 0 (Zl w bl ar s post) (F0 m 117 ls [.int z117_0]) := by
        intro H lo v_117 I z117_0 hE117_0 rB117_Z ls hl
        refine lv_istore (lv' := [(7, .int z117_0), (0, .ref (wq w k0)), (1, .int 7), (2, .ref (wq w (k0 + 10 + (1 + (7 : Int32).toNatClampNeg)))), (3, .ref (wq w (k0 + 10 + (1 + (8 : Int32).toNatClampNeg)))), (4, .long y91_4), (6, .int y91_6)]) hx hb dX1_weigh_117 hl (by decide) rfl (fun ls hl => ?_)
        refine lv_iload hx hb dX1_weigh_119 (lv_at hl 0 rfl) ?_
        refine bz_le E (a := z117_0.toInt) rfl (tgt := 195) dX1_weigh_121 (by decide) (fun c17 => ?_) (fun c17 => ?_)
        ·
          exact B_195 _ _ v_117 I y91_4 (by omega) rB117_Z ls (lv_sub hl [1, 2, 3, 4, 5, 6] rfl)
        ·
          refine lv_aload_n hx hb dX1_weigh_124 rfl (lv_at hl 4 rfl) ?_
          refine lv_aload_n hx hb dX1_weigh_125 rfl (lv_at hl 3 rfl) ?_
          refine cVv E I (c_X2_become l w g v_117 (k0 + 10 + (1 + (8 : Int32).toNatClampNeg)) (k0 + 10 + (1 + (7 : Int32).toNatClampNeg)) E.2.2.1 I.2.2 (h_k0.2.2.2 (8 : Int32).toNatClampNeg (by decide)) (h_k0.2.2.2 (7 : Int32).toNatClampNeg (by decide))  ) (cwV 1 E.1.2.2.2.2 (gWs (C := "StarWalk$Place") mw_4_50 mw_3_61 mw_3_62 mw_1_4 mw_3_63) rfl rfl rfl (by decide +kernel) ⟨by decide, by decide⟩) (h_k0.2.2.2 (8 : Int32).toNatClampNeg (by decide)).1 ((ce_o (h_k0.2.2.2 (8 : Int32).toNatClampNeg (by decide)).2).trans rfl) rfl rfl hl.1 rfl (Nat.le_of_ble_eq_true rfl) dX1_weigh_126 ⟨Nat.le_refl _, Nat.le_refl _⟩ (fun u18 H lo hp hPS => ?_)
          obtain ⟨hp, hex, hfr⟩ := hp
          obtain ⟨hwf, p19⟩ := hp
          have I : Wo w g s.heap u18 H lo := ⟨hPS.1, hPS.2, hwf⟩
          have rzu18 : ∀ k j : Nat, ¬ (k0 ≤ k ∧ k < k0 + 20) → u18.1 k j = v.1 k j := fun k j h => (hfr k j (fun z => h (by have cl7 : (7 : Int32).toNatClampNeg = 7 := rfl; have cl8 : (8 : Int32).toNatClampNeg = 8 := rfl; omega))).trans (rB117_Z k j h)
          refine lv_aload_n hx hb dX1_weigh_129 rfl (lv_at hl 1 rfl) ?_
          refine g_Odds_night E I h_k0.1 mw_2_31 dX1_weigh_130 ?_
          refine lv_aload_n hx hb dX1_weigh_133 rfl (lv_at hl 1 rfl) ?_
          refine g_Odds_night E I h_k0.1 mw_2_31 dX1_weigh_134 ?_
          refine g_Night_clouds E I h_k0.2.1.1 mw_1_106 dX1_weigh_137 ?_
          refine lv_topi (fun x20 ex20 => ?_)
          refine lv_aload_n hx hb dX1_weigh_140 rfl (lv_at hl 3 rfl) ?_
          refine g_Place_hour E I (h_k0.2.2.2 (7 : Int32).toNatClampNeg (by decide)) mw_1_46 dX1_weigh_141 ?_
          refine lv_topi (fun x21 ex21 => ?_)
          refine lv_iload hx hb dX1_weigh_144 (lv_at hl 6 rfl) ?_
          refine lv_iconst (v := 1) hx hb dX1_weigh_146 (by decide) ?_
          refine bi_ne E (a := y91_6.toInt) (b := 1) rfl rfl (tgt := 154) dX1_weigh_147 (by decide) (fun c22 => ?_) (fun c22 => ?_)
          ·
            refine lv_iconst (v := 0) hx hb dX1_weigh_154 (by decide) ?_
            exact B_155 _ _ u18 I z117_0 x20 x21 (0 : Int32) (by omega) (by decide) (by omega) rzu18 ls (lv_sub hl [1, 2, 3, 4, 5, 6, 0] rfl)
          ·
            refine lv_iconst (v := 1) hx hb dX1_weigh_150 (by decide) ?_
            refine lv_goto (tgt := 155) hx hb dX1_weigh_151 (by decide) ?_
            exact B_155 _ _ u18 I z117_0 x20 x21 (1 : Int32) (by omega) (by decide) (by omega) rzu18 ls (lv_sub hl [1, 2, 3, 4, 5, 6, 0] rfl)
      refine lv_iload hx hb dX1_weigh_91 (lv_at hl 5 rfl) ?_
      refine lv_iconst (v := 1) hx hb dX1_weigh_93 (by decide) ?_
      refine bi_gt E (a := y91_6.toInt) (b := 1) rfl rfl (tgt := 201) dX1_weigh_94 (by decide) (fun c23 => ?_) (fun c23 => ?_)
      ·
        refine lv_lload hx hb dX1_weigh_201 (lv_at hl 4 rfl) ?_
        exact rL E I hr hlk (by rw [← hpost]; exact ⟨⟨I.2.2, trivial⟩, trivial, rB91_Z⟩) dX1_weigh_203
      ·
        refine lv_iload hx hb dX1_weigh_97 (lv_at hl 5 rfl) ?_
        refine lv_iconst (v := 1) hx hb dX1_weigh_99 (by decide) ?_
        refine bi_ne E (a := y91_6.toInt) (b := 1) rfl rfl (tgt := 110) dX1_weigh_100 (by decide) (fun c24 => ?_) (fun c24 => ?_)
        ·
          refine lv_bipush (v := 10) hx hb dX1_weigh_110 (by decide) ?_
          refine lv_aload_n hx hb dX1_weigh_112 rfl (lv_at hl 0 rfl) ?_
          refine g_Odds_tenths E I h_k0.1 mw_2_33 dX1_weigh_113 ?_
          refine lv_topi (fun x25 ex25 => ?_)
          refine lv_isub hx hb dX1_weigh_116 ?_
          refine lv_topi (fun x26 ex26 => ?_)
          exact B_117 _ _ v_91 I x26 (by omega) rB91_Z ls (lv_sub hl [0, 1, 2, 3, 4, 5] rfl)
        ·
          refine lv_aload_n hx hb dX1_weigh_103 rfl (lv_at hl 0 rfl) ?_
          refine g_Odds_tenths E I h_k0.1 mw_2_33 dX1_weigh_104 ?_
          refine lv_topi (fun x27 ex27 => ?_)
          refine lv_goto (tgt := 117) hx hb dX1_weigh_107 (by decide) ?_
          exact B_117 _ _ v_91 I x27 (by omega) rB91_Z ls (lv_sub hl [0, 1, 2, 3, 4, 5] rfl)
  have B_24 : ∀ (H : Heap) (lo : List Loc), Wo w g s.heap v H lo → (∀ k j : Nat, ¬ (k0 ≤ k ∧ k < k0 + 20) → v.1 k j = v.1 k j) → ∀ (ls : Array Slot), lv_has ls 8 [(0, .ref (wq w k0)), (2, .ref (wq w (k0 + 10 + (1 + (7 : Int32).toNatClampNeg))))] → W pg l en (rmL 6) s m ar bl me cd H lo 0 0 (Zl w bl ar s post) (F0 m 24 ls []) := by
    intro H lo  I  rB24_Z ls hl
    refine lv_aload_n hx hb dX1_weigh_24 rfl (lv_at hl 0 rfl) ?_
    refine g_Odds_ofMiles E I h_k0.1 mw_2_34 dX1_weigh_25 ?_
    refine lv_topi (fun x28 ex28 => ?_)
    refine bz_eq E (a := x28.toInt) rfl (tgt := 39) dX1_weigh_28 (by decide) (fun c29 => ?_) (fun c29 => ?_)
    ·
      refine lv_aload_n hx hb dX1_weigh_39 rfl (lv_at hl 0 rfl) ?_
      refine g_Odds_night E I h_k0.1 mw_2_31 dX1_weigh_40 ?_
      refine lv_aload_n hx hb dX1_weigh_43 rfl (lv_at hl 1 rfl) ?_
      refine cVi E I (c_X0_isAtWell l w g v (k0 + 1) (k0 + 10 + (1 + (7 : Int32).toNatClampNeg)) E.2.2.1 I.2.2 h_k0.2.1 (h_k0.2.2.2 (7 : Int32).toNatClampNeg (by decide))  ) (cwV 1 E.1.2.2.2.2 (gWs (C := "StarWalk$Night") mw_4_56 mw_3_76 mw_3_77 mw_1_3 mw_3_78) rfl rfl rfl (by decide +kernel) ⟨by decide, by decide⟩) h_k0.2.1.1.1 ((ce_o h_k0.2.1.1.2).trans rfl) rfl rfl hl.1 rfl (Nat.le_of_ble_eq_true rfl) dX1_weigh_44 ⟨Nat.le_refl _, Nat.le_refl _⟩ (fun r30 u31 H lo hp hPS => ?_)
      obtain ⟨hp, hex, hfr⟩ := hp
      obtain ⟨hu, p32⟩ := hp
      rw [hu] at hPS
      have I : Wo w g s.heap v H lo := ⟨hPS.1, hPS.2, I.2.2⟩
      refine cNi E I (c_X7_oneIf l w g v r30 E.2.2.1 I.2.2   ) ⟨va_cnB 1 E.1.2.2.2.2 (gYs mw_3_88) rfl rfl rfl (E.2.2.2.1.2.2.2.2.2.2.2.2.1) (Ew E mw_1_1 rfl) (by decide +kernel) ⟨by decide, by decide⟩, Ew E mw_3_87 rfl, trivial⟩ rfl hl.1 rfl (Nat.le_of_ble_eq_true rfl) dX1_weigh_47 ⟨Nat.le_refl _, Nat.le_refl _⟩ (fun r33 u34 H lo hp hPS => ?_)
      obtain ⟨hp, hex, hfr⟩ := hp
      obtain ⟨hu, p35⟩ := hp
      rw [hu] at hPS
      have I : Wo w g s.heap v H lo := ⟨hPS.1, hPS.2, I.2.2⟩
      refine lv_i2l (v := r33.toInt64) hx hb dX1_weigh_50 rfl ?_
      exact rL E I hr hlk (by rw [← hpost]; exact ⟨⟨I.2.2, trivial⟩, trivial, rB24_Z⟩) dX1_weigh_51
    ·
      refine lv_aload_n hx hb dX1_weigh_31 rfl (lv_at hl 1 rfl) ?_
      refine g_Place_miles E I (h_k0.2.2.2 (7 : Int32).toNatClampNeg (by decide)) mw_1_50 dX1_weigh_32 ?_
      refine lv_topi (fun x37 ex37 => ?_)
      refine lv_i2l (v := x37.toInt64) hx hb dX1_weigh_35 rfl ?_
      refine lv_goto (tgt := 51) hx hb dX1_weigh_36 (by decide) ?_
      exact rL E I hr hlk (by rw [← hpost]; exact ⟨⟨I.2.2, trivial⟩, trivial, rB24_Z⟩) dX1_weigh_51
  refine lv_aload_n hx hb dX1_weigh_0 rfl (lv_at hl 0 rfl) ?_
  refine g_Odds_places E I h_k0.1 mw_2_32 dX1_weigh_1 ?_
  refine lv_iload_n hx hb dX1_weigh_4 rfl (lv_at hl 1 rfl) ?_
  refine ga_22 E I h_k0.2.2.1 (by decide) dX1_weigh_5 ?_
  refine lv_astore_n (lv' := [(2, .ref (wq w (k0 + 10 + (1 + (7 : Int32).toNatClampNeg)))), (0, .ref (wq w k0)), (1, .int 7)]) hx hb dX1_weigh_6 rfl hl (by decide) rfl (fun ls hl => ?_)
  refine lv_iload_n hx hb dX1_weigh_7 rfl (lv_at hl 2 rfl) ?_
  refine lv_bipush (v := 8) hx hb dX1_weigh_8 (by decide) ?_
  refine bi_ge E (a := 7) (b := 8) rfl rfl (tgt := 24) dX1_weigh_10 (by decide) (fun c39 => ?_) (fun c39 => ?_)
  ·
    exfalso; omega
  ·
    refine lv_aload_n hx hb dX1_weigh_13 rfl (lv_at hl 1 rfl) ?_
    refine g_Odds_night E I h_k0.1 mw_2_31 dX1_weigh_14 ?_
    refine lv_iload_n hx hb dX1_weigh_17 rfl (lv_at hl 2 rfl) ?_
    refine cVi E I (c_X0_hasPlanned l w g v (k0 + 1) (7 : Int32) E.2.2.1 I.2.2 h_k0.2.1  ) (cwV 1 E.1.2.2.2.2 (gWs (C := "StarWalk$Night") mw_4_55 mw_3_45 mw_3_46 mw_1_3 mw_3_47) rfl rfl rfl (by decide +kernel) ⟨by decide, by decide⟩) h_k0.2.1.1.1 ((ce_o h_k0.2.1.1.2).trans rfl) rfl rfl hl.1 rfl (Nat.le_of_ble_eq_true rfl) dX1_weigh_18 ⟨Nat.le_refl _, Nat.le_refl _⟩ (fun r40 u41 H lo hp hPS => ?_)
    have iz42 : (7 : Int32).toInt = 7 := rfl
    obtain ⟨hp, hex, hfr⟩ := hp
    obtain ⟨hu, p43⟩ := hp
    rw [hu] at hPS
    have I : Wo w g s.heap v H lo := ⟨hPS.1, hPS.2, I.2.2⟩
    refine bz_ne E (a := r40.toInt) rfl (tgt := 52) dX1_weigh_21 (by decide) (fun c44 => ?_) (fun c44 => ?_)
    ·
      refine lv_aload_n hx hb dX1_weigh_52 rfl (lv_at hl 1 rfl) ?_
      refine g_Odds_places E I h_k0.1 mw_2_32 dX1_weigh_53 ?_
      refine lv_iload_n hx hb dX1_weigh_56 rfl (lv_at hl 2 rfl) ?_
      refine lv_iconst (v := 1) hx hb dX1_weigh_57 (by decide) ?_
      refine lv_iadd hx hb dX1_weigh_58 ?_
      refine lv_topi (fun x45 ex45 => ?_)
      obtain rfl : x45 = 8 := ex45.trans (by decide)
      refine ga_22 E I h_k0.2.2.1 (by decide) dX1_weigh_59 ?_
      refine lv_astore_n (lv' := [(3, .ref (wq w (k0 + 10 + (1 + (8 : Int32).toNatClampNeg)))), (2, .ref (wq w (k0 + 10 + (1 + (7 : Int32).toNatClampNeg)))), (0, .ref (wq w k0)), (1, .int 7)]) hx hb dX1_weigh_60 rfl hl (by decide) rfl (fun ls hl => ?_)
      refine lv_aload_n hx hb dX1_weigh_61 rfl (lv_at hl 1 rfl) ?_
      refine cVi E I (c_X2_canStep l w g v (k0 + 10 + (1 + (7 : Int32).toNatClampNeg)) E.2.2.1 I.2.2 (h_k0.2.2.2 (7 : Int32).toNatClampNeg (by decide))  ) (cwV 0 E.1.2.2.2.2 (gWs (C := "StarWalk$Place") mw_4_58 mw_3_182 mw_3_183 mw_1_4 mw_3_184) rfl rfl rfl (by decide +kernel) ⟨by decide, by decide⟩) (h_k0.2.2.2 (7 : Int32).toNatClampNeg (by decide)).1 ((ce_o (h_k0.2.2.2 (7 : Int32).toNatClampNeg (by decide)).2).trans rfl) rfl rfl hl.1 rfl (Nat.le_of_ble_eq_true rfl) dX1_weigh_62 ⟨Nat.le_refl _, Nat.le_refl _⟩ (fun r46 u47 H lo hp hPS => ?_)
      obtain ⟨hp, hex, hfr⟩ := hp
      obtain ⟨hu, p48⟩ := hp
      rw [hu] at hPS
      have I : Wo w g s.heap v H lo := ⟨hPS.1, hPS.2, I.2.2⟩
      refine bz_ne E (a := r46.toInt) rfl (tgt := 85) dX1_weigh_65 (by decide) (fun c49 => ?_) (fun c49 => ?_)
      ·
        refine lv_lconst (v := 0) hx hb dX1_weigh_85 (by decide) ?_
        refine lv_lstore (lv' := [(4, .long (0 : Int64)), (3, .ref (wq w (k0 + 10 + (1 + (8 : Int32).toNatClampNeg)))), (2, .ref (wq w (k0 + 10 + (1 + (7 : Int32).toNatClampNeg)))), (0, .ref (wq w k0)), (1, .int 7)]) hx hb dX1_weigh_86 hl (by decide) rfl (fun ls hl => ?_)
        refine lv_iconst (v := 0) hx hb dX1_weigh_88 (by decide) ?_
        refine lv_istore (lv' := [(6, .int 0), (4, .long (0 : Int64)), (3, .ref (wq w (k0 + 10 + (1 + (8 : Int32).toNatClampNeg)))), (2, .ref (wq w (k0 + 10 + (1 + (7 : Int32).toNatClampNeg)))), (0, .ref (wq w k0)), (1, .int 7)]) hx hb dX1_weigh_89 hl (by decide) rfl (fun ls hl => ?_)
        exact L_91 ((2147483647 - (0 : Int32).toInt).toNat + 1) _ _ v I (0 : Int64) (0 : Int32) (by decide) rz0 (Nat.lt_succ_self _) ls (lv_sub hl [4, 5, 3, 2, 1, 0] rfl)
      ·
        refine lv_aload_n hx hb dX1_weigh_68 rfl (lv_at hl 0 rfl) ?_
        refine lv_aload_n hx hb dX1_weigh_69 rfl (lv_at hl 1 rfl) ?_
        refine cVv E I (c_X2_become l w g v (k0 + 10 + (1 + (8 : Int32).toNatClampNeg)) (k0 + 10 + (1 + (7 : Int32).toNatClampNeg)) E.2.2.1 I.2.2 (h_k0.2.2.2 (8 : Int32).toNatClampNeg (by decide)) (h_k0.2.2.2 (7 : Int32).toNatClampNeg (by decide))  ) (cwV 1 E.1.2.2.2.2 (gWs (C := "StarWalk$Place") mw_4_50 mw_3_61 mw_3_62 mw_1_4 mw_3_63) rfl rfl rfl (by decide +kernel) ⟨by decide, by decide⟩) (h_k0.2.2.2 (8 : Int32).toNatClampNeg (by decide)).1 ((ce_o (h_k0.2.2.2 (8 : Int32).toNatClampNeg (by decide)).2).trans rfl) rfl rfl hl.1 rfl (Nat.le_of_ble_eq_true rfl) dX1_weigh_70 ⟨Nat.le_refl _, Nat.le_refl _⟩ (fun u50 H lo hp hPS => ?_)
        obtain ⟨hp, hex, hfr⟩ := hp
        obtain ⟨hwf, p51⟩ := hp
        have I : Wo w g s.heap u50 H lo := ⟨hPS.1, hPS.2, hwf⟩
        have rzu50 : ∀ k j : Nat, ¬ (k0 ≤ k ∧ k < k0 + 20) → u50.1 k j = v.1 k j := fun k j h => (hfr k j (fun z => h (by have cl7 : (7 : Int32).toNatClampNeg = 7 := rfl; have cl8 : (8 : Int32).toNatClampNeg = 8 := rfl; omega))).trans (rz0 k j h)
        refine lv_ldc2 (own := "StarWalk$Odds") hx hb E.1.2.2.2.1 (Ew E mw_4_59 rfl) dX1_weigh_73 ?_
        refine lv_aload_n hx hb dX1_weigh_76 rfl (lv_at hl 2 rfl) ?_
        refine lv_iload_n hx hb dX1_weigh_77 rfl (lv_at hl 3 rfl) ?_
        refine lv_iconst (v := 1) hx hb dX1_weigh_78 (by decide) ?_
        refine lv_iadd hx hb dX1_weigh_79 ?_
        refine lv_topi (fun x52 ex52 => ?_)
        obtain rfl : x52 = 8 := ex52.trans (by decide)
        refine cVl E I (c_X1_weigh_v8 l w g u50 k0 E.2.2.1 I.2.2 h_k0  ) (cwV 1 E.1.2.2.2.2 (gWs (C := "StarWalk$Odds") mw_4_51 mw_4_53 mw_s_24 mw_1_7 mw_4_54) rfl rfl rfl (by decide +kernel) ⟨by decide, by decide⟩) h_k0.1.1 ((ce_o h_k0.1.2).trans rfl) rfl rfl hl.1 rfl (Nat.le_of_ble_eq_true rfl) dX1_weigh_80 ⟨Nat.le_refl _, Nat.le_refl _⟩ (fun r53 u54 H lo hp hPS => ?_)
        obtain ⟨hp, hex, hfr⟩ := hp
        obtain ⟨hwf, p55⟩ := hp
        have I : Wo w g s.heap u54 H lo := ⟨hPS.1, hPS.2, hwf⟩
        have rzu54 : ∀ k j : Nat, ¬ (k0 ≤ k ∧ k < k0 + 20) → u54.1 k j = v.1 k j := fun k j h => (hfr k j (fun z => h (by omega))).trans (rzu50 k j h)
        refine lv_lmul hx hb dX1_weigh_83 ?_
        refine lv_topl (fun q56 eq56 => ?_)
        exact rL E I hr hlk (by rw [← hpost]; exact ⟨⟨I.2.2, trivial⟩, trivial, rzu54⟩) dX1_weigh_84
    ·
      exact B_24 _ _ I  rz0 ls (lv_sub hl [1, 0] rfl)
set_option maxHeartbeats 4000000 in
set_option maxRecDepth 100000 in
theorem c_X1_weigh_v6 (l : Launch) (w : Wp) (g : Nat → Nat → Int32) (v : St) (k0 : Nat) (hq : Inj w) (hw : WF (wk w) g v) (h_k0 : oO w k0) : CTl w l yX1_weigh (wsy yX1_weigh prog_3_method_3_code 8 (some .long)) (rmL 7) [.ref (wq w k0), .int 6] v (fun (r : Int64) (u : St) => (WF (wk w) g u ∧ True) ∧ (True) ∧ (∀ k j : Nat, ¬ (k0 ≤ k ∧ k < k0 + 20) → u.1 k j = v.1 k j)) := by
  generalize hpost : (fun (r : Int64) (u : St) => (WF (wk w) g u ∧ True) ∧ (True) ∧ (∀ k j : Nat, ¬ (k0 ≤ k ∧ k < k0 + 20) → u.1 k j = v.1 k j)) = post
  refine CTl.of prog_3_method_3_code 8 (some .long) "StarWalk$Odds" (by decide +kernel) rfl hq hw (Nat.le_of_ble_eq_true rfl) ?_
  intro pg en s m ar bl me cd ls E I hr hlk hl
  have hx := E.1.1
  have hb := E.1.2.1
  have hl : lv_has ls 8 [(0, .ref (wq w k0)), (1, .int 6)] := hl
  have rz0 : ∀ k j : Nat, ¬ (k0 ≤ k ∧ k < k0 + 20) → v.1 k j = v.1 k j := fun _ _ _ => rfl
  have L_91 : ∀ (n : Nat), ∀ (H : Heap) (lo : List Loc) (v_91 : St), Wo w g s.heap v_91 H lo → ∀ (y91_4 : Int64) (y91_6 : Int32), (0 ≤ y91_6.toInt ∧ y91_6.toInt ≤ 2) → (∀ k j : Nat, ¬ (k0 ≤ k ∧ k < k0 + 20) → v_91.1 k j = v.1 k j) → (2147483647 - y91_6.toInt).toNat < n → ∀ (ls : Array Slot), lv_has ls 8 [(0, .ref (wq w k0)), (1, .int 6), (2, .ref (wq w (k0 + 10 + (1 + (6 : Int32).toNatClampNeg)))), (3, .ref (wq w (k0 + 10 + (1 + (7 : Int32).toNatClampNeg)))), (4, .long y91_4), (6, .int y91_6)] → W pg l en (rmL 7) s m ar bl me cd H lo 0 0 (Zl w bl ar s post) (F0 m 91 ls []) := by
    intro n
    induction n with
    | zero => intro H lo v_91 I y91_4 y91_6 hy91_6 rB91_Z hm; exact absurd hm (Nat.not_lt_zero _)
    | succ n ih_91 =>
      intro H lo v_91 I y91_4 y91_6 hy91_6 rB91_Z hm ls hl
      have B_195 : ∀ (H : Heap) (lo : List Loc) (v_195 : St), Wo w g s.heap v_195 H lo → ∀ (y195_4 : Int64), (0 ≤ y91_6.toInt ∧ y91_6.toInt ≤ 1) → (∀ k j : Nat, ¬ (k0 ≤ k ∧ k < k0 + 20) → v_195.1 k j = v.1 k j) → ∀ (ls : Array Slot), lv_has ls 8 [(0, .ref (wq w k0)), (1, .int 6), (2, .ref (wq w (k0 + 10 + (1 + (6 : Int32).toNatClampNeg)))), (3, .ref (wq w (k0 + 10 + (1 + (7 : Int32).toNatClampNeg)))), (4, .long y195_4), (6, .int y91_6)] → W pg l en (rmL 7) s m ar bl me cd H lo 0 0 (Zl w bl ar s post) (F0 m 195 ls []) := by
        intro H lo v_195 I y195_4 hE195_0 rB195_Z ls hl
        obtain ⟨x1, ex1⟩ : ∃ z : Int32, z = y91_6 + 1 := ⟨_, rfl⟩
        have hx1 : x1.toInt = y91_6.toInt + (1) := by rw [ex1]; exact adI (a := y91_6.toInt) (b := 1) rfl rfl (by omega) (by omega)
        refine lv_iinc (v := x1) (lv' := [(6, .int x1), (0, .ref (wq w k0)), (1, .int 6), (2, .ref (wq w (k0 + 10 + (1 + (6 : Int32).toNatClampNeg)))), (3, .ref (wq w (k0 + 10 + (1 + (7 : Int32).toNatClampNeg)))), (4, .long y195_4)]) hx hb dX1_weigh_195 hl (k := 5) rfl (by rw [ex1]; rfl) (by decide) rfl (fun ls hl => ?_)
        refine lv_goto (tgt := 91) hx hb dX1_weigh_198 (by decide) ?_
        exact ih_91 _ _ v_195 I y195_4 x1 (by omega) rB195_Z (by omega) ls (lv_sub hl [1, 2, 3, 4, 5, 0] rfl)
      have B_155 : ∀ (H : Heap) (lo : List Loc) (v_155 : St), Wo w g s.heap v_155 H lo → ∀ (y155_7 : Int32) (z155_1 : Int32) (z155_2 : Int32) (z155_3 : Int32), (1 ≤ y155_7.toInt) → (0 ≤ z155_3.toInt ∧ z155_3.toInt ≤ 1) → (0 ≤ y91_6.toInt ∧ y91_6.toInt ≤ 1) → (∀ k j : Nat, ¬ (k0 ≤ k ∧ k < k0 + 20) → v_155.1 k j = v.1 k j) → ∀ (ls : Array Slot), lv_has ls 8 [(0, .ref (wq w k0)), (1, .int 6), (2, .ref (wq w (k0 + 10 + (1 + (6 : Int32).toNatClampNeg)))), (3, .ref (wq w (k0 + 10 + (1 + (7 : Int32).toNatClampNeg)))), (4, .long y91_4), (6, .int y91_6), (7, .int y155_7)] → W pg l en (rmL 7) s m ar bl me cd H lo 0 0 (Zl w bl ar s post) (F0 m 155 ls [.int z155_3, .int z155_2, .int z155_1, .ref (wq w (k0 + 1))]) := by
        intro H lo v_155 I y155_7 z155_1 z155_2 z155_3 hy155_7 hz155_3 hE155_0 rB155_Z ls hl
        refine cNi E I (c_X7_withBit l w g v_155 z155_1 z155_2 z155_3 E.2.2.1 I.2.2   ) ⟨va_cnB 3 E.1.2.2.2.2 (gYs mw_2_230) rfl rfl rfl (E.2.2.2.1.2.2.2.2.2.2.2.2.2) (Ew E mw_1_1 rfl) (by decide +kernel) ⟨by decide, by decide⟩, Ew E mw_2_229 rfl, trivial⟩ rfl hl.1 rfl (Nat.le_of_ble_eq_true rfl) dX1_weigh_155 ⟨Nat.le_refl _, Nat.le_refl _⟩ (fun r2 u3 H lo hp hPS => ?_)
        obtain ⟨hp, hex, hfr⟩ := hp
        obtain ⟨hu, p4⟩ := hp
        rw [hu] at hPS
        have I : Wo w g s.heap v_155 H lo := ⟨hPS.1, hPS.2, I.2.2⟩
        refine p_Night_clouds E I h_k0.2.1.1 mw_1_106 dX1_weigh_158 (fun H lo I => ?_)
        generalize ev5 : up1 v_155 (k0 + 1) 11 r2 = v5 at I
        have rzv5 : ∀ k j : Nat, ¬ (k0 ≤ k ∧ k < k0 + 20) → v5.1 k j = v.1 k j := fun k j h => fz_u ev5 (by omega) (rB155_Z k j h)
        refine lv_aload_n hx hb dX1_weigh_161 rfl (lv_at hl 0 rfl) ?_
        refine g_Odds_night E I h_k0.1 mw_2_31 dX1_weigh_162 ?_
        refine lv_aload_n hx hb dX1_weigh_165 rfl (lv_at hl 3 rfl) ?_
        refine lv_aload_n hx hb dX1_weigh_166 rfl (lv_at hl 0 rfl) ?_
        refine g_Odds_night E I h_k0.1 mw_2_31 dX1_weigh_167 ?_
        refine g_Night_plannedAims E I h_k0.2.1.1 mw_1_117 dX1_weigh_170 ?_
        refine lv_iload_n hx hb dX1_weigh_173 rfl (lv_at hl 1 rfl) ?_
        refine ga_12 E I h_k0.2.1.2.2.2.2.2.2.1 (by decide) dX1_weigh_174 ?_
        refine lv_topi (fun x6 ex6 => ?_)
        refine cVi E I (c_X0_step l w g v5 (k0 + 1) (k0 + 10 + (1 + (7 : Int32).toNatClampNeg)) x6 E.2.2.1 I.2.2 h_k0.2.1 (h_k0.2.2.2 (7 : Int32).toNatClampNeg (by decide))  ) (cwV 2 E.1.2.2.2.2 (gWs (C := "StarWalk$Night") mw_4_61 mw_3_177 mw_3_178 mw_1_3 mw_3_179) rfl rfl rfl (by decide +kernel) ⟨by decide, by decide⟩) h_k0.2.1.1.1 ((ce_o h_k0.2.1.1.2).trans rfl) rfl rfl hl.1 rfl (Nat.le_of_ble_eq_true rfl) dX1_weigh_175 ⟨Nat.le_refl _, Nat.le_refl _⟩ (fun r7 u8 H lo hp hPS => ?_)
        obtain ⟨hp, hex, hfr⟩ := hp
        obtain ⟨hwf, p9⟩ := hp
        have I : Wo w g s.heap u8 H lo := ⟨hPS.1, hPS.2, hwf⟩
        have rzu8 : ∀ k j : Nat, ¬ (k0 ≤ k ∧ k < k0 + 20) → u8.1 k j = v.1 k j := fun k j h => (hfr k j (fun z => h (by have cl7 : (7 : Int32).toNatClampNeg = 7 := rfl; omega))).trans (rzv5 k j h)
        refine lv_pop hx hb dX1_weigh_178 rfl ?_
        refine lv_lload hx hb dX1_weigh_179 (lv_at hl 4 rfl) ?_
        refine lv_iload hx hb dX1_weigh_181 (lv_at hl 6 rfl) ?_
        refine lv_i2l (v := y155_7.toInt64) hx hb dX1_weigh_183 rfl ?_
        refine lv_aload_n hx hb dX1_weigh_184 rfl (lv_at hl 0 rfl) ?_
        refine lv_iload_n hx hb dX1_weigh_185 rfl (lv_at hl 1 rfl) ?_
        refine lv_iconst (v := 1) hx hb dX1_weigh_186 (by decide) ?_
        refine lv_iadd hx hb dX1_weigh_187 ?_
        refine lv_topi (fun x11 ex11 => ?_)
        obtain rfl : x11 = 7 := ex11.trans (by decide)
        refine cVl E I (c_X1_weigh_v7 l w g u8 k0 E.2.2.1 I.2.2 h_k0  ) (cwV 1 E.1.2.2.2.2 (gWs (C := "StarWalk$Odds") mw_4_51 mw_4_53 mw_s_24 mw_1_7 mw_4_54) rfl rfl rfl (by decide +kernel) ⟨by decide, by decide⟩) h_k0.1.1 ((ce_o h_k0.1.2).trans rfl) rfl rfl hl.1 rfl (Nat.le_of_ble_eq_true rfl) dX1_weigh_188 ⟨Nat.le_refl _, Nat.le_refl _⟩ (fun r12 u13 H lo hp hPS => ?_)
        obtain ⟨hp, hex, hfr⟩ := hp
        obtain ⟨hwf, p14⟩ := hp
        have I : Wo w g s.heap u13 H lo := ⟨hPS.1, hPS.2, hwf⟩
        have rzu13 : ∀ k j : Nat, ¬ (k0 ≤ k ∧ k < k0 + 20) → u13.1 k j = v.1 k j := fun k j h => (hfr k j (fun z => h (by omega))).trans (rzu8 k j h)
        refine lv_lmul hx hb dX1_weigh_191 ?_
        refine lv_topl (fun q15 eq15 => ?_)
        refine lv_ladd hx hb dX1_weigh_192 ?_
        refine lv_topl (fun q16 eq16 => ?_)
        refine lv_lstore (lv' := [(4, .long q16), (0, .ref (wq w k0)), (1, .int 6), (2, .ref (wq w (k0 + 10 + (1 + (6 : Int32).toNatClampNeg)))), (3, .ref (wq w (k0 + 10 + (1 + (7 : Int32).toNatClampNeg)))), (6, .int y91_6), (7, .int y155_7)]) hx hb dX1_weigh_193 hl (by decide) rfl (fun ls hl => ?_)
        exact B_195 _ _ u13 I q16 (by omega) rzu13 ls (lv_sub hl [1, 2, 3, 4, 0, 5] rfl)
      have B_117 : ∀ (H : Heap) (lo : List Loc) (v_117 : St), Wo w g s.heap v_117 H lo → ∀ (z117_0 : Int32), (0 ≤ y91_6.toInt ∧ y91_6.toInt ≤ 1) → (∀ k j : Nat, ¬ (k0 ≤ k ∧ k < k0 + 20) → v_117.1 k j = v.1 k j) → ∀ (ls : Array Slot), lv_has ls 8 [(0, .ref (wq w k0)), (1, .int 6), (2, .ref (wq w (k0 + 10 + (1 + (6 : Int32).toNatClampNeg)))), (3, .ref (wq w (k0 + 10 + (1 + (7 : Int32).toNatClampNeg)))), (4, .long y91_4), (6, .int y91_6)] → W pg l en (rmL 7) s m ar bl me cd H lo 0 0 (Zl w bl ar s post) (F0 m 117 ls [.int z117_0]) := by
        intro H lo v_117 I z117_0 hE117_0 rB117_Z ls hl
        refine lv_istore (lv' := [(7, .int z117_0), (0, .ref (wq w k0)), (1, .int 6), (2, .ref (wq w (k0 + 10 + (1 + (6 : Int32).toNatClampNeg)))), (3, .ref (wq w (k0 + 10 + (1 + (7 : Int32).toNatClampNeg)))), (4, .long y91_4), (6, .int y91_6)]) hx hb dX1_weigh_117 hl (by decide) rfl (fun ls hl => ?_)
        refine lv_iload hx hb dX1_weigh_119 (lv_at hl 0 rfl) ?_
        refine bz_le E (a := z117_0.toInt) rfl (tgt := 195) dX1_weigh_121 (by decide) (fun c17 => ?_) (fun c17 => ?_)
        ·
          exact B_195 _ _ v_117 I y91_4 (by omega) rB117_Z ls (lv_sub hl [1, 2, 3, 4, 5, 6] rfl)
        ·
          refine lv_aload_n hx hb dX1_weigh_124 rfl (lv_at hl 4 rfl) ?_
          refine lv_aload_n hx hb dX1_weigh_125 rfl (lv_at hl 3 rfl) ?_
          refine cVv E I (c_X2_become l w g v_117 (k0 + 10 + (1 + (7 : Int32).toNatClampNeg)) (k0 + 10 + (1 + (6 : Int32).toNatClampNeg)) E.2.2.1 I.2.2 (h_k0.2.2.2 (7 : Int32).toNatClampNeg (by decide)) (h_k0.2.2.2 (6 : Int32).toNatClampNeg (by decide))  ) (cwV 1 E.1.2.2.2.2 (gWs (C := "StarWalk$Place") mw_4_50 mw_3_61 mw_3_62 mw_1_4 mw_3_63) rfl rfl rfl (by decide +kernel) ⟨by decide, by decide⟩) (h_k0.2.2.2 (7 : Int32).toNatClampNeg (by decide)).1 ((ce_o (h_k0.2.2.2 (7 : Int32).toNatClampNeg (by decide)).2).trans rfl) rfl rfl hl.1 rfl (Nat.le_of_ble_eq_true rfl) dX1_weigh_126 ⟨Nat.le_refl _, Nat.le_refl _⟩ (fun u18 H lo hp hPS => ?_)
          obtain ⟨hp, hex, hfr⟩ := hp
          obtain ⟨hwf, p19⟩ := hp
          have I : Wo w g s.heap u18 H lo := ⟨hPS.1, hPS.2, hwf⟩
          have rzu18 : ∀ k j : Nat, ¬ (k0 ≤ k ∧ k < k0 + 20) → u18.1 k j = v.1 k j := fun k j h => (hfr k j (fun z => h (by have cl6 : (6 : Int32).toNatClampNeg = 6 := rfl; have cl7 : (7 : Int32).toNatClampNeg = 7 := rfl; omega))).trans (rB117_Z k j h)
          refine lv_aload_n hx hb dX1_weigh_129 rfl (lv_at hl 1 rfl) ?_
          refine g_Odds_night E I h_k0.1 mw_2_31 dX1_weigh_130 ?_
          refine lv_aload_n hx hb dX1_weigh_133 rfl (lv_at hl 1 rfl) ?_
          refine g_Odds_night E I h_k0.1 mw_2_31 dX1_weigh_134 ?_
          refine g_Night_clouds E I h_k0.2.1.1 mw_1_106 dX1_weigh_137 ?_
          refine lv_topi (fun x20 ex20 => ?_)
          refine lv_aload_n hx hb dX1_weigh_140 rfl (lv_at hl 3 rfl) ?_
          refine g_Place_hour E I (h_k0.2.2.2 (6 : Int32).toNatClampNeg (by decide)) mw_1_46 dX1_weigh_141 ?_
          refine lv_topi (fun x21 ex21 => ?_)
          refine lv_iload hx hb dX1_weigh_144 (lv_at hl 6 rfl) ?_
          refine lv_iconst (v := 1) hx hb dX1_weigh_146 (by decide) ?_
          refine bi_ne E (a := y91_6.toInt) (b := 1) rfl rfl (tgt := 154) dX1_weigh_147 (by decide) (fun c22 => ?_) (fun c22 => ?_)
          ·
            refine lv_iconst (v := 0) hx hb dX1_weigh_154 (by decide) ?_
            exact B_155 _ _ u18 I z117_0 x20 x21 (0 : Int32) (by omega) (by decide) (by omega) rzu18 ls (lv_sub hl [1, 2, 3, 4, 5, 6, 0] rfl)
          ·
            refine lv_iconst (v := 1) hx hb dX1_weigh_150 (by decide) ?_
            refine lv_goto (tgt := 155) hx hb dX1_weigh_151 (by decide) ?_
            exact B_155 _ _ u18 I z117_0 x20 x21 (1 : Int32) (by omega) (by decide) (by omega) rzu18 ls (lv_sub hl [1, 2, 3, 4, 5, 6, 0] rfl)
      refine lv_iload hx hb dX1_weigh_91 (lv_at hl 5 rfl) ?_
      refine lv_iconst (v := 1) hx hb dX1_weigh_93 (by decide) ?_
      refine bi_gt E (a := y91_6.toInt) (b := 1) rfl rfl (tgt := 201) dX1_weigh_94 (by decide) (fun c23 => ?_) (fun c23 => ?_)
      ·
        refine lv_lload hx hb dX1_weigh_201 (lv_at hl 4 rfl) ?_
        exact rL E I hr hlk (by rw [← hpost]; exact ⟨⟨I.2.2, trivial⟩, trivial, rB91_Z⟩) dX1_weigh_203
      ·
        refine lv_iload hx hb dX1_weigh_97 (lv_at hl 5 rfl) ?_
        refine lv_iconst (v := 1) hx hb dX1_weigh_99 (by decide) ?_
        refine bi_ne E (a := y91_6.toInt) (b := 1) rfl rfl (tgt := 110) dX1_weigh_100 (by decide) (fun c24 => ?_) (fun c24 => ?_)
        ·
          refine lv_bipush (v := 10) hx hb dX1_weigh_110 (by decide) ?_
          refine lv_aload_n hx hb dX1_weigh_112 rfl (lv_at hl 0 rfl) ?_
          refine g_Odds_tenths E I h_k0.1 mw_2_33 dX1_weigh_113 ?_
          refine lv_topi (fun x25 ex25 => ?_)
          refine lv_isub hx hb dX1_weigh_116 ?_
          refine lv_topi (fun x26 ex26 => ?_)
          exact B_117 _ _ v_91 I x26 (by omega) rB91_Z ls (lv_sub hl [0, 1, 2, 3, 4, 5] rfl)
        ·
          refine lv_aload_n hx hb dX1_weigh_103 rfl (lv_at hl 0 rfl) ?_
          refine g_Odds_tenths E I h_k0.1 mw_2_33 dX1_weigh_104 ?_
          refine lv_topi (fun x27 ex27 => ?_)
          refine lv_goto (tgt := 117) hx hb dX1_weigh_107 (by decide) ?_
          exact B_117 _ _ v_91 I x27 (by omega) rB91_Z ls (lv_sub hl [0, 1, 2, 3, 4, 5] rfl)
  have B_24 : ∀ (H : Heap) (lo : List Loc), Wo w g s.heap v H lo → (∀ k j : Nat, ¬ (k0 ≤ k ∧ k < k0 + 20) → v.1 k j = v.1 k j) → ∀ (ls : Array Slot), lv_has ls 8 [(0, .ref (wq w k0)), (2, .ref (wq w (k0 + 10 + (1 + (6 : Int32).toNatClampNeg))))] → W pg l en (rmL 7) s m ar bl me cd H lo 0 0 (Zl w bl ar s post) (F0 m 24 ls []) := by
    intro H lo  I  rB24_Z ls hl
    refine lv_aload_n hx hb dX1_weigh_24 rfl (lv_at hl 0 rfl) ?_
    refine g_Odds_ofMiles E I h_k0.1 mw_2_34 dX1_weigh_25 ?_
    refine lv_topi (fun x28 ex28 => ?_)
    refine bz_eq E (a := x28.toInt) rfl (tgt := 39) dX1_weigh_28 (by decide) (fun c29 => ?_) (fun c29 => ?_)
    ·
      refine lv_aload_n hx hb dX1_weigh_39 rfl (lv_at hl 0 rfl) ?_
      refine g_Odds_night E I h_k0.1 mw_2_31 dX1_weigh_40 ?_
      refine lv_aload_n hx hb dX1_weigh_43 rfl (lv_at hl 1 rfl) ?_
      refine cVi E I (c_X0_isAtWell l w g v (k0 + 1) (k0 + 10 + (1 + (6 : Int32).toNatClampNeg)) E.2.2.1 I.2.2 h_k0.2.1 (h_k0.2.2.2 (6 : Int32).toNatClampNeg (by decide))  ) (cwV 1 E.1.2.2.2.2 (gWs (C := "StarWalk$Night") mw_4_56 mw_3_76 mw_3_77 mw_1_3 mw_3_78) rfl rfl rfl (by decide +kernel) ⟨by decide, by decide⟩) h_k0.2.1.1.1 ((ce_o h_k0.2.1.1.2).trans rfl) rfl rfl hl.1 rfl (Nat.le_of_ble_eq_true rfl) dX1_weigh_44 ⟨Nat.le_refl _, Nat.le_refl _⟩ (fun r30 u31 H lo hp hPS => ?_)
      obtain ⟨hp, hex, hfr⟩ := hp
      obtain ⟨hu, p32⟩ := hp
      rw [hu] at hPS
      have I : Wo w g s.heap v H lo := ⟨hPS.1, hPS.2, I.2.2⟩
      refine cNi E I (c_X7_oneIf l w g v r30 E.2.2.1 I.2.2   ) ⟨va_cnB 1 E.1.2.2.2.2 (gYs mw_3_88) rfl rfl rfl (E.2.2.2.1.2.2.2.2.2.2.2.2.1) (Ew E mw_1_1 rfl) (by decide +kernel) ⟨by decide, by decide⟩, Ew E mw_3_87 rfl, trivial⟩ rfl hl.1 rfl (Nat.le_of_ble_eq_true rfl) dX1_weigh_47 ⟨Nat.le_refl _, Nat.le_refl _⟩ (fun r33 u34 H lo hp hPS => ?_)
      obtain ⟨hp, hex, hfr⟩ := hp
      obtain ⟨hu, p35⟩ := hp
      rw [hu] at hPS
      have I : Wo w g s.heap v H lo := ⟨hPS.1, hPS.2, I.2.2⟩
      refine lv_i2l (v := r33.toInt64) hx hb dX1_weigh_50 rfl ?_
      exact rL E I hr hlk (by rw [← hpost]; exact ⟨⟨I.2.2, trivial⟩, trivial, rB24_Z⟩) dX1_weigh_51
    ·
      refine lv_aload_n hx hb dX1_weigh_31 rfl (lv_at hl 1 rfl) ?_
      refine g_Place_miles E I (h_k0.2.2.2 (6 : Int32).toNatClampNeg (by decide)) mw_1_50 dX1_weigh_32 ?_
      refine lv_topi (fun x37 ex37 => ?_)
      refine lv_i2l (v := x37.toInt64) hx hb dX1_weigh_35 rfl ?_
      refine lv_goto (tgt := 51) hx hb dX1_weigh_36 (by decide) ?_
      exact rL E I hr hlk (by rw [← hpost]; exact ⟨⟨I.2.2, trivial⟩, trivial, rB24_Z⟩) dX1_weigh_51
  refine lv_aload_n hx hb dX1_weigh_0 rfl (lv_at hl 0 rfl) ?_
  refine g_Odds_places E I h_k0.1 mw_2_32 dX1_weigh_1 ?_
  refine lv_iload_n hx hb dX1_weigh_4 rfl (lv_at hl 1 rfl) ?_
  refine ga_22 E I h_k0.2.2.1 (by decide) dX1_weigh_5 ?_
  refine lv_astore_n (lv' := [(2, .ref (wq w (k0 + 10 + (1 + (6 : Int32).toNatClampNeg)))), (0, .ref (wq w k0)), (1, .int 6)]) hx hb dX1_weigh_6 rfl hl (by decide) rfl (fun ls hl => ?_)
  refine lv_iload_n hx hb dX1_weigh_7 rfl (lv_at hl 2 rfl) ?_
  refine lv_bipush (v := 8) hx hb dX1_weigh_8 (by decide) ?_
  refine bi_ge E (a := 6) (b := 8) rfl rfl (tgt := 24) dX1_weigh_10 (by decide) (fun c39 => ?_) (fun c39 => ?_)
  ·
    exfalso; omega
  ·
    refine lv_aload_n hx hb dX1_weigh_13 rfl (lv_at hl 1 rfl) ?_
    refine g_Odds_night E I h_k0.1 mw_2_31 dX1_weigh_14 ?_
    refine lv_iload_n hx hb dX1_weigh_17 rfl (lv_at hl 2 rfl) ?_
    refine cVi E I (c_X0_hasPlanned l w g v (k0 + 1) (6 : Int32) E.2.2.1 I.2.2 h_k0.2.1  ) (cwV 1 E.1.2.2.2.2 (gWs (C := "StarWalk$Night") mw_4_55 mw_3_45 mw_3_46 mw_1_3 mw_3_47) rfl rfl rfl (by decide +kernel) ⟨by decide, by decide⟩) h_k0.2.1.1.1 ((ce_o h_k0.2.1.1.2).trans rfl) rfl rfl hl.1 rfl (Nat.le_of_ble_eq_true rfl) dX1_weigh_18 ⟨Nat.le_refl _, Nat.le_refl _⟩ (fun r40 u41 H lo hp hPS => ?_)
    have iz42 : (6 : Int32).toInt = 6 := rfl
    obtain ⟨hp, hex, hfr⟩ := hp
    obtain ⟨hu, p43⟩ := hp
    rw [hu] at hPS
    have I : Wo w g s.heap v H lo := ⟨hPS.1, hPS.2, I.2.2⟩
    refine bz_ne E (a := r40.toInt) rfl (tgt := 52) dX1_weigh_21 (by decide) (fun c44 => ?_) (fun c44 => ?_)
    ·
      refine lv_aload_n hx hb dX1_weigh_52 rfl (lv_at hl 1 rfl) ?_
      refine g_Odds_places E I h_k0.1 mw_2_32 dX1_weigh_53 ?_
      refine lv_iload_n hx hb dX1_weigh_56 rfl (lv_at hl 2 rfl) ?_
      refine lv_iconst (v := 1) hx hb dX1_weigh_57 (by decide) ?_
      refine lv_iadd hx hb dX1_weigh_58 ?_
      refine lv_topi (fun x45 ex45 => ?_)
      obtain rfl : x45 = 7 := ex45.trans (by decide)
      refine ga_22 E I h_k0.2.2.1 (by decide) dX1_weigh_59 ?_
      refine lv_astore_n (lv' := [(3, .ref (wq w (k0 + 10 + (1 + (7 : Int32).toNatClampNeg)))), (2, .ref (wq w (k0 + 10 + (1 + (6 : Int32).toNatClampNeg)))), (0, .ref (wq w k0)), (1, .int 6)]) hx hb dX1_weigh_60 rfl hl (by decide) rfl (fun ls hl => ?_)
      refine lv_aload_n hx hb dX1_weigh_61 rfl (lv_at hl 1 rfl) ?_
      refine cVi E I (c_X2_canStep l w g v (k0 + 10 + (1 + (6 : Int32).toNatClampNeg)) E.2.2.1 I.2.2 (h_k0.2.2.2 (6 : Int32).toNatClampNeg (by decide))  ) (cwV 0 E.1.2.2.2.2 (gWs (C := "StarWalk$Place") mw_4_58 mw_3_182 mw_3_183 mw_1_4 mw_3_184) rfl rfl rfl (by decide +kernel) ⟨by decide, by decide⟩) (h_k0.2.2.2 (6 : Int32).toNatClampNeg (by decide)).1 ((ce_o (h_k0.2.2.2 (6 : Int32).toNatClampNeg (by decide)).2).trans rfl) rfl rfl hl.1 rfl (Nat.le_of_ble_eq_true rfl) dX1_weigh_62 ⟨Nat.le_refl _, Nat.le_refl _⟩ (fun r46 u47 H lo hp hPS => ?_)
      obtain ⟨hp, hex, hfr⟩ := hp
      obtain ⟨hu, p48⟩ := hp
      rw [hu] at hPS
      have I : Wo w g s.heap v H lo := ⟨hPS.1, hPS.2, I.2.2⟩
      refine bz_ne E (a := r46.toInt) rfl (tgt := 85) dX1_weigh_65 (by decide) (fun c49 => ?_) (fun c49 => ?_)
      ·
        refine lv_lconst (v := 0) hx hb dX1_weigh_85 (by decide) ?_
        refine lv_lstore (lv' := [(4, .long (0 : Int64)), (3, .ref (wq w (k0 + 10 + (1 + (7 : Int32).toNatClampNeg)))), (2, .ref (wq w (k0 + 10 + (1 + (6 : Int32).toNatClampNeg)))), (0, .ref (wq w k0)), (1, .int 6)]) hx hb dX1_weigh_86 hl (by decide) rfl (fun ls hl => ?_)
        refine lv_iconst (v := 0) hx hb dX1_weigh_88 (by decide) ?_
        refine lv_istore (lv' := [(6, .int 0), (4, .long (0 : Int64)), (3, .ref (wq w (k0 + 10 + (1 + (7 : Int32).toNatClampNeg)))), (2, .ref (wq w (k0 + 10 + (1 + (6 : Int32).toNatClampNeg)))), (0, .ref (wq w k0)), (1, .int 6)]) hx hb dX1_weigh_89 hl (by decide) rfl (fun ls hl => ?_)
        exact L_91 ((2147483647 - (0 : Int32).toInt).toNat + 1) _ _ v I (0 : Int64) (0 : Int32) (by decide) rz0 (Nat.lt_succ_self _) ls (lv_sub hl [4, 5, 3, 2, 1, 0] rfl)
      ·
        refine lv_aload_n hx hb dX1_weigh_68 rfl (lv_at hl 0 rfl) ?_
        refine lv_aload_n hx hb dX1_weigh_69 rfl (lv_at hl 1 rfl) ?_
        refine cVv E I (c_X2_become l w g v (k0 + 10 + (1 + (7 : Int32).toNatClampNeg)) (k0 + 10 + (1 + (6 : Int32).toNatClampNeg)) E.2.2.1 I.2.2 (h_k0.2.2.2 (7 : Int32).toNatClampNeg (by decide)) (h_k0.2.2.2 (6 : Int32).toNatClampNeg (by decide))  ) (cwV 1 E.1.2.2.2.2 (gWs (C := "StarWalk$Place") mw_4_50 mw_3_61 mw_3_62 mw_1_4 mw_3_63) rfl rfl rfl (by decide +kernel) ⟨by decide, by decide⟩) (h_k0.2.2.2 (7 : Int32).toNatClampNeg (by decide)).1 ((ce_o (h_k0.2.2.2 (7 : Int32).toNatClampNeg (by decide)).2).trans rfl) rfl rfl hl.1 rfl (Nat.le_of_ble_eq_true rfl) dX1_weigh_70 ⟨Nat.le_refl _, Nat.le_refl _⟩ (fun u50 H lo hp hPS => ?_)
        obtain ⟨hp, hex, hfr⟩ := hp
        obtain ⟨hwf, p51⟩ := hp
        have I : Wo w g s.heap u50 H lo := ⟨hPS.1, hPS.2, hwf⟩
        have rzu50 : ∀ k j : Nat, ¬ (k0 ≤ k ∧ k < k0 + 20) → u50.1 k j = v.1 k j := fun k j h => (hfr k j (fun z => h (by have cl6 : (6 : Int32).toNatClampNeg = 6 := rfl; have cl7 : (7 : Int32).toNatClampNeg = 7 := rfl; omega))).trans (rz0 k j h)
        refine lv_ldc2 (own := "StarWalk$Odds") hx hb E.1.2.2.2.1 (Ew E mw_4_59 rfl) dX1_weigh_73 ?_
        refine lv_aload_n hx hb dX1_weigh_76 rfl (lv_at hl 2 rfl) ?_
        refine lv_iload_n hx hb dX1_weigh_77 rfl (lv_at hl 3 rfl) ?_
        refine lv_iconst (v := 1) hx hb dX1_weigh_78 (by decide) ?_
        refine lv_iadd hx hb dX1_weigh_79 ?_
        refine lv_topi (fun x52 ex52 => ?_)
        obtain rfl : x52 = 7 := ex52.trans (by decide)
        refine cVl E I (c_X1_weigh_v7 l w g u50 k0 E.2.2.1 I.2.2 h_k0  ) (cwV 1 E.1.2.2.2.2 (gWs (C := "StarWalk$Odds") mw_4_51 mw_4_53 mw_s_24 mw_1_7 mw_4_54) rfl rfl rfl (by decide +kernel) ⟨by decide, by decide⟩) h_k0.1.1 ((ce_o h_k0.1.2).trans rfl) rfl rfl hl.1 rfl (Nat.le_of_ble_eq_true rfl) dX1_weigh_80 ⟨Nat.le_refl _, Nat.le_refl _⟩ (fun r53 u54 H lo hp hPS => ?_)
        obtain ⟨hp, hex, hfr⟩ := hp
        obtain ⟨hwf, p55⟩ := hp
        have I : Wo w g s.heap u54 H lo := ⟨hPS.1, hPS.2, hwf⟩
        have rzu54 : ∀ k j : Nat, ¬ (k0 ≤ k ∧ k < k0 + 20) → u54.1 k j = v.1 k j := fun k j h => (hfr k j (fun z => h (by omega))).trans (rzu50 k j h)
        refine lv_lmul hx hb dX1_weigh_83 ?_
        refine lv_topl (fun q56 eq56 => ?_)
        exact rL E I hr hlk (by rw [← hpost]; exact ⟨⟨I.2.2, trivial⟩, trivial, rzu54⟩) dX1_weigh_84
    ·
      exact B_24 _ _ I  rz0 ls (lv_sub hl [1, 0] rfl)
set_option maxHeartbeats 4000000 in
set_option maxRecDepth 100000 in
theorem c_X1_weigh_v5 (l : Launch) (w : Wp) (g : Nat → Nat → Int32) (v : St) (k0 : Nat) (hq : Inj w) (hw : WF (wk w) g v) (h_k0 : oO w k0) : CTl w l yX1_weigh (wsy yX1_weigh prog_3_method_3_code 8 (some .long)) (rmL 8) [.ref (wq w k0), .int 5] v (fun (r : Int64) (u : St) => (WF (wk w) g u ∧ True) ∧ (True) ∧ (∀ k j : Nat, ¬ (k0 ≤ k ∧ k < k0 + 20) → u.1 k j = v.1 k j)) := by
  generalize hpost : (fun (r : Int64) (u : St) => (WF (wk w) g u ∧ True) ∧ (True) ∧ (∀ k j : Nat, ¬ (k0 ≤ k ∧ k < k0 + 20) → u.1 k j = v.1 k j)) = post
  refine CTl.of prog_3_method_3_code 8 (some .long) "StarWalk$Odds" (by decide +kernel) rfl hq hw (Nat.le_of_ble_eq_true rfl) ?_
  intro pg en s m ar bl me cd ls E I hr hlk hl
  have hx := E.1.1
  have hb := E.1.2.1
  have hl : lv_has ls 8 [(0, .ref (wq w k0)), (1, .int 5)] := hl
  have rz0 : ∀ k j : Nat, ¬ (k0 ≤ k ∧ k < k0 + 20) → v.1 k j = v.1 k j := fun _ _ _ => rfl
  have L_91 : ∀ (n : Nat), ∀ (H : Heap) (lo : List Loc) (v_91 : St), Wo w g s.heap v_91 H lo → ∀ (y91_4 : Int64) (y91_6 : Int32), (0 ≤ y91_6.toInt ∧ y91_6.toInt ≤ 2) → (∀ k j : Nat, ¬ (k0 ≤ k ∧ k < k0 + 20) → v_91.1 k j = v.1 k j) → (2147483647 - y91_6.toInt).toNat < n → ∀ (ls : Array Slot), lv_has ls 8 [(0, .ref (wq w k0)), (1, .int 5), (2, .ref (wq w (k0 + 10 + (1 + (5 : Int32).toNatClampNeg)))), (3, .ref (wq w (k0 + 10 + (1 + (6 : Int32).toNatClampNeg)))), (4, .long y91_4), (6, .int y91_6)] → W pg l en (rmL 8) s m ar bl me cd H lo 0 0 (Zl w bl ar s post) (F0 m 91 ls []) := by
    intro n
    induction n with
    | zero => intro H lo v_91 I y91_4 y91_6 hy91_6 rB91_Z hm; exact absurd hm (Nat.not_lt_zero _)
    | succ n ih_91 =>
      intro H lo v_91 I y91_4 y91_6 hy91_6 rB91_Z hm ls hl
      have B_195 : ∀ (H : Heap) (lo : List Loc) (v_195 : St), Wo w g s.heap v_195 H lo → ∀ (y195_4 : Int64), (0 ≤ y91_6.toInt ∧ y91_6.toInt ≤ 1) → (∀ k j : Nat, ¬ (k0 ≤ k ∧ k < k0 + 20) → v_195.1 k j = v.1 k j) → ∀ (ls : Array Slot), lv_has ls 8 [(0, .ref (wq w k0)), (1, .int 5), (2, .ref (wq w (k0 + 10 + (1 + (5 : Int32).toNatClampNeg)))), (3, .ref (wq w (k0 + 10 + (1 + (6 : Int32).toNatClampNeg)))), (4, .long y195_4), (6, .int y91_6)] → W pg l en (rmL 8) s m ar bl me cd H lo 0 0 (Zl w bl ar s post) (F0 m 195 ls []) := by
        intro H lo v_195 I y195_4 hE195_0 rB195_Z ls hl
        obtain ⟨x1, ex1⟩ : ∃ z : Int32, z = y91_6 + 1 := ⟨_, rfl⟩
        have hx1 : x1.toInt = y91_6.toInt + (1) := by rw [ex1]; exact adI (a := y91_6.toInt) (b := 1) rfl rfl (by omega) (by omega)
        refine lv_iinc (v := x1) (lv' := [(6, .int x1), (0, .ref (wq w k0)), (1, .int 5), (2, .ref (wq w (k0 + 10 + (1 + (5 : Int32).toNatClampNeg)))), (3, .ref (wq w (k0 + 10 + (1 + (6 : Int32).toNatClampNeg)))), (4, .long y195_4)]) hx hb dX1_weigh_195 hl (k := 5) rfl (by rw [ex1]; rfl) (by decide) rfl (fun ls hl => ?_)
        refine lv_goto (tgt := 91) hx hb dX1_weigh_198 (by decide) ?_
        exact ih_91 _ _ v_195 I y195_4 x1 (by omega) rB195_Z (by omega) ls (lv_sub hl [1, 2, 3, 4, 5, 0] rfl)
      have B_155 : ∀ (H : Heap) (lo : List Loc) (v_155 : St), Wo w g s.heap v_155 H lo → ∀ (y155_7 : Int32) (z155_1 : Int32) (z155_2 : Int32) (z155_3 : Int32), (1 ≤ y155_7.toInt) → (0 ≤ z155_3.toInt ∧ z155_3.toInt ≤ 1) → (0 ≤ y91_6.toInt ∧ y91_6.toInt ≤ 1) → (∀ k j : Nat, ¬ (k0 ≤ k ∧ k < k0 + 20) → v_155.1 k j = v.1 k j) → ∀ (ls : Array Slot), lv_has ls 8 [(0, .ref (wq w k0)), (1, .int 5), (2, .ref (wq w (k0 + 10 + (1 + (5 : Int32).toNatClampNeg)))), (3, .ref (wq w (k0 + 10 + (1 + (6 : Int32).toNatClampNeg)))), (4, .long y91_4), (6, .int y91_6), (7, .int y155_7)] → W pg l en (rmL 8) s m ar bl me cd H lo 0 0 (Zl w bl ar s post) (F0 m 155 ls [.int z155_3, .int z155_2, .int z155_1, .ref (wq w (k0 + 1))]) := by
        intro H lo v_155 I y155_7 z155_1 z155_2 z155_3 hy155_7 hz155_3 hE155_0 rB155_Z ls hl
        refine cNi E I (c_X7_withBit l w g v_155 z155_1 z155_2 z155_3 E.2.2.1 I.2.2   ) ⟨va_cnB 3 E.1.2.2.2.2 (gYs mw_2_230) rfl rfl rfl (E.2.2.2.1.2.2.2.2.2.2.2.2.2) (Ew E mw_1_1 rfl) (by decide +kernel) ⟨by decide, by decide⟩, Ew E mw_2_229 rfl, trivial⟩ rfl hl.1 rfl (Nat.le_of_ble_eq_true rfl) dX1_weigh_155 ⟨Nat.le_refl _, Nat.le_refl _⟩ (fun r2 u3 H lo hp hPS => ?_)
        obtain ⟨hp, hex, hfr⟩ := hp
        obtain ⟨hu, p4⟩ := hp
        rw [hu] at hPS
        have I : Wo w g s.heap v_155 H lo := ⟨hPS.1, hPS.2, I.2.2⟩
        refine p_Night_clouds E I h_k0.2.1.1 mw_1_106 dX1_weigh_158 (fun H lo I => ?_)
        generalize ev5 : up1 v_155 (k0 + 1) 11 r2 = v5 at I
        have rzv5 : ∀ k j : Nat, ¬ (k0 ≤ k ∧ k < k0 + 20) → v5.1 k j = v.1 k j := fun k j h => fz_u ev5 (by omega) (rB155_Z k j h)
        refine lv_aload_n hx hb dX1_weigh_161 rfl (lv_at hl 0 rfl) ?_
        refine g_Odds_night E I h_k0.1 mw_2_31 dX1_weigh_162 ?_
        refine lv_aload_n hx hb dX1_weigh_165 rfl (lv_at hl 3 rfl) ?_
        refine lv_aload_n hx hb dX1_weigh_166 rfl (lv_at hl 0 rfl) ?_
        refine g_Odds_night E I h_k0.1 mw_2_31 dX1_weigh_167 ?_
        refine g_Night_plannedAims E I h_k0.2.1.1 mw_1_117 dX1_weigh_170 ?_
        refine lv_iload_n hx hb dX1_weigh_173 rfl (lv_at hl 1 rfl) ?_
        refine ga_12 E I h_k0.2.1.2.2.2.2.2.2.1 (by decide) dX1_weigh_174 ?_
        refine lv_topi (fun x6 ex6 => ?_)
        refine cVi E I (c_X0_step l w g v5 (k0 + 1) (k0 + 10 + (1 + (6 : Int32).toNatClampNeg)) x6 E.2.2.1 I.2.2 h_k0.2.1 (h_k0.2.2.2 (6 : Int32).toNatClampNeg (by decide))  ) (cwV 2 E.1.2.2.2.2 (gWs (C := "StarWalk$Night") mw_4_61 mw_3_177 mw_3_178 mw_1_3 mw_3_179) rfl rfl rfl (by decide +kernel) ⟨by decide, by decide⟩) h_k0.2.1.1.1 ((ce_o h_k0.2.1.1.2).trans rfl) rfl rfl hl.1 rfl (Nat.le_of_ble_eq_true rfl) dX1_weigh_175 ⟨Nat.le_refl _, Nat.le_refl _⟩ (fun r7 u8 H lo hp hPS => ?_)
        obtain ⟨hp, hex, hfr⟩ := hp
        obtain ⟨hwf, p9⟩ := hp
        have I : Wo w g s.heap u8 H lo := ⟨hPS.1, hPS.2, hwf⟩
        have rzu8 : ∀ k j : Nat, ¬ (k0 ≤ k ∧ k < k0 + 20) → u8.1 k j = v.1 k j := fun k j h => (hfr k j (fun z => h (by have cl6 : (6 : Int32).toNatClampNeg = 6 := rfl; omega))).trans (rzv5 k j h)
        refine lv_pop hx hb dX1_weigh_178 rfl ?_
        refine lv_lload hx hb dX1_weigh_179 (lv_at hl 4 rfl) ?_
        refine lv_iload hx hb dX1_weigh_181 (lv_at hl 6 rfl) ?_
        refine lv_i2l (v := y155_7.toInt64) hx hb dX1_weigh_183 rfl ?_
        refine lv_aload_n hx hb dX1_weigh_184 rfl (lv_at hl 0 rfl) ?_
        refine lv_iload_n hx hb dX1_weigh_185 rfl (lv_at hl 1 rfl) ?_
        refine lv_iconst (v := 1) hx hb dX1_weigh_186 (by decide) ?_
        refine lv_iadd hx hb dX1_weigh_187 ?_
        refine lv_topi (fun x11 ex11 => ?_)
        obtain rfl : x11 = 6 := ex11.trans (by decide)
        refine cVl E I (c_X1_weigh_v6 l w g u8 k0 E.2.2.1 I.2.2 h_k0  ) (cwV 1 E.1.2.2.2.2 (gWs (C := "StarWalk$Odds") mw_4_51 mw_4_53 mw_s_24 mw_1_7 mw_4_54) rfl rfl rfl (by decide +kernel) ⟨by decide, by decide⟩) h_k0.1.1 ((ce_o h_k0.1.2).trans rfl) rfl rfl hl.1 rfl (Nat.le_of_ble_eq_true rfl) dX1_weigh_188 ⟨Nat.le_refl _, Nat.le_refl _⟩ (fun r12 u13 H lo hp hPS => ?_)
        obtain ⟨hp, hex, hfr⟩ := hp
        obtain ⟨hwf, p14⟩ := hp
        have I : Wo w g s.heap u13 H lo := ⟨hPS.1, hPS.2, hwf⟩
        have rzu13 : ∀ k j : Nat, ¬ (k0 ≤ k ∧ k < k0 + 20) → u13.1 k j = v.1 k j := fun k j h => (hfr k j (fun z => h (by omega))).trans (rzu8 k j h)
        refine lv_lmul hx hb dX1_weigh_191 ?_
        refine lv_topl (fun q15 eq15 => ?_)
        refine lv_ladd hx hb dX1_weigh_192 ?_
        refine lv_topl (fun q16 eq16 => ?_)
        refine lv_lstore (lv' := [(4, .long q16), (0, .ref (wq w k0)), (1, .int 5), (2, .ref (wq w (k0 + 10 + (1 + (5 : Int32).toNatClampNeg)))), (3, .ref (wq w (k0 + 10 + (1 + (6 : Int32).toNatClampNeg)))), (6, .int y91_6), (7, .int y155_7)]) hx hb dX1_weigh_193 hl (by decide) rfl (fun ls hl => ?_)
        exact B_195 _ _ u13 I q16 (by omega) rzu13 ls (lv_sub hl [1, 2, 3, 4, 0, 5] rfl)
      have B_117 : ∀ (H : Heap) (lo : List Loc) (v_117 : St), Wo w g s.heap v_117 H lo → ∀ (z117_0 : Int32), (0 ≤ y91_6.toInt ∧ y91_6.toInt ≤ 1) → (∀ k j : Nat, ¬ (k0 ≤ k ∧ k < k0 + 20) → v_117.1 k j = v.1 k j) → ∀ (ls : Array Slot), lv_has ls 8 [(0, .ref (wq w k0)), (1, .int 5), (2, .ref (wq w (k0 + 10 + (1 + (5 : Int32).toNatClampNeg)))), (3, .ref (wq w (k0 + 10 + (1 + (6 : Int32).toNatClampNeg)))), (4, .long y91_4), (6, .int y91_6)] → W pg l en (rmL 8) s m ar bl me cd H lo 0 0 (Zl w bl ar s post) (F0 m 117 ls [.int z117_0]) := by
        intro H lo v_117 I z117_0 hE117_0 rB117_Z ls hl
        refine lv_istore (lv' := [(7, .int z117_0), (0, .ref (wq w k0)), (1, .int 5), (2, .ref (wq w (k0 + 10 + (1 + (5 : Int32).toNatClampNeg)))), (3, .ref (wq w (k0 + 10 + (1 + (6 : Int32).toNatClampNeg)))), (4, .long y91_4), (6, .int y91_6)]) hx hb dX1_weigh_117 hl (by decide) rfl (fun ls hl => ?_)
        refine lv_iload hx hb dX1_weigh_119 (lv_at hl 0 rfl) ?_
        refine bz_le E (a := z117_0.toInt) rfl (tgt := 195) dX1_weigh_121 (by decide) (fun c17 => ?_) (fun c17 => ?_)
        ·
          exact B_195 _ _ v_117 I y91_4 (by omega) rB117_Z ls (lv_sub hl [1, 2, 3, 4, 5, 6] rfl)
        ·
          refine lv_aload_n hx hb dX1_weigh_124 rfl (lv_at hl 4 rfl) ?_
          refine lv_aload_n hx hb dX1_weigh_125 rfl (lv_at hl 3 rfl) ?_
          refine cVv E I (c_X2_become l w g v_117 (k0 + 10 + (1 + (6 : Int32).toNatClampNeg)) (k0 + 10 + (1 + (5 : Int32).toNatClampNeg)) E.2.2.1 I.2.2 (h_k0.2.2.2 (6 : Int32).toNatClampNeg (by decide)) (h_k0.2.2.2 (5 : Int32).toNatClampNeg (by decide))  ) (cwV 1 E.1.2.2.2.2 (gWs (C := "StarWalk$Place") mw_4_50 mw_3_61 mw_3_62 mw_1_4 mw_3_63) rfl rfl rfl (by decide +kernel) ⟨by decide, by decide⟩) (h_k0.2.2.2 (6 : Int32).toNatClampNeg (by decide)).1 ((ce_o (h_k0.2.2.2 (6 : Int32).toNatClampNeg (by decide)).2).trans rfl) rfl rfl hl.1 rfl (Nat.le_of_ble_eq_true rfl) dX1_weigh_126 ⟨Nat.le_refl _, Nat.le_refl _⟩ (fun u18 H lo hp hPS => ?_)
          obtain ⟨hp, hex, hfr⟩ := hp
          obtain ⟨hwf, p19⟩ := hp
          have I : Wo w g s.heap u18 H lo := ⟨hPS.1, hPS.2, hwf⟩
          have rzu18 : ∀ k j : Nat, ¬ (k0 ≤ k ∧ k < k0 + 20) → u18.1 k j = v.1 k j := fun k j h => (hfr k j (fun z => h (by have cl5 : (5 : Int32).toNatClampNeg = 5 := rfl; have cl6 : (6 : Int32).toNatClampNeg = 6 := rfl; omega))).trans (rB117_Z k j h)
          refine lv_aload_n hx hb dX1_weigh_129 rfl (lv_at hl 1 rfl) ?_
          refine g_Odds_night E I h_k0.1 mw_2_31 dX1_weigh_130 ?_
          refine lv_aload_n hx hb dX1_weigh_133 rfl (lv_at hl 1 rfl) ?_
          refine g_Odds_night E I h_k0.1 mw_2_31 dX1_weigh_134 ?_
          refine g_Night_clouds E I h_k0.2.1.1 mw_1_106 dX1_weigh_137 ?_
          refine lv_topi (fun x20 ex20 => ?_)
          refine lv_aload_n hx hb dX1_weigh_140 rfl (lv_at hl 3 rfl) ?_
          refine g_Place_hour E I (h_k0.2.2.2 (5 : Int32).toNatClampNeg (by decide)) mw_1_46 dX1_weigh_141 ?_
          refine lv_topi (fun x21 ex21 => ?_)
          refine lv_iload hx hb dX1_weigh_144 (lv_at hl 6 rfl) ?_
          refine lv_iconst (v := 1) hx hb dX1_weigh_146 (by decide) ?_
          refine bi_ne E (a := y91_6.toInt) (b := 1) rfl rfl (tgt := 154) dX1_weigh_147 (by decide) (fun c22 => ?_) (fun c22 => ?_)
          ·
            refine lv_iconst (v := 0) hx hb dX1_weigh_154 (by decide) ?_
            exact B_155 _ _ u18 I z117_0 x20 x21 (0 : Int32) (by omega) (by decide) (by omega) rzu18 ls (lv_sub hl [1, 2, 3, 4, 5, 6, 0] rfl)
          ·
            refine lv_iconst (v := 1) hx hb dX1_weigh_150 (by decide) ?_
            refine lv_goto (tgt := 155) hx hb dX1_weigh_151 (by decide) ?_
            exact B_155 _ _ u18 I z117_0 x20 x21 (1 : Int32) (by omega) (by decide) (by omega) rzu18 ls (lv_sub hl [1, 2, 3, 4, 5, 6, 0] rfl)
      refine lv_iload hx hb dX1_weigh_91 (lv_at hl 5 rfl) ?_
      refine lv_iconst (v := 1) hx hb dX1_weigh_93 (by decide) ?_
      refine bi_gt E (a := y91_6.toInt) (b := 1) rfl rfl (tgt := 201) dX1_weigh_94 (by decide) (fun c23 => ?_) (fun c23 => ?_)
      ·
        refine lv_lload hx hb dX1_weigh_201 (lv_at hl 4 rfl) ?_
        exact rL E I hr hlk (by rw [← hpost]; exact ⟨⟨I.2.2, trivial⟩, trivial, rB91_Z⟩) dX1_weigh_203
      ·
        refine lv_iload hx hb dX1_weigh_97 (lv_at hl 5 rfl) ?_
        refine lv_iconst (v := 1) hx hb dX1_weigh_99 (by decide) ?_
        refine bi_ne E (a := y91_6.toInt) (b := 1) rfl rfl (tgt := 110) dX1_weigh_100 (by decide) (fun c24 => ?_) (fun c24 => ?_)
        ·
          refine lv_bipush (v := 10) hx hb dX1_weigh_110 (by decide) ?_
          refine lv_aload_n hx hb dX1_weigh_112 rfl (lv_at hl 0 rfl) ?_
          refine g_Odds_tenths E I h_k0.1 mw_2_33 dX1_weigh_113 ?_
          refine lv_topi (fun x25 ex25 => ?_)
          refine lv_isub hx hb dX1_weigh_116 ?_
          refine lv_topi (fun x26 ex26 => ?_)
          exact B_117 _ _ v_91 I x26 (by omega) rB91_Z ls (lv_sub hl [0, 1, 2, 3, 4, 5] rfl)
        ·
          refine lv_aload_n hx hb dX1_weigh_103 rfl (lv_at hl 0 rfl) ?_
          refine g_Odds_tenths E I h_k0.1 mw_2_33 dX1_weigh_104 ?_
          refine lv_topi (fun x27 ex27 => ?_)
          refine lv_goto (tgt := 117) hx hb dX1_weigh_107 (by decide) ?_
          exact B_117 _ _ v_91 I x27 (by omega) rB91_Z ls (lv_sub hl [0, 1, 2, 3, 4, 5] rfl)
  have B_24 : ∀ (H : Heap) (lo : List Loc), Wo w g s.heap v H lo → (∀ k j : Nat, ¬ (k0 ≤ k ∧ k < k0 + 20) → v.1 k j = v.1 k j) → ∀ (ls : Array Slot), lv_has ls 8 [(0, .ref (wq w k0)), (2, .ref (wq w (k0 + 10 + (1 + (5 : Int32).toNatClampNeg))))] → W pg l en (rmL 8) s m ar bl me cd H lo 0 0 (Zl w bl ar s post) (F0 m 24 ls []) := by
    intro H lo  I  rB24_Z ls hl
    refine lv_aload_n hx hb dX1_weigh_24 rfl (lv_at hl 0 rfl) ?_
    refine g_Odds_ofMiles E I h_k0.1 mw_2_34 dX1_weigh_25 ?_
    refine lv_topi (fun x28 ex28 => ?_)
    refine bz_eq E (a := x28.toInt) rfl (tgt := 39) dX1_weigh_28 (by decide) (fun c29 => ?_) (fun c29 => ?_)
    ·
      refine lv_aload_n hx hb dX1_weigh_39 rfl (lv_at hl 0 rfl) ?_
      refine g_Odds_night E I h_k0.1 mw_2_31 dX1_weigh_40 ?_
      refine lv_aload_n hx hb dX1_weigh_43 rfl (lv_at hl 1 rfl) ?_
      refine cVi E I (c_X0_isAtWell l w g v (k0 + 1) (k0 + 10 + (1 + (5 : Int32).toNatClampNeg)) E.2.2.1 I.2.2 h_k0.2.1 (h_k0.2.2.2 (5 : Int32).toNatClampNeg (by decide))  ) (cwV 1 E.1.2.2.2.2 (gWs (C := "StarWalk$Night") mw_4_56 mw_3_76 mw_3_77 mw_1_3 mw_3_78) rfl rfl rfl (by decide +kernel) ⟨by decide, by decide⟩) h_k0.2.1.1.1 ((ce_o h_k0.2.1.1.2).trans rfl) rfl rfl hl.1 rfl (Nat.le_of_ble_eq_true rfl) dX1_weigh_44 ⟨Nat.le_refl _, Nat.le_refl _⟩ (fun r30 u31 H lo hp hPS => ?_)
      obtain ⟨hp, hex, hfr⟩ := hp
      obtain ⟨hu, p32⟩ := hp
      rw [hu] at hPS
      have I : Wo w g s.heap v H lo := ⟨hPS.1, hPS.2, I.2.2⟩
      refine cNi E I (c_X7_oneIf l w g v r30 E.2.2.1 I.2.2   ) ⟨va_cnB 1 E.1.2.2.2.2 (gYs mw_3_88) rfl rfl rfl (E.2.2.2.1.2.2.2.2.2.2.2.2.1) (Ew E mw_1_1 rfl) (by decide +kernel) ⟨by decide, by decide⟩, Ew E mw_3_87 rfl, trivial⟩ rfl hl.1 rfl (Nat.le_of_ble_eq_true rfl) dX1_weigh_47 ⟨Nat.le_refl _, Nat.le_refl _⟩ (fun r33 u34 H lo hp hPS => ?_)
      obtain ⟨hp, hex, hfr⟩ := hp
      obtain ⟨hu, p35⟩ := hp
      rw [hu] at hPS
      have I : Wo w g s.heap v H lo := ⟨hPS.1, hPS.2, I.2.2⟩
      refine lv_i2l (v := r33.toInt64) hx hb dX1_weigh_50 rfl ?_
      exact rL E I hr hlk (by rw [← hpost]; exact ⟨⟨I.2.2, trivial⟩, trivial, rB24_Z⟩) dX1_weigh_51
    ·
      refine lv_aload_n hx hb dX1_weigh_31 rfl (lv_at hl 1 rfl) ?_
      refine g_Place_miles E I (h_k0.2.2.2 (5 : Int32).toNatClampNeg (by decide)) mw_1_50 dX1_weigh_32 ?_
      refine lv_topi (fun x37 ex37 => ?_)
      refine lv_i2l (v := x37.toInt64) hx hb dX1_weigh_35 rfl ?_
      refine lv_goto (tgt := 51) hx hb dX1_weigh_36 (by decide) ?_
      exact rL E I hr hlk (by rw [← hpost]; exact ⟨⟨I.2.2, trivial⟩, trivial, rB24_Z⟩) dX1_weigh_51
  refine lv_aload_n hx hb dX1_weigh_0 rfl (lv_at hl 0 rfl) ?_
  refine g_Odds_places E I h_k0.1 mw_2_32 dX1_weigh_1 ?_
  refine lv_iload_n hx hb dX1_weigh_4 rfl (lv_at hl 1 rfl) ?_
  refine ga_22 E I h_k0.2.2.1 (by decide) dX1_weigh_5 ?_
  refine lv_astore_n (lv' := [(2, .ref (wq w (k0 + 10 + (1 + (5 : Int32).toNatClampNeg)))), (0, .ref (wq w k0)), (1, .int 5)]) hx hb dX1_weigh_6 rfl hl (by decide) rfl (fun ls hl => ?_)
  refine lv_iload_n hx hb dX1_weigh_7 rfl (lv_at hl 2 rfl) ?_
  refine lv_bipush (v := 8) hx hb dX1_weigh_8 (by decide) ?_
  refine bi_ge E (a := 5) (b := 8) rfl rfl (tgt := 24) dX1_weigh_10 (by decide) (fun c39 => ?_) (fun c39 => ?_)
  ·
    exfalso; omega
  ·
    refine lv_aload_n hx hb dX1_weigh_13 rfl (lv_at hl 1 rfl) ?_
    refine g_Odds_night E I h_k0.1 mw_2_31 dX1_weigh_14 ?_
    refine lv_iload_n hx hb dX1_weigh_17 rfl (lv_at hl 2 rfl) ?_
    refine cVi E I (c_X0_hasPlanned l w g v (k0 + 1) (5 : Int32) E.2.2.1 I.2.2 h_k0.2.1  ) (cwV 1 E.1.2.2.2.2 (gWs (C := "StarWalk$Night") mw_4_55 mw_3_45 mw_3_46 mw_1_3 mw_3_47) rfl rfl rfl (by decide +kernel) ⟨by decide, by decide⟩) h_k0.2.1.1.1 ((ce_o h_k0.2.1.1.2).trans rfl) rfl rfl hl.1 rfl (Nat.le_of_ble_eq_true rfl) dX1_weigh_18 ⟨Nat.le_refl _, Nat.le_refl _⟩ (fun r40 u41 H lo hp hPS => ?_)
    have iz42 : (5 : Int32).toInt = 5 := rfl
    obtain ⟨hp, hex, hfr⟩ := hp
    obtain ⟨hu, p43⟩ := hp
    rw [hu] at hPS
    have I : Wo w g s.heap v H lo := ⟨hPS.1, hPS.2, I.2.2⟩
    refine bz_ne E (a := r40.toInt) rfl (tgt := 52) dX1_weigh_21 (by decide) (fun c44 => ?_) (fun c44 => ?_)
    ·
      refine lv_aload_n hx hb dX1_weigh_52 rfl (lv_at hl 1 rfl) ?_
      refine g_Odds_places E I h_k0.1 mw_2_32 dX1_weigh_53 ?_
      refine lv_iload_n hx hb dX1_weigh_56 rfl (lv_at hl 2 rfl) ?_
      refine lv_iconst (v := 1) hx hb dX1_weigh_57 (by decide) ?_
      refine lv_iadd hx hb dX1_weigh_58 ?_
      refine lv_topi (fun x45 ex45 => ?_)
      obtain rfl : x45 = 6 := ex45.trans (by decide)
      refine ga_22 E I h_k0.2.2.1 (by decide) dX1_weigh_59 ?_
      refine lv_astore_n (lv' := [(3, .ref (wq w (k0 + 10 + (1 + (6 : Int32).toNatClampNeg)))), (2, .ref (wq w (k0 + 10 + (1 + (5 : Int32).toNatClampNeg)))), (0, .ref (wq w k0)), (1, .int 5)]) hx hb dX1_weigh_60 rfl hl (by decide) rfl (fun ls hl => ?_)
      refine lv_aload_n hx hb dX1_weigh_61 rfl (lv_at hl 1 rfl) ?_
      refine cVi E I (c_X2_canStep l w g v (k0 + 10 + (1 + (5 : Int32).toNatClampNeg)) E.2.2.1 I.2.2 (h_k0.2.2.2 (5 : Int32).toNatClampNeg (by decide))  ) (cwV 0 E.1.2.2.2.2 (gWs (C := "StarWalk$Place") mw_4_58 mw_3_182 mw_3_183 mw_1_4 mw_3_184) rfl rfl rfl (by decide +kernel) ⟨by decide, by decide⟩) (h_k0.2.2.2 (5 : Int32).toNatClampNeg (by decide)).1 ((ce_o (h_k0.2.2.2 (5 : Int32).toNatClampNeg (by decide)).2).trans rfl) rfl rfl hl.1 rfl (Nat.le_of_ble_eq_true rfl) dX1_weigh_62 ⟨Nat.le_refl _, Nat.le_refl _⟩ (fun r46 u47 H lo hp hPS => ?_)
      obtain ⟨hp, hex, hfr⟩ := hp
      obtain ⟨hu, p48⟩ := hp
      rw [hu] at hPS
      have I : Wo w g s.heap v H lo := ⟨hPS.1, hPS.2, I.2.2⟩
      refine bz_ne E (a := r46.toInt) rfl (tgt := 85) dX1_weigh_65 (by decide) (fun c49 => ?_) (fun c49 => ?_)
      ·
        refine lv_lconst (v := 0) hx hb dX1_weigh_85 (by decide) ?_
        refine lv_lstore (lv' := [(4, .long (0 : Int64)), (3, .ref (wq w (k0 + 10 + (1 + (6 : Int32).toNatClampNeg)))), (2, .ref (wq w (k0 + 10 + (1 + (5 : Int32).toNatClampNeg)))), (0, .ref (wq w k0)), (1, .int 5)]) hx hb dX1_weigh_86 hl (by decide) rfl (fun ls hl => ?_)
        refine lv_iconst (v := 0) hx hb dX1_weigh_88 (by decide) ?_
        refine lv_istore (lv' := [(6, .int 0), (4, .long (0 : Int64)), (3, .ref (wq w (k0 + 10 + (1 + (6 : Int32).toNatClampNeg)))), (2, .ref (wq w (k0 + 10 + (1 + (5 : Int32).toNatClampNeg)))), (0, .ref (wq w k0)), (1, .int 5)]) hx hb dX1_weigh_89 hl (by decide) rfl (fun ls hl => ?_)
        exact L_91 ((2147483647 - (0 : Int32).toInt).toNat + 1) _ _ v I (0 : Int64) (0 : Int32) (by decide) rz0 (Nat.lt_succ_self _) ls (lv_sub hl [4, 5, 3, 2, 1, 0] rfl)
      ·
        refine lv_aload_n hx hb dX1_weigh_68 rfl (lv_at hl 0 rfl) ?_
        refine lv_aload_n hx hb dX1_weigh_69 rfl (lv_at hl 1 rfl) ?_
        refine cVv E I (c_X2_become l w g v (k0 + 10 + (1 + (6 : Int32).toNatClampNeg)) (k0 + 10 + (1 + (5 : Int32).toNatClampNeg)) E.2.2.1 I.2.2 (h_k0.2.2.2 (6 : Int32).toNatClampNeg (by decide)) (h_k0.2.2.2 (5 : Int32).toNatClampNeg (by decide))  ) (cwV 1 E.1.2.2.2.2 (gWs (C := "StarWalk$Place") mw_4_50 mw_3_61 mw_3_62 mw_1_4 mw_3_63) rfl rfl rfl (by decide +kernel) ⟨by decide, by decide⟩) (h_k0.2.2.2 (6 : Int32).toNatClampNeg (by decide)).1 ((ce_o (h_k0.2.2.2 (6 : Int32).toNatClampNeg (by decide)).2).trans rfl) rfl rfl hl.1 rfl (Nat.le_of_ble_eq_true rfl) dX1_weigh_70 ⟨Nat.le_refl _, Nat.le_refl _⟩ (fun u50 H lo hp hPS => ?_)
        obtain ⟨hp, hex, hfr⟩ := hp
        obtain ⟨hwf, p51⟩ := hp
        have I : Wo w g s.heap u50 H lo := ⟨hPS.1, hPS.2, hwf⟩
        have rzu50 : ∀ k j : Nat, ¬ (k0 ≤ k ∧ k < k0 + 20) → u50.1 k j = v.1 k j := fun k j h => (hfr k j (fun z => h (by have cl5 : (5 : Int32).toNatClampNeg = 5 := rfl; have cl6 : (6 : Int32).toNatClampNeg = 6 := rfl; omega))).trans (rz0 k j h)
        refine lv_ldc2 (own := "StarWalk$Odds") hx hb E.1.2.2.2.1 (Ew E mw_4_59 rfl) dX1_weigh_73 ?_
        refine lv_aload_n hx hb dX1_weigh_76 rfl (lv_at hl 2 rfl) ?_
        refine lv_iload_n hx hb dX1_weigh_77 rfl (lv_at hl 3 rfl) ?_
        refine lv_iconst (v := 1) hx hb dX1_weigh_78 (by decide) ?_
        refine lv_iadd hx hb dX1_weigh_79 ?_
        refine lv_topi (fun x52 ex52 => ?_)
        obtain rfl : x52 = 6 := ex52.trans (by decide)
        refine cVl E I (c_X1_weigh_v6 l w g u50 k0 E.2.2.1 I.2.2 h_k0  ) (cwV 1 E.1.2.2.2.2 (gWs (C := "StarWalk$Odds") mw_4_51 mw_4_53 mw_s_24 mw_1_7 mw_4_54) rfl rfl rfl (by decide +kernel) ⟨by decide, by decide⟩) h_k0.1.1 ((ce_o h_k0.1.2).trans rfl) rfl rfl hl.1 rfl (Nat.le_of_ble_eq_true rfl) dX1_weigh_80 ⟨Nat.le_refl _, Nat.le_refl _⟩ (fun r53 u54 H lo hp hPS => ?_)
        obtain ⟨hp, hex, hfr⟩ := hp
        obtain ⟨hwf, p55⟩ := hp
        have I : Wo w g s.heap u54 H lo := ⟨hPS.1, hPS.2, hwf⟩
        have rzu54 : ∀ k j : Nat, ¬ (k0 ≤ k ∧ k < k0 + 20) → u54.1 k j = v.1 k j := fun k j h => (hfr k j (fun z => h (by omega))).trans (rzu50 k j h)
        refine lv_lmul hx hb dX1_weigh_83 ?_
        refine lv_topl (fun q56 eq56 => ?_)
        exact rL E I hr hlk (by rw [← hpost]; exact ⟨⟨I.2.2, trivial⟩, trivial, rzu54⟩) dX1_weigh_84
    ·
      exact B_24 _ _ I  rz0 ls (lv_sub hl [1, 0] rfl)
set_option maxHeartbeats 4000000 in
set_option maxRecDepth 100000 in
theorem c_X1_weigh_v4 (l : Launch) (w : Wp) (g : Nat → Nat → Int32) (v : St) (k0 : Nat) (hq : Inj w) (hw : WF (wk w) g v) (h_k0 : oO w k0) : CTl w l yX1_weigh (wsy yX1_weigh prog_3_method_3_code 8 (some .long)) (rmL 9) [.ref (wq w k0), .int 4] v (fun (r : Int64) (u : St) => (WF (wk w) g u ∧ True) ∧ (True) ∧ (∀ k j : Nat, ¬ (k0 ≤ k ∧ k < k0 + 20) → u.1 k j = v.1 k j)) := by
  generalize hpost : (fun (r : Int64) (u : St) => (WF (wk w) g u ∧ True) ∧ (True) ∧ (∀ k j : Nat, ¬ (k0 ≤ k ∧ k < k0 + 20) → u.1 k j = v.1 k j)) = post
  refine CTl.of prog_3_method_3_code 8 (some .long) "StarWalk$Odds" (by decide +kernel) rfl hq hw (Nat.le_of_ble_eq_true rfl) ?_
  intro pg en s m ar bl me cd ls E I hr hlk hl
  have hx := E.1.1
  have hb := E.1.2.1
  have hl : lv_has ls 8 [(0, .ref (wq w k0)), (1, .int 4)] := hl
  have rz0 : ∀ k j : Nat, ¬ (k0 ≤ k ∧ k < k0 + 20) → v.1 k j = v.1 k j := fun _ _ _ => rfl
  have L_91 : ∀ (n : Nat), ∀ (H : Heap) (lo : List Loc) (v_91 : St), Wo w g s.heap v_91 H lo → ∀ (y91_4 : Int64) (y91_6 : Int32), (0 ≤ y91_6.toInt ∧ y91_6.toInt ≤ 2) → (∀ k j : Nat, ¬ (k0 ≤ k ∧ k < k0 + 20) → v_91.1 k j = v.1 k j) → (2147483647 - y91_6.toInt).toNat < n → ∀ (ls : Array Slot), lv_has ls 8 [(0, .ref (wq w k0)), (1, .int 4), (2, .ref (wq w (k0 + 10 + (1 + (4 : Int32).toNatClampNeg)))), (3, .ref (wq w (k0 + 10 + (1 + (5 : Int32).toNatClampNeg)))), (4, .long y91_4), (6, .int y91_6)] → W pg l en (rmL 9) s m ar bl me cd H lo 0 0 (Zl w bl ar s post) (F0 m 91 ls []) := by
    intro n
    induction n with
    | zero => intro H lo v_91 I y91_4 y91_6 hy91_6 rB91_Z hm; exact absurd hm (Nat.not_lt_zero _)
    | succ n ih_91 =>
      intro H lo v_91 I y91_4 y91_6 hy91_6 rB91_Z hm ls hl
      have B_195 : ∀ (H : Heap) (lo : List Loc) (v_195 : St), Wo w g s.heap v_195 H lo → ∀ (y195_4 : Int64), (0 ≤ y91_6.toInt ∧ y91_6.toInt ≤ 1) → (∀ k j : Nat, ¬ (k0 ≤ k ∧ k < k0 + 20) → v_195.1 k j = v.1 k j) → ∀ (ls : Array Slot), lv_has ls 8 [(0, .ref (wq w k0)), (1, .int 4), (2, .ref (wq w (k0 + 10 + (1 + (4 : Int32).toNatClampNeg)))), (3, .ref (wq w (k0 + 10 + (1 + (5 : Int32).toNatClampNeg)))), (4, .long y195_4), (6, .int y91_6)] → W pg l en (rmL 9) s m ar bl me cd H lo 0 0 (Zl w bl ar s post) (F0 m 195 ls []) := by
        intro H lo v_195 I y195_4 hE195_0 rB195_Z ls hl
        obtain ⟨x1, ex1⟩ : ∃ z : Int32, z = y91_6 + 1 := ⟨_, rfl⟩
        have hx1 : x1.toInt = y91_6.toInt + (1) := by rw [ex1]; exact adI (a := y91_6.toInt) (b := 1) rfl rfl (by omega) (by omega)
        refine lv_iinc (v := x1) (lv' := [(6, .int x1), (0, .ref (wq w k0)), (1, .int 4), (2, .ref (wq w (k0 + 10 + (1 + (4 : Int32).toNatClampNeg)))), (3, .ref (wq w (k0 + 10 + (1 + (5 : Int32).toNatClampNeg)))), (4, .long y195_4)]) hx hb dX1_weigh_195 hl (k := 5) rfl (by rw [ex1]; rfl) (by decide) rfl (fun ls hl => ?_)
        refine lv_goto (tgt := 91) hx hb dX1_weigh_198 (by decide) ?_
        exact ih_91 _ _ v_195 I y195_4 x1 (by omega) rB195_Z (by omega) ls (lv_sub hl [1, 2, 3, 4, 5, 0] rfl)
      have B_155 : ∀ (H : Heap) (lo : List Loc) (v_155 : St), Wo w g s.heap v_155 H lo → ∀ (y155_7 : Int32) (z155_1 : Int32) (z155_2 : Int32) (z155_3 : Int32), (1 ≤ y155_7.toInt) → (0 ≤ z155_3.toInt ∧ z155_3.toInt ≤ 1) → (0 ≤ y91_6.toInt ∧ y91_6.toInt ≤ 1) → (∀ k j : Nat, ¬ (k0 ≤ k ∧ k < k0 + 20) → v_155.1 k j = v.1 k j) → ∀ (ls : Array Slot), lv_has ls 8 [(0, .ref (wq w k0)), (1, .int 4), (2, .ref (wq w (k0 + 10 + (1 + (4 : Int32).toNatClampNeg)))), (3, .ref (wq w (k0 + 10 + (1 + (5 : Int32).toNatClampNeg)))), (4, .long y91_4), (6, .int y91_6), (7, .int y155_7)] → W pg l en (rmL 9) s m ar bl me cd H lo 0 0 (Zl w bl ar s post) (F0 m 155 ls [.int z155_3, .int z155_2, .int z155_1, .ref (wq w (k0 + 1))]) := by
        intro H lo v_155 I y155_7 z155_1 z155_2 z155_3 hy155_7 hz155_3 hE155_0 rB155_Z ls hl
        refine cNi E I (c_X7_withBit l w g v_155 z155_1 z155_2 z155_3 E.2.2.1 I.2.2   ) ⟨va_cnB 3 E.1.2.2.2.2 (gYs mw_2_230) rfl rfl rfl (E.2.2.2.1.2.2.2.2.2.2.2.2.2) (Ew E mw_1_1 rfl) (by decide +kernel) ⟨by decide, by decide⟩, Ew E mw_2_229 rfl, trivial⟩ rfl hl.1 rfl (Nat.le_of_ble_eq_true rfl) dX1_weigh_155 ⟨Nat.le_refl _, Nat.le_refl _⟩ (fun r2 u3 H lo hp hPS => ?_)
        obtain ⟨hp, hex, hfr⟩ := hp
        obtain ⟨hu, p4⟩ := hp
        rw [hu] at hPS
        have I : Wo w g s.heap v_155 H lo := ⟨hPS.1, hPS.2, I.2.2⟩
        refine p_Night_clouds E I h_k0.2.1.1 mw_1_106 dX1_weigh_158 (fun H lo I => ?_)
        generalize ev5 : up1 v_155 (k0 + 1) 11 r2 = v5 at I
        have rzv5 : ∀ k j : Nat, ¬ (k0 ≤ k ∧ k < k0 + 20) → v5.1 k j = v.1 k j := fun k j h => fz_u ev5 (by omega) (rB155_Z k j h)
        refine lv_aload_n hx hb dX1_weigh_161 rfl (lv_at hl 0 rfl) ?_
        refine g_Odds_night E I h_k0.1 mw_2_31 dX1_weigh_162 ?_
        refine lv_aload_n hx hb dX1_weigh_165 rfl (lv_at hl 3 rfl) ?_
        refine lv_aload_n hx hb dX1_weigh_166 rfl (lv_at hl 0 rfl) ?_
        refine g_Odds_night E I h_k0.1 mw_2_31 dX1_weigh_167 ?_
        refine g_Night_plannedAims E I h_k0.2.1.1 mw_1_117 dX1_weigh_170 ?_
        refine lv_iload_n hx hb dX1_weigh_173 rfl (lv_at hl 1 rfl) ?_
        refine ga_12 E I h_k0.2.1.2.2.2.2.2.2.1 (by decide) dX1_weigh_174 ?_
        refine lv_topi (fun x6 ex6 => ?_)
        refine cVi E I (c_X0_step l w g v5 (k0 + 1) (k0 + 10 + (1 + (5 : Int32).toNatClampNeg)) x6 E.2.2.1 I.2.2 h_k0.2.1 (h_k0.2.2.2 (5 : Int32).toNatClampNeg (by decide))  ) (cwV 2 E.1.2.2.2.2 (gWs (C := "StarWalk$Night") mw_4_61 mw_3_177 mw_3_178 mw_1_3 mw_3_179) rfl rfl rfl (by decide +kernel) ⟨by decide, by decide⟩) h_k0.2.1.1.1 ((ce_o h_k0.2.1.1.2).trans rfl) rfl rfl hl.1 rfl (Nat.le_of_ble_eq_true rfl) dX1_weigh_175 ⟨Nat.le_refl _, Nat.le_refl _⟩ (fun r7 u8 H lo hp hPS => ?_)
        obtain ⟨hp, hex, hfr⟩ := hp
        obtain ⟨hwf, p9⟩ := hp
        have I : Wo w g s.heap u8 H lo := ⟨hPS.1, hPS.2, hwf⟩
        have rzu8 : ∀ k j : Nat, ¬ (k0 ≤ k ∧ k < k0 + 20) → u8.1 k j = v.1 k j := fun k j h => (hfr k j (fun z => h (by have cl5 : (5 : Int32).toNatClampNeg = 5 := rfl; omega))).trans (rzv5 k j h)
        refine lv_pop hx hb dX1_weigh_178 rfl ?_
        refine lv_lload hx hb dX1_weigh_179 (lv_at hl 4 rfl) ?_
        refine lv_iload hx hb dX1_weigh_181 (lv_at hl 6 rfl) ?_
        refine lv_i2l (v := y155_7.toInt64) hx hb dX1_weigh_183 rfl ?_
        refine lv_aload_n hx hb dX1_weigh_184 rfl (lv_at hl 0 rfl) ?_
        refine lv_iload_n hx hb dX1_weigh_185 rfl (lv_at hl 1 rfl) ?_
        refine lv_iconst (v := 1) hx hb dX1_weigh_186 (by decide) ?_
        refine lv_iadd hx hb dX1_weigh_187 ?_
        refine lv_topi (fun x11 ex11 => ?_)
        obtain rfl : x11 = 5 := ex11.trans (by decide)
        refine cVl E I (c_X1_weigh_v5 l w g u8 k0 E.2.2.1 I.2.2 h_k0  ) (cwV 1 E.1.2.2.2.2 (gWs (C := "StarWalk$Odds") mw_4_51 mw_4_53 mw_s_24 mw_1_7 mw_4_54) rfl rfl rfl (by decide +kernel) ⟨by decide, by decide⟩) h_k0.1.1 ((ce_o h_k0.1.2).trans rfl) rfl rfl hl.1 rfl (Nat.le_of_ble_eq_true rfl) dX1_weigh_188 ⟨Nat.le_refl _, Nat.le_refl _⟩ (fun r12 u13 H lo hp hPS => ?_)
        obtain ⟨hp, hex, hfr⟩ := hp
        obtain ⟨hwf, p14⟩ := hp
        have I : Wo w g s.heap u13 H lo := ⟨hPS.1, hPS.2, hwf⟩
        have rzu13 : ∀ k j : Nat, ¬ (k0 ≤ k ∧ k < k0 + 20) → u13.1 k j = v.1 k j := fun k j h => (hfr k j (fun z => h (by omega))).trans (rzu8 k j h)
        refine lv_lmul hx hb dX1_weigh_191 ?_
        refine lv_topl (fun q15 eq15 => ?_)
        refine lv_ladd hx hb dX1_weigh_192 ?_
        refine lv_topl (fun q16 eq16 => ?_)
        refine lv_lstore (lv' := [(4, .long q16), (0, .ref (wq w k0)), (1, .int 4), (2, .ref (wq w (k0 + 10 + (1 + (4 : Int32).toNatClampNeg)))), (3, .ref (wq w (k0 + 10 + (1 + (5 : Int32).toNatClampNeg)))), (6, .int y91_6), (7, .int y155_7)]) hx hb dX1_weigh_193 hl (by decide) rfl (fun ls hl => ?_)
        exact B_195 _ _ u13 I q16 (by omega) rzu13 ls (lv_sub hl [1, 2, 3, 4, 0, 5] rfl)
      have B_117 : ∀ (H : Heap) (lo : List Loc) (v_117 : St), Wo w g s.heap v_117 H lo → ∀ (z117_0 : Int32), (0 ≤ y91_6.toInt ∧ y91_6.toInt ≤ 1) → (∀ k j : Nat, ¬ (k0 ≤ k ∧ k < k0 + 20) → v_117.1 k j = v.1 k j) → ∀ (ls : Array Slot), lv_has ls 8 [(0, .ref (wq w k0)), (1, .int 4), (2, .ref (wq w (k0 + 10 + (1 + (4 : Int32).toNatClampNeg)))), (3, .ref (wq w (k0 + 10 + (1 + (5 : Int32).toNatClampNeg)))), (4, .long y91_4), (6, .int y91_6)] → W pg l en (rmL 9) s m ar bl me cd H lo 0 0 (Zl w bl ar s post) (F0 m 117 ls [.int z117_0]) := by
        intro H lo v_117 I z117_0 hE117_0 rB117_Z ls hl
        refine lv_istore (lv' := [(7, .int z117_0), (0, .ref (wq w k0)), (1, .int 4), (2, .ref (wq w (k0 + 10 + (1 + (4 : Int32).toNatClampNeg)))), (3, .ref (wq w (k0 + 10 + (1 + (5 : Int32).toNatClampNeg)))), (4, .long y91_4), (6, .int y91_6)]) hx hb dX1_weigh_117 hl (by decide) rfl (fun ls hl => ?_)
        refine lv_iload hx hb dX1_weigh_119 (lv_at hl 0 rfl) ?_
        refine bz_le E (a := z117_0.toInt) rfl (tgt := 195) dX1_weigh_121 (by decide) (fun c17 => ?_) (fun c17 => ?_)
        ·
          exact B_195 _ _ v_117 I y91_4 (by omega) rB117_Z ls (lv_sub hl [1, 2, 3, 4, 5, 6] rfl)
        ·
          refine lv_aload_n hx hb dX1_weigh_124 rfl (lv_at hl 4 rfl) ?_
          refine lv_aload_n hx hb dX1_weigh_125 rfl (lv_at hl 3 rfl) ?_
          refine cVv E I (c_X2_become l w g v_117 (k0 + 10 + (1 + (5 : Int32).toNatClampNeg)) (k0 + 10 + (1 + (4 : Int32).toNatClampNeg)) E.2.2.1 I.2.2 (h_k0.2.2.2 (5 : Int32).toNatClampNeg (by decide)) (h_k0.2.2.2 (4 : Int32).toNatClampNeg (by decide))  ) (cwV 1 E.1.2.2.2.2 (gWs (C := "StarWalk$Place") mw_4_50 mw_3_61 mw_3_62 mw_1_4 mw_3_63) rfl rfl rfl (by decide +kernel) ⟨by decide, by decide⟩) (h_k0.2.2.2 (5 : Int32).toNatClampNeg (by decide)).1 ((ce_o (h_k0.2.2.2 (5 : Int32).toNatClampNeg (by decide)).2).trans rfl) rfl rfl hl.1 rfl (Nat.le_of_ble_eq_true rfl) dX1_weigh_126 ⟨Nat.le_refl _, Nat.le_refl _⟩ (fun u18 H lo hp hPS => ?_)
          obtain ⟨hp, hex, hfr⟩ := hp
          obtain ⟨hwf, p19⟩ := hp
          have I : Wo w g s.heap u18 H lo := ⟨hPS.1, hPS.2, hwf⟩
          have rzu18 : ∀ k j : Nat, ¬ (k0 ≤ k ∧ k < k0 + 20) → u18.1 k j = v.1 k j := fun k j h => (hfr k j (fun z => h (by have cl4 : (4 : Int32).toNatClampNeg = 4 := rfl; have cl5 : (5 : Int32).toNatClampNeg = 5 := rfl; omega))).trans (rB117_Z k j h)
          refine lv_aload_n hx hb dX1_weigh_129 rfl (lv_at hl 1 rfl) ?_
          refine g_Odds_night E I h_k0.1 mw_2_31 dX1_weigh_130 ?_
          refine lv_aload_n hx hb dX1_weigh_133 rfl (lv_at hl 1 rfl) ?_
          refine g_Odds_night E I h_k0.1 mw_2_31 dX1_weigh_134 ?_
          refine g_Night_clouds E I h_k0.2.1.1 mw_1_106 dX1_weigh_137 ?_
          refine lv_topi (fun x20 ex20 => ?_)
          refine lv_aload_n hx hb dX1_weigh_140 rfl (lv_at hl 3 rfl) ?_
          refine g_Place_hour E I (h_k0.2.2.2 (4 : Int32).toNatClampNeg (by decide)) mw_1_46 dX1_weigh_141 ?_
          refine lv_topi (fun x21 ex21 => ?_)
          refine lv_iload hx hb dX1_weigh_144 (lv_at hl 6 rfl) ?_
          refine lv_iconst (v := 1) hx hb dX1_weigh_146 (by decide) ?_
          refine bi_ne E (a := y91_6.toInt) (b := 1) rfl rfl (tgt := 154) dX1_weigh_147 (by decide) (fun c22 => ?_) (fun c22 => ?_)
          ·
            refine lv_iconst (v := 0) hx hb dX1_weigh_154 (by decide) ?_
            exact B_155 _ _ u18 I z117_0 x20 x21 (0 : Int32) (by omega) (by decide) (by omega) rzu18 ls (lv_sub hl [1, 2, 3, 4, 5, 6, 0] rfl)
          ·
            refine lv_iconst (v := 1) hx hb dX1_weigh_150 (by decide) ?_
            refine lv_goto (tgt := 155) hx hb dX1_weigh_151 (by decide) ?_
            exact B_155 _ _ u18 I z117_0 x20 x21 (1 : Int32) (by omega) (by decide) (by omega) rzu18 ls (lv_sub hl [1, 2, 3, 4, 5, 6, 0] rfl)
      refine lv_iload hx hb dX1_weigh_91 (lv_at hl 5 rfl) ?_
      refine lv_iconst (v := 1) hx hb dX1_weigh_93 (by decide) ?_
      refine bi_gt E (a := y91_6.toInt) (b := 1) rfl rfl (tgt := 201) dX1_weigh_94 (by decide) (fun c23 => ?_) (fun c23 => ?_)
      ·
        refine lv_lload hx hb dX1_weigh_201 (lv_at hl 4 rfl) ?_
        exact rL E I hr hlk (by rw [← hpost]; exact ⟨⟨I.2.2, trivial⟩, trivial, rB91_Z⟩) dX1_weigh_203
      ·
        refine lv_iload hx hb dX1_weigh_97 (lv_at hl 5 rfl) ?_
        refine lv_iconst (v := 1) hx hb dX1_weigh_99 (by decide) ?_
        refine bi_ne E (a := y91_6.toInt) (b := 1) rfl rfl (tgt := 110) dX1_weigh_100 (by decide) (fun c24 => ?_) (fun c24 => ?_)
        ·
          refine lv_bipush (v := 10) hx hb dX1_weigh_110 (by decide) ?_
          refine lv_aload_n hx hb dX1_weigh_112 rfl (lv_at hl 0 rfl) ?_
          refine g_Odds_tenths E I h_k0.1 mw_2_33 dX1_weigh_113 ?_
          refine lv_topi (fun x25 ex25 => ?_)
          refine lv_isub hx hb dX1_weigh_116 ?_
          refine lv_topi (fun x26 ex26 => ?_)
          exact B_117 _ _ v_91 I x26 (by omega) rB91_Z ls (lv_sub hl [0, 1, 2, 3, 4, 5] rfl)
        ·
          refine lv_aload_n hx hb dX1_weigh_103 rfl (lv_at hl 0 rfl) ?_
          refine g_Odds_tenths E I h_k0.1 mw_2_33 dX1_weigh_104 ?_
          refine lv_topi (fun x27 ex27 => ?_)
          refine lv_goto (tgt := 117) hx hb dX1_weigh_107 (by decide) ?_
          exact B_117 _ _ v_91 I x27 (by omega) rB91_Z ls (lv_sub hl [0, 1, 2, 3, 4, 5] rfl)
  have B_24 : ∀ (H : Heap) (lo : List Loc), Wo w g s.heap v H lo → (∀ k j : Nat, ¬ (k0 ≤ k ∧ k < k0 + 20) → v.1 k j = v.1 k j) → ∀ (ls : Array Slot), lv_has ls 8 [(0, .ref (wq w k0)), (2, .ref (wq w (k0 + 10 + (1 + (4 : Int32).toNatClampNeg))))] → W pg l en (rmL 9) s m ar bl me cd H lo 0 0 (Zl w bl ar s post) (F0 m 24 ls []) := by
    intro H lo  I  rB24_Z ls hl
    refine lv_aload_n hx hb dX1_weigh_24 rfl (lv_at hl 0 rfl) ?_
    refine g_Odds_ofMiles E I h_k0.1 mw_2_34 dX1_weigh_25 ?_
    refine lv_topi (fun x28 ex28 => ?_)
    refine bz_eq E (a := x28.toInt) rfl (tgt := 39) dX1_weigh_28 (by decide) (fun c29 => ?_) (fun c29 => ?_)
    ·
      refine lv_aload_n hx hb dX1_weigh_39 rfl (lv_at hl 0 rfl) ?_
      refine g_Odds_night E I h_k0.1 mw_2_31 dX1_weigh_40 ?_
      refine lv_aload_n hx hb dX1_weigh_43 rfl (lv_at hl 1 rfl) ?_
      refine cVi E I (c_X0_isAtWell l w g v (k0 + 1) (k0 + 10 + (1 + (4 : Int32).toNatClampNeg)) E.2.2.1 I.2.2 h_k0.2.1 (h_k0.2.2.2 (4 : Int32).toNatClampNeg (by decide))  ) (cwV 1 E.1.2.2.2.2 (gWs (C := "StarWalk$Night") mw_4_56 mw_3_76 mw_3_77 mw_1_3 mw_3_78) rfl rfl rfl (by decide +kernel) ⟨by decide, by decide⟩) h_k0.2.1.1.1 ((ce_o h_k0.2.1.1.2).trans rfl) rfl rfl hl.1 rfl (Nat.le_of_ble_eq_true rfl) dX1_weigh_44 ⟨Nat.le_refl _, Nat.le_refl _⟩ (fun r30 u31 H lo hp hPS => ?_)
      obtain ⟨hp, hex, hfr⟩ := hp
      obtain ⟨hu, p32⟩ := hp
      rw [hu] at hPS
      have I : Wo w g s.heap v H lo := ⟨hPS.1, hPS.2, I.2.2⟩
      refine cNi E I (c_X7_oneIf l w g v r30 E.2.2.1 I.2.2   ) ⟨va_cnB 1 E.1.2.2.2.2 (gYs mw_3_88) rfl rfl rfl (E.2.2.2.1.2.2.2.2.2.2.2.2.1) (Ew E mw_1_1 rfl) (by decide +kernel) ⟨by decide, by decide⟩, Ew E mw_3_87 rfl, trivial⟩ rfl hl.1 rfl (Nat.le_of_ble_eq_true rfl) dX1_weigh_47 ⟨Nat.le_refl _, Nat.le_refl _⟩ (fun r33 u34 H lo hp hPS => ?_)
      obtain ⟨hp, hex, hfr⟩ := hp
      obtain ⟨hu, p35⟩ := hp
      rw [hu] at hPS
      have I : Wo w g s.heap v H lo := ⟨hPS.1, hPS.2, I.2.2⟩
      refine lv_i2l (v := r33.toInt64) hx hb dX1_weigh_50 rfl ?_
      exact rL E I hr hlk (by rw [← hpost]; exact ⟨⟨I.2.2, trivial⟩, trivial, rB24_Z⟩) dX1_weigh_51
    ·
      refine lv_aload_n hx hb dX1_weigh_31 rfl (lv_at hl 1 rfl) ?_
      refine g_Place_miles E I (h_k0.2.2.2 (4 : Int32).toNatClampNeg (by decide)) mw_1_50 dX1_weigh_32 ?_
      refine lv_topi (fun x37 ex37 => ?_)
      refine lv_i2l (v := x37.toInt64) hx hb dX1_weigh_35 rfl ?_
      refine lv_goto (tgt := 51) hx hb dX1_weigh_36 (by decide) ?_
      exact rL E I hr hlk (by rw [← hpost]; exact ⟨⟨I.2.2, trivial⟩, trivial, rB24_Z⟩) dX1_weigh_51
  refine lv_aload_n hx hb dX1_weigh_0 rfl (lv_at hl 0 rfl) ?_
  refine g_Odds_places E I h_k0.1 mw_2_32 dX1_weigh_1 ?_
  refine lv_iload_n hx hb dX1_weigh_4 rfl (lv_at hl 1 rfl) ?_
  refine ga_22 E I h_k0.2.2.1 (by decide) dX1_weigh_5 ?_
  refine lv_astore_n (lv' := [(2, .ref (wq w (k0 + 10 + (1 + (4 : Int32).toNatClampNeg)))), (0, .ref (wq w k0)), (1, .int 4)]) hx hb dX1_weigh_6 rfl hl (by decide) rfl (fun ls hl => ?_)
  refine lv_iload_n hx hb dX1_weigh_7 rfl (lv_at hl 2 rfl) ?_
  refine lv_bipush (v := 8) hx hb dX1_weigh_8 (by decide) ?_
  refine bi_ge E (a := 4) (b := 8) rfl rfl (tgt := 24) dX1_weigh_10 (by decide) (fun c39 => ?_) (fun c39 => ?_)
  ·
    exfalso; omega
  ·
    refine lv_aload_n hx hb dX1_weigh_13 rfl (lv_at hl 1 rfl) ?_
    refine g_Odds_night E I h_k0.1 mw_2_31 dX1_weigh_14 ?_
    refine lv_iload_n hx hb dX1_weigh_17 rfl (lv_at hl 2 rfl) ?_
    refine cVi E I (c_X0_hasPlanned l w g v (k0 + 1) (4 : Int32) E.2.2.1 I.2.2 h_k0.2.1  ) (cwV 1 E.1.2.2.2.2 (gWs (C := "StarWalk$Night") mw_4_55 mw_3_45 mw_3_46 mw_1_3 mw_3_47) rfl rfl rfl (by decide +kernel) ⟨by decide, by decide⟩) h_k0.2.1.1.1 ((ce_o h_k0.2.1.1.2).trans rfl) rfl rfl hl.1 rfl (Nat.le_of_ble_eq_true rfl) dX1_weigh_18 ⟨Nat.le_refl _, Nat.le_refl _⟩ (fun r40 u41 H lo hp hPS => ?_)
    have iz42 : (4 : Int32).toInt = 4 := rfl
    obtain ⟨hp, hex, hfr⟩ := hp
    obtain ⟨hu, p43⟩ := hp
    rw [hu] at hPS
    have I : Wo w g s.heap v H lo := ⟨hPS.1, hPS.2, I.2.2⟩
    refine bz_ne E (a := r40.toInt) rfl (tgt := 52) dX1_weigh_21 (by decide) (fun c44 => ?_) (fun c44 => ?_)
    ·
      refine lv_aload_n hx hb dX1_weigh_52 rfl (lv_at hl 1 rfl) ?_
      refine g_Odds_places E I h_k0.1 mw_2_32 dX1_weigh_53 ?_
      refine lv_iload_n hx hb dX1_weigh_56 rfl (lv_at hl 2 rfl) ?_
      refine lv_iconst (v := 1) hx hb dX1_weigh_57 (by decide) ?_
      refine lv_iadd hx hb dX1_weigh_58 ?_
      refine lv_topi (fun x45 ex45 => ?_)
      obtain rfl : x45 = 5 := ex45.trans (by decide)
      refine ga_22 E I h_k0.2.2.1 (by decide) dX1_weigh_59 ?_
      refine lv_astore_n (lv' := [(3, .ref (wq w (k0 + 10 + (1 + (5 : Int32).toNatClampNeg)))), (2, .ref (wq w (k0 + 10 + (1 + (4 : Int32).toNatClampNeg)))), (0, .ref (wq w k0)), (1, .int 4)]) hx hb dX1_weigh_60 rfl hl (by decide) rfl (fun ls hl => ?_)
      refine lv_aload_n hx hb dX1_weigh_61 rfl (lv_at hl 1 rfl) ?_
      refine cVi E I (c_X2_canStep l w g v (k0 + 10 + (1 + (4 : Int32).toNatClampNeg)) E.2.2.1 I.2.2 (h_k0.2.2.2 (4 : Int32).toNatClampNeg (by decide))  ) (cwV 0 E.1.2.2.2.2 (gWs (C := "StarWalk$Place") mw_4_58 mw_3_182 mw_3_183 mw_1_4 mw_3_184) rfl rfl rfl (by decide +kernel) ⟨by decide, by decide⟩) (h_k0.2.2.2 (4 : Int32).toNatClampNeg (by decide)).1 ((ce_o (h_k0.2.2.2 (4 : Int32).toNatClampNeg (by decide)).2).trans rfl) rfl rfl hl.1 rfl (Nat.le_of_ble_eq_true rfl) dX1_weigh_62 ⟨Nat.le_refl _, Nat.le_refl _⟩ (fun r46 u47 H lo hp hPS => ?_)
      obtain ⟨hp, hex, hfr⟩ := hp
      obtain ⟨hu, p48⟩ := hp
      rw [hu] at hPS
      have I : Wo w g s.heap v H lo := ⟨hPS.1, hPS.2, I.2.2⟩
      refine bz_ne E (a := r46.toInt) rfl (tgt := 85) dX1_weigh_65 (by decide) (fun c49 => ?_) (fun c49 => ?_)
      ·
        refine lv_lconst (v := 0) hx hb dX1_weigh_85 (by decide) ?_
        refine lv_lstore (lv' := [(4, .long (0 : Int64)), (3, .ref (wq w (k0 + 10 + (1 + (5 : Int32).toNatClampNeg)))), (2, .ref (wq w (k0 + 10 + (1 + (4 : Int32).toNatClampNeg)))), (0, .ref (wq w k0)), (1, .int 4)]) hx hb dX1_weigh_86 hl (by decide) rfl (fun ls hl => ?_)
        refine lv_iconst (v := 0) hx hb dX1_weigh_88 (by decide) ?_
        refine lv_istore (lv' := [(6, .int 0), (4, .long (0 : Int64)), (3, .ref (wq w (k0 + 10 + (1 + (5 : Int32).toNatClampNeg)))), (2, .ref (wq w (k0 + 10 + (1 + (4 : Int32).toNatClampNeg)))), (0, .ref (wq w k0)), (1, .int 4)]) hx hb dX1_weigh_89 hl (by decide) rfl (fun ls hl => ?_)
        exact L_91 ((2147483647 - (0 : Int32).toInt).toNat + 1) _ _ v I (0 : Int64) (0 : Int32) (by decide) rz0 (Nat.lt_succ_self _) ls (lv_sub hl [4, 5, 3, 2, 1, 0] rfl)
      ·
        refine lv_aload_n hx hb dX1_weigh_68 rfl (lv_at hl 0 rfl) ?_
        refine lv_aload_n hx hb dX1_weigh_69 rfl (lv_at hl 1 rfl) ?_
        refine cVv E I (c_X2_become l w g v (k0 + 10 + (1 + (5 : Int32).toNatClampNeg)) (k0 + 10 + (1 + (4 : Int32).toNatClampNeg)) E.2.2.1 I.2.2 (h_k0.2.2.2 (5 : Int32).toNatClampNeg (by decide)) (h_k0.2.2.2 (4 : Int32).toNatClampNeg (by decide))  ) (cwV 1 E.1.2.2.2.2 (gWs (C := "StarWalk$Place") mw_4_50 mw_3_61 mw_3_62 mw_1_4 mw_3_63) rfl rfl rfl (by decide +kernel) ⟨by decide, by decide⟩) (h_k0.2.2.2 (5 : Int32).toNatClampNeg (by decide)).1 ((ce_o (h_k0.2.2.2 (5 : Int32).toNatClampNeg (by decide)).2).trans rfl) rfl rfl hl.1 rfl (Nat.le_of_ble_eq_true rfl) dX1_weigh_70 ⟨Nat.le_refl _, Nat.le_refl _⟩ (fun u50 H lo hp hPS => ?_)
        obtain ⟨hp, hex, hfr⟩ := hp
        obtain ⟨hwf, p51⟩ := hp
        have I : Wo w g s.heap u50 H lo := ⟨hPS.1, hPS.2, hwf⟩
        have rzu50 : ∀ k j : Nat, ¬ (k0 ≤ k ∧ k < k0 + 20) → u50.1 k j = v.1 k j := fun k j h => (hfr k j (fun z => h (by have cl4 : (4 : Int32).toNatClampNeg = 4 := rfl; have cl5 : (5 : Int32).toNatClampNeg = 5 := rfl; omega))).trans (rz0 k j h)
        refine lv_ldc2 (own := "StarWalk$Odds") hx hb E.1.2.2.2.1 (Ew E mw_4_59 rfl) dX1_weigh_73 ?_
        refine lv_aload_n hx hb dX1_weigh_76 rfl (lv_at hl 2 rfl) ?_
        refine lv_iload_n hx hb dX1_weigh_77 rfl (lv_at hl 3 rfl) ?_
        refine lv_iconst (v := 1) hx hb dX1_weigh_78 (by decide) ?_
        refine lv_iadd hx hb dX1_weigh_79 ?_
        refine lv_topi (fun x52 ex52 => ?_)
        obtain rfl : x52 = 5 := ex52.trans (by decide)
        refine cVl E I (c_X1_weigh_v5 l w g u50 k0 E.2.2.1 I.2.2 h_k0  ) (cwV 1 E.1.2.2.2.2 (gWs (C := "StarWalk$Odds") mw_4_51 mw_4_53 mw_s_24 mw_1_7 mw_4_54) rfl rfl rfl (by decide +kernel) ⟨by decide, by decide⟩) h_k0.1.1 ((ce_o h_k0.1.2).trans rfl) rfl rfl hl.1 rfl (Nat.le_of_ble_eq_true rfl) dX1_weigh_80 ⟨Nat.le_refl _, Nat.le_refl _⟩ (fun r53 u54 H lo hp hPS => ?_)
        obtain ⟨hp, hex, hfr⟩ := hp
        obtain ⟨hwf, p55⟩ := hp
        have I : Wo w g s.heap u54 H lo := ⟨hPS.1, hPS.2, hwf⟩
        have rzu54 : ∀ k j : Nat, ¬ (k0 ≤ k ∧ k < k0 + 20) → u54.1 k j = v.1 k j := fun k j h => (hfr k j (fun z => h (by omega))).trans (rzu50 k j h)
        refine lv_lmul hx hb dX1_weigh_83 ?_
        refine lv_topl (fun q56 eq56 => ?_)
        exact rL E I hr hlk (by rw [← hpost]; exact ⟨⟨I.2.2, trivial⟩, trivial, rzu54⟩) dX1_weigh_84
    ·
      exact B_24 _ _ I  rz0 ls (lv_sub hl [1, 0] rfl)
set_option maxHeartbeats 4000000 in
set_option maxRecDepth 100000 in
theorem c_X1_weigh_v3 (l : Launch) (w : Wp) (g : Nat → Nat → Int32) (v : St) (k0 : Nat) (hq : Inj w) (hw : WF (wk w) g v) (h_k0 : oO w k0) : CTl w l yX1_weigh (wsy yX1_weigh prog_3_method_3_code 8 (some .long)) (rmL 10) [.ref (wq w k0), .int 3] v (fun (r : Int64) (u : St) => (WF (wk w) g u ∧ True) ∧ (True) ∧ (∀ k j : Nat, ¬ (k0 ≤ k ∧ k < k0 + 20) → u.1 k j = v.1 k j)) := by
  generalize hpost : (fun (r : Int64) (u : St) => (WF (wk w) g u ∧ True) ∧ (True) ∧ (∀ k j : Nat, ¬ (k0 ≤ k ∧ k < k0 + 20) → u.1 k j = v.1 k j)) = post
  refine CTl.of prog_3_method_3_code 8 (some .long) "StarWalk$Odds" (by decide +kernel) rfl hq hw (Nat.le_of_ble_eq_true rfl) ?_
  intro pg en s m ar bl me cd ls E I hr hlk hl
  have hx := E.1.1
  have hb := E.1.2.1
  have hl : lv_has ls 8 [(0, .ref (wq w k0)), (1, .int 3)] := hl
  have rz0 : ∀ k j : Nat, ¬ (k0 ≤ k ∧ k < k0 + 20) → v.1 k j = v.1 k j := fun _ _ _ => rfl
  have L_91 : ∀ (n : Nat), ∀ (H : Heap) (lo : List Loc) (v_91 : St), Wo w g s.heap v_91 H lo → ∀ (y91_4 : Int64) (y91_6 : Int32), (0 ≤ y91_6.toInt ∧ y91_6.toInt ≤ 2) → (∀ k j : Nat, ¬ (k0 ≤ k ∧ k < k0 + 20) → v_91.1 k j = v.1 k j) → (2147483647 - y91_6.toInt).toNat < n → ∀ (ls : Array Slot), lv_has ls 8 [(0, .ref (wq w k0)), (1, .int 3), (2, .ref (wq w (k0 + 10 + (1 + (3 : Int32).toNatClampNeg)))), (3, .ref (wq w (k0 + 10 + (1 + (4 : Int32).toNatClampNeg)))), (4, .long y91_4), (6, .int y91_6)] → W pg l en (rmL 10) s m ar bl me cd H lo 0 0 (Zl w bl ar s post) (F0 m 91 ls []) := by
    intro n
    induction n with
    | zero => intro H lo v_91 I y91_4 y91_6 hy91_6 rB91_Z hm; exact absurd hm (Nat.not_lt_zero _)
    | succ n ih_91 =>
      intro H lo v_91 I y91_4 y91_6 hy91_6 rB91_Z hm ls hl
      have B_195 : ∀ (H : Heap) (lo : List Loc) (v_195 : St), Wo w g s.heap v_195 H lo → ∀ (y195_4 : Int64), (0 ≤ y91_6.toInt ∧ y91_6.toInt ≤ 1) → (∀ k j : Nat, ¬ (k0 ≤ k ∧ k < k0 + 20) → v_195.1 k j = v.1 k j) → ∀ (ls : Array Slot), lv_has ls 8 [(0, .ref (wq w k0)), (1, .int 3), (2, .ref (wq w (k0 + 10 + (1 + (3 : Int32).toNatClampNeg)))), (3, .ref (wq w (k0 + 10 + (1 + (4 : Int32).toNatClampNeg)))), (4, .long y195_4), (6, .int y91_6)] → W pg l en (rmL 10) s m ar bl me cd H lo 0 0 (Zl w bl ar s post) (F0 m 195 ls []) := by
        intro H lo v_195 I y195_4 hE195_0 rB195_Z ls hl
        obtain ⟨x1, ex1⟩ : ∃ z : Int32, z = y91_6 + 1 := ⟨_, rfl⟩
        have hx1 : x1.toInt = y91_6.toInt + (1) := by rw [ex1]; exact adI (a := y91_6.toInt) (b := 1) rfl rfl (by omega) (by omega)
        refine lv_iinc (v := x1) (lv' := [(6, .int x1), (0, .ref (wq w k0)), (1, .int 3), (2, .ref (wq w (k0 + 10 + (1 + (3 : Int32).toNatClampNeg)))), (3, .ref (wq w (k0 + 10 + (1 + (4 : Int32).toNatClampNeg)))), (4, .long y195_4)]) hx hb dX1_weigh_195 hl (k := 5) rfl (by rw [ex1]; rfl) (by decide) rfl (fun ls hl => ?_)
        refine lv_goto (tgt := 91) hx hb dX1_weigh_198 (by decide) ?_
        exact ih_91 _ _ v_195 I y195_4 x1 (by omega) rB195_Z (by omega) ls (lv_sub hl [1, 2, 3, 4, 5, 0] rfl)
      have B_155 : ∀ (H : Heap) (lo : List Loc) (v_155 : St), Wo w g s.heap v_155 H lo → ∀ (y155_7 : Int32) (z155_1 : Int32) (z155_2 : Int32) (z155_3 : Int32), (1 ≤ y155_7.toInt) → (0 ≤ z155_3.toInt ∧ z155_3.toInt ≤ 1) → (0 ≤ y91_6.toInt ∧ y91_6.toInt ≤ 1) → (∀ k j : Nat, ¬ (k0 ≤ k ∧ k < k0 + 20) → v_155.1 k j = v.1 k j) → ∀ (ls : Array Slot), lv_has ls 8 [(0, .ref (wq w k0)), (1, .int 3), (2, .ref (wq w (k0 + 10 + (1 + (3 : Int32).toNatClampNeg)))), (3, .ref (wq w (k0 + 10 + (1 + (4 : Int32).toNatClampNeg)))), (4, .long y91_4), (6, .int y91_6), (7, .int y155_7)] → W pg l en (rmL 10) s m ar bl me cd H lo 0 0 (Zl w bl ar s post) (F0 m 155 ls [.int z155_3, .int z155_2, .int z155_1, .ref (wq w (k0 + 1))]) := by
        intro H lo v_155 I y155_7 z155_1 z155_2 z155_3 hy155_7 hz155_3 hE155_0 rB155_Z ls hl
        refine cNi E I (c_X7_withBit l w g v_155 z155_1 z155_2 z155_3 E.2.2.1 I.2.2   ) ⟨va_cnB 3 E.1.2.2.2.2 (gYs mw_2_230) rfl rfl rfl (E.2.2.2.1.2.2.2.2.2.2.2.2.2) (Ew E mw_1_1 rfl) (by decide +kernel) ⟨by decide, by decide⟩, Ew E mw_2_229 rfl, trivial⟩ rfl hl.1 rfl (Nat.le_of_ble_eq_true rfl) dX1_weigh_155 ⟨Nat.le_refl _, Nat.le_refl _⟩ (fun r2 u3 H lo hp hPS => ?_)
        obtain ⟨hp, hex, hfr⟩ := hp
        obtain ⟨hu, p4⟩ := hp
        rw [hu] at hPS
        have I : Wo w g s.heap v_155 H lo := ⟨hPS.1, hPS.2, I.2.2⟩
        refine p_Night_clouds E I h_k0.2.1.1 mw_1_106 dX1_weigh_158 (fun H lo I => ?_)
        generalize ev5 : up1 v_155 (k0 + 1) 11 r2 = v5 at I
        have rzv5 : ∀ k j : Nat, ¬ (k0 ≤ k ∧ k < k0 + 20) → v5.1 k j = v.1 k j := fun k j h => fz_u ev5 (by omega) (rB155_Z k j h)
        refine lv_aload_n hx hb dX1_weigh_161 rfl (lv_at hl 0 rfl) ?_
        refine g_Odds_night E I h_k0.1 mw_2_31 dX1_weigh_162 ?_
        refine lv_aload_n hx hb dX1_weigh_165 rfl (lv_at hl 3 rfl) ?_
        refine lv_aload_n hx hb dX1_weigh_166 rfl (lv_at hl 0 rfl) ?_
        refine g_Odds_night E I h_k0.1 mw_2_31 dX1_weigh_167 ?_
        refine g_Night_plannedAims E I h_k0.2.1.1 mw_1_117 dX1_weigh_170 ?_
        refine lv_iload_n hx hb dX1_weigh_173 rfl (lv_at hl 1 rfl) ?_
        refine ga_12 E I h_k0.2.1.2.2.2.2.2.2.1 (by decide) dX1_weigh_174 ?_
        refine lv_topi (fun x6 ex6 => ?_)
        refine cVi E I (c_X0_step l w g v5 (k0 + 1) (k0 + 10 + (1 + (4 : Int32).toNatClampNeg)) x6 E.2.2.1 I.2.2 h_k0.2.1 (h_k0.2.2.2 (4 : Int32).toNatClampNeg (by decide))  ) (cwV 2 E.1.2.2.2.2 (gWs (C := "StarWalk$Night") mw_4_61 mw_3_177 mw_3_178 mw_1_3 mw_3_179) rfl rfl rfl (by decide +kernel) ⟨by decide, by decide⟩) h_k0.2.1.1.1 ((ce_o h_k0.2.1.1.2).trans rfl) rfl rfl hl.1 rfl (Nat.le_of_ble_eq_true rfl) dX1_weigh_175 ⟨Nat.le_refl _, Nat.le_refl _⟩ (fun r7 u8 H lo hp hPS => ?_)
        obtain ⟨hp, hex, hfr⟩ := hp
        obtain ⟨hwf, p9⟩ := hp
        have I : Wo w g s.heap u8 H lo := ⟨hPS.1, hPS.2, hwf⟩
        have rzu8 : ∀ k j : Nat, ¬ (k0 ≤ k ∧ k < k0 + 20) → u8.1 k j = v.1 k j := fun k j h => (hfr k j (fun z => h (by have cl4 : (4 : Int32).toNatClampNeg = 4 := rfl; omega))).trans (rzv5 k j h)
        refine lv_pop hx hb dX1_weigh_178 rfl ?_
        refine lv_lload hx hb dX1_weigh_179 (lv_at hl 4 rfl) ?_
        refine lv_iload hx hb dX1_weigh_181 (lv_at hl 6 rfl) ?_
        refine lv_i2l (v := y155_7.toInt64) hx hb dX1_weigh_183 rfl ?_
        refine lv_aload_n hx hb dX1_weigh_184 rfl (lv_at hl 0 rfl) ?_
        refine lv_iload_n hx hb dX1_weigh_185 rfl (lv_at hl 1 rfl) ?_
        refine lv_iconst (v := 1) hx hb dX1_weigh_186 (by decide) ?_
        refine lv_iadd hx hb dX1_weigh_187 ?_
        refine lv_topi (fun x11 ex11 => ?_)
        obtain rfl : x11 = 4 := ex11.trans (by decide)
        refine cVl E I (c_X1_weigh_v4 l w g u8 k0 E.2.2.1 I.2.2 h_k0  ) (cwV 1 E.1.2.2.2.2 (gWs (C := "StarWalk$Odds") mw_4_51 mw_4_53 mw_s_24 mw_1_7 mw_4_54) rfl rfl rfl (by decide +kernel) ⟨by decide, by decide⟩) h_k0.1.1 ((ce_o h_k0.1.2).trans rfl) rfl rfl hl.1 rfl (Nat.le_of_ble_eq_true rfl) dX1_weigh_188 ⟨Nat.le_refl _, Nat.le_refl _⟩ (fun r12 u13 H lo hp hPS => ?_)
        obtain ⟨hp, hex, hfr⟩ := hp
        obtain ⟨hwf, p14⟩ := hp
        have I : Wo w g s.heap u13 H lo := ⟨hPS.1, hPS.2, hwf⟩
        have rzu13 : ∀ k j : Nat, ¬ (k0 ≤ k ∧ k < k0 + 20) → u13.1 k j = v.1 k j := fun k j h => (hfr k j (fun z => h (by omega))).trans (rzu8 k j h)
        refine lv_lmul hx hb dX1_weigh_191 ?_
        refine lv_topl (fun q15 eq15 => ?_)
        refine lv_ladd hx hb dX1_weigh_192 ?_
        refine lv_topl (fun q16 eq16 => ?_)
        refine lv_lstore (lv' := [(4, .long q16), (0, .ref (wq w k0)), (1, .int 3), (2, .ref (wq w (k0 + 10 + (1 + (3 : Int32).toNatClampNeg)))), (3, .ref (wq w (k0 + 10 + (1 + (4 : Int32).toNatClampNeg)))), (6, .int y91_6), (7, .int y155_7)]) hx hb dX1_weigh_193 hl (by decide) rfl (fun ls hl => ?_)
        exact B_195 _ _ u13 I q16 (by omega) rzu13 ls (lv_sub hl [1, 2, 3, 4, 0, 5] rfl)
      have B_117 : ∀ (H : Heap) (lo : List Loc) (v_117 : St), Wo w g s.heap v_117 H lo → ∀ (z117_0 : Int32), (0 ≤ y91_6.toInt ∧ y91_6.toInt ≤ 1) → (∀ k j : Nat, ¬ (k0 ≤ k ∧ k < k0 + 20) → v_117.1 k j = v.1 k j) → ∀ (ls : Array Slot), lv_has ls 8 [(0, .ref (wq w k0)), (1, .int 3), (2, .ref (wq w (k0 + 10 + (1 + (3 : Int32).toNatClampNeg)))), (3, .ref (wq w (k0 + 10 + (1 + (4 : Int32).toNatClampNeg)))), (4, .long y91_4), (6, .int y91_6)] → W pg l en (rmL 10) s m ar bl me cd H lo 0 0 (Zl w bl ar s post) (F0 m 117 ls [.int z117_0]) := by
        intro H lo v_117 I z117_0 hE117_0 rB117_Z ls hl
        refine lv_istore (lv' := [(7, .int z117_0), (0, .ref (wq w k0)), (1, .int 3), (2, .ref (wq w (k0 + 10 + (1 + (3 : Int32).toNatClampNeg)))), (3, .ref (wq w (k0 + 10 + (1 + (4 : Int32).toNatClampNeg)))), (4, .long y91_4), (6, .int y91_6)]) hx hb dX1_weigh_117 hl (by decide) rfl (fun ls hl => ?_)
        refine lv_iload hx hb dX1_weigh_119 (lv_at hl 0 rfl) ?_
        refine bz_le E (a := z117_0.toInt) rfl (tgt := 195) dX1_weigh_121 (by decide) (fun c17 => ?_) (fun c17 => ?_)
        ·
          exact B_195 _ _ v_117 I y91_4 (by omega) rB117_Z ls (lv_sub hl [1, 2, 3, 4, 5, 6] rfl)
        ·
          refine lv_aload_n hx hb dX1_weigh_124 rfl (lv_at hl 4 rfl) ?_
          refine lv_aload_n hx hb dX1_weigh_125 rfl (lv_at hl 3 rfl) ?_
          refine cVv E I (c_X2_become l w g v_117 (k0 + 10 + (1 + (4 : Int32).toNatClampNeg)) (k0 + 10 + (1 + (3 : Int32).toNatClampNeg)) E.2.2.1 I.2.2 (h_k0.2.2.2 (4 : Int32).toNatClampNeg (by decide)) (h_k0.2.2.2 (3 : Int32).toNatClampNeg (by decide))  ) (cwV 1 E.1.2.2.2.2 (gWs (C := "StarWalk$Place") mw_4_50 mw_3_61 mw_3_62 mw_1_4 mw_3_63) rfl rfl rfl (by decide +kernel) ⟨by decide, by decide⟩) (h_k0.2.2.2 (4 : Int32).toNatClampNeg (by decide)).1 ((ce_o (h_k0.2.2.2 (4 : Int32).toNatClampNeg (by decide)).2).trans rfl) rfl rfl hl.1 rfl (Nat.le_of_ble_eq_true rfl) dX1_weigh_126 ⟨Nat.le_refl _, Nat.le_refl _⟩ (fun u18 H lo hp hPS => ?_)
          obtain ⟨hp, hex, hfr⟩ := hp
          obtain ⟨hwf, p19⟩ := hp
          have I : Wo w g s.heap u18 H lo := ⟨hPS.1, hPS.2, hwf⟩
          have rzu18 : ∀ k j : Nat, ¬ (k0 ≤ k ∧ k < k0 + 20) → u18.1 k j = v.1 k j := fun k j h => (hfr k j (fun z => h (by have cl3 : (3 : Int32).toNatClampNeg = 3 := rfl; have cl4 : (4 : Int32).toNatClampNeg = 4 := rfl; omega))).trans (rB117_Z k j h)
          refine lv_aload_n hx hb dX1_weigh_129 rfl (lv_at hl 1 rfl) ?_
          refine g_Odds_night E I h_k0.1 mw_2_31 dX1_weigh_130 ?_
          refine lv_aload_n hx hb dX1_weigh_133 rfl (lv_at hl 1 rfl) ?_
          refine g_Odds_night E I h_k0.1 mw_2_31 dX1_weigh_134 ?_
          refine g_Night_clouds E I h_k0.2.1.1 mw_1_106 dX1_weigh_137 ?_
          refine lv_topi (fun x20 ex20 => ?_)
          refine lv_aload_n hx hb dX1_weigh_140 rfl (lv_at hl 3 rfl) ?_
          refine g_Place_hour E I (h_k0.2.2.2 (3 : Int32).toNatClampNeg (by decide)) mw_1_46 dX1_weigh_141 ?_
          refine lv_topi (fun x21 ex21 => ?_)
          refine lv_iload hx hb dX1_weigh_144 (lv_at hl 6 rfl) ?_
          refine lv_iconst (v := 1) hx hb dX1_weigh_146 (by decide) ?_
          refine bi_ne E (a := y91_6.toInt) (b := 1) rfl rfl (tgt := 154) dX1_weigh_147 (by decide) (fun c22 => ?_) (fun c22 => ?_)
          ·
            refine lv_iconst (v := 0) hx hb dX1_weigh_154 (by decide) ?_
            exact B_155 _ _ u18 I z117_0 x20 x21 (0 : Int32) (by omega) (by decide) (by omega) rzu18 ls (lv_sub hl [1, 2, 3, 4, 5, 6, 0] rfl)
          ·
            refine lv_iconst (v := 1) hx hb dX1_weigh_150 (by decide) ?_
            refine lv_goto (tgt := 155) hx hb dX1_weigh_151 (by decide) ?_
            exact B_155 _ _ u18 I z117_0 x20 x21 (1 : Int32) (by omega) (by decide) (by omega) rzu18 ls (lv_sub hl [1, 2, 3, 4, 5, 6, 0] rfl)
      refine lv_iload hx hb dX1_weigh_91 (lv_at hl 5 rfl) ?_
      refine lv_iconst (v := 1) hx hb dX1_weigh_93 (by decide) ?_
      refine bi_gt E (a := y91_6.toInt) (b := 1) rfl rfl (tgt := 201) dX1_weigh_94 (by decide) (fun c23 => ?_) (fun c23 => ?_)
      ·
        refine lv_lload hx hb dX1_weigh_201 (lv_at hl 4 rfl) ?_
        exact rL E I hr hlk (by rw [← hpost]; exact ⟨⟨I.2.2, trivial⟩, trivial, rB91_Z⟩) dX1_weigh_203
      ·
        refine lv_iload hx hb dX1_weigh_97 (lv_at hl 5 rfl) ?_
        refine lv_iconst (v := 1) hx hb dX1_weigh_99 (by decide) ?_
        refine bi_ne E (a := y91_6.toInt) (b := 1) rfl rfl (tgt := 110) dX1_weigh_100 (by decide) (fun c24 => ?_) (fun c24 => ?_)
        ·
          refine lv_bipush (v := 10) hx hb dX1_weigh_110 (by decide) ?_
          refine lv_aload_n hx hb dX1_weigh_112 rfl (lv_at hl 0 rfl) ?_
          refine g_Odds_tenths E I h_k0.1 mw_2_33 dX1_weigh_113 ?_
          refine lv_topi (fun x25 ex25 => ?_)
          refine lv_isub hx hb dX1_weigh_116 ?_
          refine lv_topi (fun x26 ex26 => ?_)
          exact B_117 _ _ v_91 I x26 (by omega) rB91_Z ls (lv_sub hl [0, 1, 2, 3, 4, 5] rfl)
        ·
          refine lv_aload_n hx hb dX1_weigh_103 rfl (lv_at hl 0 rfl) ?_
          refine g_Odds_tenths E I h_k0.1 mw_2_33 dX1_weigh_104 ?_
          refine lv_topi (fun x27 ex27 => ?_)
          refine lv_goto (tgt := 117) hx hb dX1_weigh_107 (by decide) ?_
          exact B_117 _ _ v_91 I x27 (by omega) rB91_Z ls (lv_sub hl [0, 1, 2, 3, 4, 5] rfl)
  have B_24 : ∀ (H : Heap) (lo : List Loc), Wo w g s.heap v H lo → (∀ k j : Nat, ¬ (k0 ≤ k ∧ k < k0 + 20) → v.1 k j = v.1 k j) → ∀ (ls : Array Slot), lv_has ls 8 [(0, .ref (wq w k0)), (2, .ref (wq w (k0 + 10 + (1 + (3 : Int32).toNatClampNeg))))] → W pg l en (rmL 10) s m ar bl me cd H lo 0 0 (Zl w bl ar s post) (F0 m 24 ls []) := by
    intro H lo  I  rB24_Z ls hl
    refine lv_aload_n hx hb dX1_weigh_24 rfl (lv_at hl 0 rfl) ?_
    refine g_Odds_ofMiles E I h_k0.1 mw_2_34 dX1_weigh_25 ?_
    refine lv_topi (fun x28 ex28 => ?_)
    refine bz_eq E (a := x28.toInt) rfl (tgt := 39) dX1_weigh_28 (by decide) (fun c29 => ?_) (fun c29 => ?_)
    ·
      refine lv_aload_n hx hb dX1_weigh_39 rfl (lv_at hl 0 rfl) ?_
      refine g_Odds_night E I h_k0.1 mw_2_31 dX1_weigh_40 ?_
      refine lv_aload_n hx hb dX1_weigh_43 rfl (lv_at hl 1 rfl) ?_
      refine cVi E I (c_X0_isAtWell l w g v (k0 + 1) (k0 + 10 + (1 + (3 : Int32).toNatClampNeg)) E.2.2.1 I.2.2 h_k0.2.1 (h_k0.2.2.2 (3 : Int32).toNatClampNeg (by decide))  ) (cwV 1 E.1.2.2.2.2 (gWs (C := "StarWalk$Night") mw_4_56 mw_3_76 mw_3_77 mw_1_3 mw_3_78) rfl rfl rfl (by decide +kernel) ⟨by decide, by decide⟩) h_k0.2.1.1.1 ((ce_o h_k0.2.1.1.2).trans rfl) rfl rfl hl.1 rfl (Nat.le_of_ble_eq_true rfl) dX1_weigh_44 ⟨Nat.le_refl _, Nat.le_refl _⟩ (fun r30 u31 H lo hp hPS => ?_)
      obtain ⟨hp, hex, hfr⟩ := hp
      obtain ⟨hu, p32⟩ := hp
      rw [hu] at hPS
      have I : Wo w g s.heap v H lo := ⟨hPS.1, hPS.2, I.2.2⟩
      refine cNi E I (c_X7_oneIf l w g v r30 E.2.2.1 I.2.2   ) ⟨va_cnB 1 E.1.2.2.2.2 (gYs mw_3_88) rfl rfl rfl (E.2.2.2.1.2.2.2.2.2.2.2.2.1) (Ew E mw_1_1 rfl) (by decide +kernel) ⟨by decide, by decide⟩, Ew E mw_3_87 rfl, trivial⟩ rfl hl.1 rfl (Nat.le_of_ble_eq_true rfl) dX1_weigh_47 ⟨Nat.le_refl _, Nat.le_refl _⟩ (fun r33 u34 H lo hp hPS => ?_)
      obtain ⟨hp, hex, hfr⟩ := hp
      obtain ⟨hu, p35⟩ := hp
      rw [hu] at hPS
      have I : Wo w g s.heap v H lo := ⟨hPS.1, hPS.2, I.2.2⟩
      refine lv_i2l (v := r33.toInt64) hx hb dX1_weigh_50 rfl ?_
      exact rL E I hr hlk (by rw [← hpost]; exact ⟨⟨I.2.2, trivial⟩, trivial, rB24_Z⟩) dX1_weigh_51
    ·
      refine lv_aload_n hx hb dX1_weigh_31 rfl (lv_at hl 1 rfl) ?_
      refine g_Place_miles E I (h_k0.2.2.2 (3 : Int32).toNatClampNeg (by decide)) mw_1_50 dX1_weigh_32 ?_
      refine lv_topi (fun x37 ex37 => ?_)
      refine lv_i2l (v := x37.toInt64) hx hb dX1_weigh_35 rfl ?_
      refine lv_goto (tgt := 51) hx hb dX1_weigh_36 (by decide) ?_
      exact rL E I hr hlk (by rw [← hpost]; exact ⟨⟨I.2.2, trivial⟩, trivial, rB24_Z⟩) dX1_weigh_51
  refine lv_aload_n hx hb dX1_weigh_0 rfl (lv_at hl 0 rfl) ?_
  refine g_Odds_places E I h_k0.1 mw_2_32 dX1_weigh_1 ?_
  refine lv_iload_n hx hb dX1_weigh_4 rfl (lv_at hl 1 rfl) ?_
  refine ga_22 E I h_k0.2.2.1 (by decide) dX1_weigh_5 ?_
  refine lv_astore_n (lv' := [(2, .ref (wq w (k0 + 10 + (1 + (3 : Int32).toNatClampNeg)))), (0, .ref (wq w k0)), (1, .int 3)]) hx hb dX1_weigh_6 rfl hl (by decide) rfl (fun ls hl => ?_)
  refine lv_iload_n hx hb dX1_weigh_7 rfl (lv_at hl 2 rfl) ?_
  refine lv_bipush (v := 8) hx hb dX1_weigh_8 (by decide) ?_
  refine bi_ge E (a := 3) (b := 8) rfl rfl (tgt := 24) dX1_weigh_10 (by decide) (fun c39 => ?_) (fun c39 => ?_)
  ·
    exfalso; omega
  ·
    refine lv_aload_n hx hb dX1_weigh_13 rfl (lv_at hl 1 rfl) ?_
    refine g_Odds_night E I h_k0.1 mw_2_31 dX1_weigh_14 ?_
    refine lv_iload_n hx hb dX1_weigh_17 rfl (lv_at hl 2 rfl) ?_
    refine cVi E I (c_X0_hasPlanned l w g v (k0 + 1) (3 : Int32) E.2.2.1 I.2.2 h_k0.2.1  ) (cwV 1 E.1.2.2.2.2 (gWs (C := "StarWalk$Night") mw_4_55 mw_3_45 mw_3_46 mw_1_3 mw_3_47) rfl rfl rfl (by decide +kernel) ⟨by decide, by decide⟩) h_k0.2.1.1.1 ((ce_o h_k0.2.1.1.2).trans rfl) rfl rfl hl.1 rfl (Nat.le_of_ble_eq_true rfl) dX1_weigh_18 ⟨Nat.le_refl _, Nat.le_refl _⟩ (fun r40 u41 H lo hp hPS => ?_)
    have iz42 : (3 : Int32).toInt = 3 := rfl
    obtain ⟨hp, hex, hfr⟩ := hp
    obtain ⟨hu, p43⟩ := hp
    rw [hu] at hPS
    have I : Wo w g s.heap v H lo := ⟨hPS.1, hPS.2, I.2.2⟩
    refine bz_ne E (a := r40.toInt) rfl (tgt := 52) dX1_weigh_21 (by decide) (fun c44 => ?_) (fun c44 => ?_)
    ·
      refine lv_aload_n hx hb dX1_weigh_52 rfl (lv_at hl 1 rfl) ?_
      refine g_Odds_places E I h_k0.1 mw_2_32 dX1_weigh_53 ?_
      refine lv_iload_n hx hb dX1_weigh_56 rfl (lv_at hl 2 rfl) ?_
      refine lv_iconst (v := 1) hx hb dX1_weigh_57 (by decide) ?_
      refine lv_iadd hx hb dX1_weigh_58 ?_
      refine lv_topi (fun x45 ex45 => ?_)
      obtain rfl : x45 = 4 := ex45.trans (by decide)
      refine ga_22 E I h_k0.2.2.1 (by decide) dX1_weigh_59 ?_
      refine lv_astore_n (lv' := [(3, .ref (wq w (k0 + 10 + (1 + (4 : Int32).toNatClampNeg)))), (2, .ref (wq w (k0 + 10 + (1 + (3 : Int32).toNatClampNeg)))), (0, .ref (wq w k0)), (1, .int 3)]) hx hb dX1_weigh_60 rfl hl (by decide) rfl (fun ls hl => ?_)
      refine lv_aload_n hx hb dX1_weigh_61 rfl (lv_at hl 1 rfl) ?_
      refine cVi E I (c_X2_canStep l w g v (k0 + 10 + (1 + (3 : Int32).toNatClampNeg)) E.2.2.1 I.2.2 (h_k0.2.2.2 (3 : Int32).toNatClampNeg (by decide))  ) (cwV 0 E.1.2.2.2.2 (gWs (C := "StarWalk$Place") mw_4_58 mw_3_182 mw_3_183 mw_1_4 mw_3_184) rfl rfl rfl (by decide +kernel) ⟨by decide, by decide⟩) (h_k0.2.2.2 (3 : Int32).toNatClampNeg (by decide)).1 ((ce_o (h_k0.2.2.2 (3 : Int32).toNatClampNeg (by decide)).2).trans rfl) rfl rfl hl.1 rfl (Nat.le_of_ble_eq_true rfl) dX1_weigh_62 ⟨Nat.le_refl _, Nat.le_refl _⟩ (fun r46 u47 H lo hp hPS => ?_)
      obtain ⟨hp, hex, hfr⟩ := hp
      obtain ⟨hu, p48⟩ := hp
      rw [hu] at hPS
      have I : Wo w g s.heap v H lo := ⟨hPS.1, hPS.2, I.2.2⟩
      refine bz_ne E (a := r46.toInt) rfl (tgt := 85) dX1_weigh_65 (by decide) (fun c49 => ?_) (fun c49 => ?_)
      ·
        refine lv_lconst (v := 0) hx hb dX1_weigh_85 (by decide) ?_
        refine lv_lstore (lv' := [(4, .long (0 : Int64)), (3, .ref (wq w (k0 + 10 + (1 + (4 : Int32).toNatClampNeg)))), (2, .ref (wq w (k0 + 10 + (1 + (3 : Int32).toNatClampNeg)))), (0, .ref (wq w k0)), (1, .int 3)]) hx hb dX1_weigh_86 hl (by decide) rfl (fun ls hl => ?_)
        refine lv_iconst (v := 0) hx hb dX1_weigh_88 (by decide) ?_
        refine lv_istore (lv' := [(6, .int 0), (4, .long (0 : Int64)), (3, .ref (wq w (k0 + 10 + (1 + (4 : Int32).toNatClampNeg)))), (2, .ref (wq w (k0 + 10 + (1 + (3 : Int32).toNatClampNeg)))), (0, .ref (wq w k0)), (1, .int 3)]) hx hb dX1_weigh_89 hl (by decide) rfl (fun ls hl => ?_)
        exact L_91 ((2147483647 - (0 : Int32).toInt).toNat + 1) _ _ v I (0 : Int64) (0 : Int32) (by decide) rz0 (Nat.lt_succ_self _) ls (lv_sub hl [4, 5, 3, 2, 1, 0] rfl)
      ·
        refine lv_aload_n hx hb dX1_weigh_68 rfl (lv_at hl 0 rfl) ?_
        refine lv_aload_n hx hb dX1_weigh_69 rfl (lv_at hl 1 rfl) ?_
        refine cVv E I (c_X2_become l w g v (k0 + 10 + (1 + (4 : Int32).toNatClampNeg)) (k0 + 10 + (1 + (3 : Int32).toNatClampNeg)) E.2.2.1 I.2.2 (h_k0.2.2.2 (4 : Int32).toNatClampNeg (by decide)) (h_k0.2.2.2 (3 : Int32).toNatClampNeg (by decide))  ) (cwV 1 E.1.2.2.2.2 (gWs (C := "StarWalk$Place") mw_4_50 mw_3_61 mw_3_62 mw_1_4 mw_3_63) rfl rfl rfl (by decide +kernel) ⟨by decide, by decide⟩) (h_k0.2.2.2 (4 : Int32).toNatClampNeg (by decide)).1 ((ce_o (h_k0.2.2.2 (4 : Int32).toNatClampNeg (by decide)).2).trans rfl) rfl rfl hl.1 rfl (Nat.le_of_ble_eq_true rfl) dX1_weigh_70 ⟨Nat.le_refl _, Nat.le_refl _⟩ (fun u50 H lo hp hPS => ?_)
        obtain ⟨hp, hex, hfr⟩ := hp
        obtain ⟨hwf, p51⟩ := hp
        have I : Wo w g s.heap u50 H lo := ⟨hPS.1, hPS.2, hwf⟩
        have rzu50 : ∀ k j : Nat, ¬ (k0 ≤ k ∧ k < k0 + 20) → u50.1 k j = v.1 k j := fun k j h => (hfr k j (fun z => h (by have cl3 : (3 : Int32).toNatClampNeg = 3 := rfl; have cl4 : (4 : Int32).toNatClampNeg = 4 := rfl; omega))).trans (rz0 k j h)
        refine lv_ldc2 (own := "StarWalk$Odds") hx hb E.1.2.2.2.1 (Ew E mw_4_59 rfl) dX1_weigh_73 ?_
        refine lv_aload_n hx hb dX1_weigh_76 rfl (lv_at hl 2 rfl) ?_
        refine lv_iload_n hx hb dX1_weigh_77 rfl (lv_at hl 3 rfl) ?_
        refine lv_iconst (v := 1) hx hb dX1_weigh_78 (by decide) ?_
        refine lv_iadd hx hb dX1_weigh_79 ?_
        refine lv_topi (fun x52 ex52 => ?_)
        obtain rfl : x52 = 4 := ex52.trans (by decide)
        refine cVl E I (c_X1_weigh_v4 l w g u50 k0 E.2.2.1 I.2.2 h_k0  ) (cwV 1 E.1.2.2.2.2 (gWs (C := "StarWalk$Odds") mw_4_51 mw_4_53 mw_s_24 mw_1_7 mw_4_54) rfl rfl rfl (by decide +kernel) ⟨by decide, by decide⟩) h_k0.1.1 ((ce_o h_k0.1.2).trans rfl) rfl rfl hl.1 rfl (Nat.le_of_ble_eq_true rfl) dX1_weigh_80 ⟨Nat.le_refl _, Nat.le_refl _⟩ (fun r53 u54 H lo hp hPS => ?_)
        obtain ⟨hp, hex, hfr⟩ := hp
        obtain ⟨hwf, p55⟩ := hp
        have I : Wo w g s.heap u54 H lo := ⟨hPS.1, hPS.2, hwf⟩
        have rzu54 : ∀ k j : Nat, ¬ (k0 ≤ k ∧ k < k0 + 20) → u54.1 k j = v.1 k j := fun k j h => (hfr k j (fun z => h (by omega))).trans (rzu50 k j h)
        refine lv_lmul hx hb dX1_weigh_83 ?_
        refine lv_topl (fun q56 eq56 => ?_)
        exact rL E I hr hlk (by rw [← hpost]; exact ⟨⟨I.2.2, trivial⟩, trivial, rzu54⟩) dX1_weigh_84
    ·
      exact B_24 _ _ I  rz0 ls (lv_sub hl [1, 0] rfl)
set_option maxHeartbeats 4000000 in
set_option maxRecDepth 100000 in
theorem c_X1_weigh_v2 (l : Launch) (w : Wp) (g : Nat → Nat → Int32) (v : St) (k0 : Nat) (hq : Inj w) (hw : WF (wk w) g v) (h_k0 : oO w k0) : CTl w l yX1_weigh (wsy yX1_weigh prog_3_method_3_code 8 (some .long)) (rmL 11) [.ref (wq w k0), .int 2] v (fun (r : Int64) (u : St) => (WF (wk w) g u ∧ True) ∧ (True) ∧ (∀ k j : Nat, ¬ (k0 ≤ k ∧ k < k0 + 20) → u.1 k j = v.1 k j)) := by
  generalize hpost : (fun (r : Int64) (u : St) => (WF (wk w) g u ∧ True) ∧ (True) ∧ (∀ k j : Nat, ¬ (k0 ≤ k ∧ k < k0 + 20) → u.1 k j = v.1 k j)) = post
  refine CTl.of prog_3_method_3_code 8 (some .long) "StarWalk$Odds" (by decide +kernel) rfl hq hw (Nat.le_of_ble_eq_true rfl) ?_
  intro pg en s m ar bl me cd ls E I hr hlk hl
  have hx := E.1.1
  have hb := E.1.2.1
  have hl : lv_has ls 8 [(0, .ref (wq w k0)), (1, .int 2)] := hl
  have rz0 : ∀ k j : Nat, ¬ (k0 ≤ k ∧ k < k0 + 20) → v.1 k j = v.1 k j := fun _ _ _ => rfl
  have L_91 : ∀ (n : Nat), ∀ (H : Heap) (lo : List Loc) (v_91 : St), Wo w g s.heap v_91 H lo → ∀ (y91_4 : Int64) (y91_6 : Int32), (0 ≤ y91_6.toInt ∧ y91_6.toInt ≤ 2) → (∀ k j : Nat, ¬ (k0 ≤ k ∧ k < k0 + 20) → v_91.1 k j = v.1 k j) → (2147483647 - y91_6.toInt).toNat < n → ∀ (ls : Array Slot), lv_has ls 8 [(0, .ref (wq w k0)), (1, .int 2), (2, .ref (wq w (k0 + 10 + (1 + (2 : Int32).toNatClampNeg)))), (3, .ref (wq w (k0 + 10 + (1 + (3 : Int32).toNatClampNeg)))), (4, .long y91_4), (6, .int y91_6)] → W pg l en (rmL 11) s m ar bl me cd H lo 0 0 (Zl w bl ar s post) (F0 m 91 ls []) := by
    intro n
    induction n with
    | zero => intro H lo v_91 I y91_4 y91_6 hy91_6 rB91_Z hm; exact absurd hm (Nat.not_lt_zero _)
    | succ n ih_91 =>
      intro H lo v_91 I y91_4 y91_6 hy91_6 rB91_Z hm ls hl
      have B_195 : ∀ (H : Heap) (lo : List Loc) (v_195 : St), Wo w g s.heap v_195 H lo → ∀ (y195_4 : Int64), (0 ≤ y91_6.toInt ∧ y91_6.toInt ≤ 1) → (∀ k j : Nat, ¬ (k0 ≤ k ∧ k < k0 + 20) → v_195.1 k j = v.1 k j) → ∀ (ls : Array Slot), lv_has ls 8 [(0, .ref (wq w k0)), (1, .int 2), (2, .ref (wq w (k0 + 10 + (1 + (2 : Int32).toNatClampNeg)))), (3, .ref (wq w (k0 + 10 + (1 + (3 : Int32).toNatClampNeg)))), (4, .long y195_4), (6, .int y91_6)] → W pg l en (rmL 11) s m ar bl me cd H lo 0 0 (Zl w bl ar s post) (F0 m 195 ls []) := by
        intro H lo v_195 I y195_4 hE195_0 rB195_Z ls hl
        obtain ⟨x1, ex1⟩ : ∃ z : Int32, z = y91_6 + 1 := ⟨_, rfl⟩
        have hx1 : x1.toInt = y91_6.toInt + (1) := by rw [ex1]; exact adI (a := y91_6.toInt) (b := 1) rfl rfl (by omega) (by omega)
        refine lv_iinc (v := x1) (lv' := [(6, .int x1), (0, .ref (wq w k0)), (1, .int 2), (2, .ref (wq w (k0 + 10 + (1 + (2 : Int32).toNatClampNeg)))), (3, .ref (wq w (k0 + 10 + (1 + (3 : Int32).toNatClampNeg)))), (4, .long y195_4)]) hx hb dX1_weigh_195 hl (k := 5) rfl (by rw [ex1]; rfl) (by decide) rfl (fun ls hl => ?_)
        refine lv_goto (tgt := 91) hx hb dX1_weigh_198 (by decide) ?_
        exact ih_91 _ _ v_195 I y195_4 x1 (by omega) rB195_Z (by omega) ls (lv_sub hl [1, 2, 3, 4, 5, 0] rfl)
      have B_155 : ∀ (H : Heap) (lo : List Loc) (v_155 : St), Wo w g s.heap v_155 H lo → ∀ (y155_7 : Int32) (z155_1 : Int32) (z155_2 : Int32) (z155_3 : Int32), (1 ≤ y155_7.toInt) → (0 ≤ z155_3.toInt ∧ z155_3.toInt ≤ 1) → (0 ≤ y91_6.toInt ∧ y91_6.toInt ≤ 1) → (∀ k j : Nat, ¬ (k0 ≤ k ∧ k < k0 + 20) → v_155.1 k j = v.1 k j) → ∀ (ls : Array Slot), lv_has ls 8 [(0, .ref (wq w k0)), (1, .int 2), (2, .ref (wq w (k0 + 10 + (1 + (2 : Int32).toNatClampNeg)))), (3, .ref (wq w (k0 + 10 + (1 + (3 : Int32).toNatClampNeg)))), (4, .long y91_4), (6, .int y91_6), (7, .int y155_7)] → W pg l en (rmL 11) s m ar bl me cd H lo 0 0 (Zl w bl ar s post) (F0 m 155 ls [.int z155_3, .int z155_2, .int z155_1, .ref (wq w (k0 + 1))]) := by
        intro H lo v_155 I y155_7 z155_1 z155_2 z155_3 hy155_7 hz155_3 hE155_0 rB155_Z ls hl
        refine cNi E I (c_X7_withBit l w g v_155 z155_1 z155_2 z155_3 E.2.2.1 I.2.2   ) ⟨va_cnB 3 E.1.2.2.2.2 (gYs mw_2_230) rfl rfl rfl (E.2.2.2.1.2.2.2.2.2.2.2.2.2) (Ew E mw_1_1 rfl) (by decide +kernel) ⟨by decide, by decide⟩, Ew E mw_2_229 rfl, trivial⟩ rfl hl.1 rfl (Nat.le_of_ble_eq_true rfl) dX1_weigh_155 ⟨Nat.le_refl _, Nat.le_refl _⟩ (fun r2 u3 H lo hp hPS => ?_)
        obtain ⟨hp, hex, hfr⟩ := hp
        obtain ⟨hu, p4⟩ := hp
        rw [hu] at hPS
        have I : Wo w g s.heap v_155 H lo := ⟨hPS.1, hPS.2, I.2.2⟩
        refine p_Night_clouds E I h_k0.2.1.1 mw_1_106 dX1_weigh_158 (fun H lo I => ?_)
        generalize ev5 : up1 v_155 (k0 + 1) 11 r2 = v5 at I
        have rzv5 : ∀ k j : Nat, ¬ (k0 ≤ k ∧ k < k0 + 20) → v5.1 k j = v.1 k j := fun k j h => fz_u ev5 (by omega) (rB155_Z k j h)
        refine lv_aload_n hx hb dX1_weigh_161 rfl (lv_at hl 0 rfl) ?_
        refine g_Odds_night E I h_k0.1 mw_2_31 dX1_weigh_162 ?_
        refine lv_aload_n hx hb dX1_weigh_165 rfl (lv_at hl 3 rfl) ?_
        refine lv_aload_n hx hb dX1_weigh_166 rfl (lv_at hl 0 rfl) ?_
        refine g_Odds_night E I h_k0.1 mw_2_31 dX1_weigh_167 ?_
        refine g_Night_plannedAims E I h_k0.2.1.1 mw_1_117 dX1_weigh_170 ?_
        refine lv_iload_n hx hb dX1_weigh_173 rfl (lv_at hl 1 rfl) ?_
        refine ga_12 E I h_k0.2.1.2.2.2.2.2.2.1 (by decide) dX1_weigh_174 ?_
        refine lv_topi (fun x6 ex6 => ?_)
        refine cVi E I (c_X0_step l w g v5 (k0 + 1) (k0 + 10 + (1 + (3 : Int32).toNatClampNeg)) x6 E.2.2.1 I.2.2 h_k0.2.1 (h_k0.2.2.2 (3 : Int32).toNatClampNeg (by decide))  ) (cwV 2 E.1.2.2.2.2 (gWs (C := "StarWalk$Night") mw_4_61 mw_3_177 mw_3_178 mw_1_3 mw_3_179) rfl rfl rfl (by decide +kernel) ⟨by decide, by decide⟩) h_k0.2.1.1.1 ((ce_o h_k0.2.1.1.2).trans rfl) rfl rfl hl.1 rfl (Nat.le_of_ble_eq_true rfl) dX1_weigh_175 ⟨Nat.le_refl _, Nat.le_refl _⟩ (fun r7 u8 H lo hp hPS => ?_)
        obtain ⟨hp, hex, hfr⟩ := hp
        obtain ⟨hwf, p9⟩ := hp
        have I : Wo w g s.heap u8 H lo := ⟨hPS.1, hPS.2, hwf⟩
        have rzu8 : ∀ k j : Nat, ¬ (k0 ≤ k ∧ k < k0 + 20) → u8.1 k j = v.1 k j := fun k j h => (hfr k j (fun z => h (by have cl3 : (3 : Int32).toNatClampNeg = 3 := rfl; omega))).trans (rzv5 k j h)
        refine lv_pop hx hb dX1_weigh_178 rfl ?_
        refine lv_lload hx hb dX1_weigh_179 (lv_at hl 4 rfl) ?_
        refine lv_iload hx hb dX1_weigh_181 (lv_at hl 6 rfl) ?_
        refine lv_i2l (v := y155_7.toInt64) hx hb dX1_weigh_183 rfl ?_
        refine lv_aload_n hx hb dX1_weigh_184 rfl (lv_at hl 0 rfl) ?_
        refine lv_iload_n hx hb dX1_weigh_185 rfl (lv_at hl 1 rfl) ?_
        refine lv_iconst (v := 1) hx hb dX1_weigh_186 (by decide) ?_
        refine lv_iadd hx hb dX1_weigh_187 ?_
        refine lv_topi (fun x11 ex11 => ?_)
        obtain rfl : x11 = 3 := ex11.trans (by decide)
        refine cVl E I (c_X1_weigh_v3 l w g u8 k0 E.2.2.1 I.2.2 h_k0  ) (cwV 1 E.1.2.2.2.2 (gWs (C := "StarWalk$Odds") mw_4_51 mw_4_53 mw_s_24 mw_1_7 mw_4_54) rfl rfl rfl (by decide +kernel) ⟨by decide, by decide⟩) h_k0.1.1 ((ce_o h_k0.1.2).trans rfl) rfl rfl hl.1 rfl (Nat.le_of_ble_eq_true rfl) dX1_weigh_188 ⟨Nat.le_refl _, Nat.le_refl _⟩ (fun r12 u13 H lo hp hPS => ?_)
        obtain ⟨hp, hex, hfr⟩ := hp
        obtain ⟨hwf, p14⟩ := hp
        have I : Wo w g s.heap u13 H lo := ⟨hPS.1, hPS.2, hwf⟩
        have rzu13 : ∀ k j : Nat, ¬ (k0 ≤ k ∧ k < k0 + 20) → u13.1 k j = v.1 k j := fun k j h => (hfr k j (fun z => h (by omega))).trans (rzu8 k j h)
        refine lv_lmul hx hb dX1_weigh_191 ?_
        refine lv_topl (fun q15 eq15 => ?_)
        refine lv_ladd hx hb dX1_weigh_192 ?_
        refine lv_topl (fun q16 eq16 => ?_)
        refine lv_lstore (lv' := [(4, .long q16), (0, .ref (wq w k0)), (1, .int 2), (2, .ref (wq w (k0 + 10 + (1 + (2 : Int32).toNatClampNeg)))), (3, .ref (wq w (k0 + 10 + (1 + (3 : Int32).toNatClampNeg)))), (6, .int y91_6), (7, .int y155_7)]) hx hb dX1_weigh_193 hl (by decide) rfl (fun ls hl => ?_)
        exact B_195 _ _ u13 I q16 (by omega) rzu13 ls (lv_sub hl [1, 2, 3, 4, 0, 5] rfl)
      have B_117 : ∀ (H : Heap) (lo : List Loc) (v_117 : St), Wo w g s.heap v_117 H lo → ∀ (z117_0 : Int32), (0 ≤ y91_6.toInt ∧ y91_6.toInt ≤ 1) → (∀ k j : Nat, ¬ (k0 ≤ k ∧ k < k0 + 20) → v_117.1 k j = v.1 k j) → ∀ (ls : Array Slot), lv_has ls 8 [(0, .ref (wq w k0)), (1, .int 2), (2, .ref (wq w (k0 + 10 + (1 + (2 : Int32).toNatClampNeg)))), (3, .ref (wq w (k0 + 10 + (1 + (3 : Int32).toNatClampNeg)))), (4, .long y91_4), (6, .int y91_6)] → W pg l en (rmL 11) s m ar bl me cd H lo 0 0 (Zl w bl ar s post) (F0 m 117 ls [.int z117_0]) := by
        intro H lo v_117 I z117_0 hE117_0 rB117_Z ls hl
        refine lv_istore (lv' := [(7, .int z117_0), (0, .ref (wq w k0)), (1, .int 2), (2, .ref (wq w (k0 + 10 + (1 + (2 : Int32).toNatClampNeg)))), (3, .ref (wq w (k0 + 10 + (1 + (3 : Int32).toNatClampNeg)))), (4, .long y91_4), (6, .int y91_6)]) hx hb dX1_weigh_117 hl (by decide) rfl (fun ls hl => ?_)
        refine lv_iload hx hb dX1_weigh_119 (lv_at hl 0 rfl) ?_
        refine bz_le E (a := z117_0.toInt) rfl (tgt := 195) dX1_weigh_121 (by decide) (fun c17 => ?_) (fun c17 => ?_)
        ·
          exact B_195 _ _ v_117 I y91_4 (by omega) rB117_Z ls (lv_sub hl [1, 2, 3, 4, 5, 6] rfl)
        ·
          refine lv_aload_n hx hb dX1_weigh_124 rfl (lv_at hl 4 rfl) ?_
          refine lv_aload_n hx hb dX1_weigh_125 rfl (lv_at hl 3 rfl) ?_
          refine cVv E I (c_X2_become l w g v_117 (k0 + 10 + (1 + (3 : Int32).toNatClampNeg)) (k0 + 10 + (1 + (2 : Int32).toNatClampNeg)) E.2.2.1 I.2.2 (h_k0.2.2.2 (3 : Int32).toNatClampNeg (by decide)) (h_k0.2.2.2 (2 : Int32).toNatClampNeg (by decide))  ) (cwV 1 E.1.2.2.2.2 (gWs (C := "StarWalk$Place") mw_4_50 mw_3_61 mw_3_62 mw_1_4 mw_3_63) rfl rfl rfl (by decide +kernel) ⟨by decide, by decide⟩) (h_k0.2.2.2 (3 : Int32).toNatClampNeg (by decide)).1 ((ce_o (h_k0.2.2.2 (3 : Int32).toNatClampNeg (by decide)).2).trans rfl) rfl rfl hl.1 rfl (Nat.le_of_ble_eq_true rfl) dX1_weigh_126 ⟨Nat.le_refl _, Nat.le_refl _⟩ (fun u18 H lo hp hPS => ?_)
          obtain ⟨hp, hex, hfr⟩ := hp
          obtain ⟨hwf, p19⟩ := hp
          have I : Wo w g s.heap u18 H lo := ⟨hPS.1, hPS.2, hwf⟩
          have rzu18 : ∀ k j : Nat, ¬ (k0 ≤ k ∧ k < k0 + 20) → u18.1 k j = v.1 k j := fun k j h => (hfr k j (fun z => h (by have cl2 : (2 : Int32).toNatClampNeg = 2 := rfl; have cl3 : (3 : Int32).toNatClampNeg = 3 := rfl; omega))).trans (rB117_Z k j h)
          refine lv_aload_n hx hb dX1_weigh_129 rfl (lv_at hl 1 rfl) ?_
          refine g_Odds_night E I h_k0.1 mw_2_31 dX1_weigh_130 ?_
          refine lv_aload_n hx hb dX1_weigh_133 rfl (lv_at hl 1 rfl) ?_
          refine g_Odds_night E I h_k0.1 mw_2_31 dX1_weigh_134 ?_
          refine g_Night_clouds E I h_k0.2.1.1 mw_1_106 dX1_weigh_137 ?_
          refine lv_topi (fun x20 ex20 => ?_)
          refine lv_aload_n hx hb dX1_weigh_140 rfl (lv_at hl 3 rfl) ?_
          refine g_Place_hour E I (h_k0.2.2.2 (2 : Int32).toNatClampNeg (by decide)) mw_1_46 dX1_weigh_141 ?_
          refine lv_topi (fun x21 ex21 => ?_)
          refine lv_iload hx hb dX1_weigh_144 (lv_at hl 6 rfl) ?_
          refine lv_iconst (v := 1) hx hb dX1_weigh_146 (by decide) ?_
          refine bi_ne E (a := y91_6.toInt) (b := 1) rfl rfl (tgt := 154) dX1_weigh_147 (by decide) (fun c22 => ?_) (fun c22 => ?_)
          ·
            refine lv_iconst (v := 0) hx hb dX1_weigh_154 (by decide) ?_
            exact B_155 _ _ u18 I z117_0 x20 x21 (0 : Int32) (by omega) (by decide) (by omega) rzu18 ls (lv_sub hl [1, 2, 3, 4, 5, 6, 0] rfl)
          ·
            refine lv_iconst (v := 1) hx hb dX1_weigh_150 (by decide) ?_
            refine lv_goto (tgt := 155) hx hb dX1_weigh_151 (by decide) ?_
            exact B_155 _ _ u18 I z117_0 x20 x21 (1 : Int32) (by omega) (by decide) (by omega) rzu18 ls (lv_sub hl [1, 2, 3, 4, 5, 6, 0] rfl)
      refine lv_iload hx hb dX1_weigh_91 (lv_at hl 5 rfl) ?_
      refine lv_iconst (v := 1) hx hb dX1_weigh_93 (by decide) ?_
      refine bi_gt E (a := y91_6.toInt) (b := 1) rfl rfl (tgt := 201) dX1_weigh_94 (by decide) (fun c23 => ?_) (fun c23 => ?_)
      ·
        refine lv_lload hx hb dX1_weigh_201 (lv_at hl 4 rfl) ?_
        exact rL E I hr hlk (by rw [← hpost]; exact ⟨⟨I.2.2, trivial⟩, trivial, rB91_Z⟩) dX1_weigh_203
      ·
        refine lv_iload hx hb dX1_weigh_97 (lv_at hl 5 rfl) ?_
        refine lv_iconst (v := 1) hx hb dX1_weigh_99 (by decide) ?_
        refine bi_ne E (a := y91_6.toInt) (b := 1) rfl rfl (tgt := 110) dX1_weigh_100 (by decide) (fun c24 => ?_) (fun c24 => ?_)
        ·
          refine lv_bipush (v := 10) hx hb dX1_weigh_110 (by decide) ?_
          refine lv_aload_n hx hb dX1_weigh_112 rfl (lv_at hl 0 rfl) ?_
          refine g_Odds_tenths E I h_k0.1 mw_2_33 dX1_weigh_113 ?_
          refine lv_topi (fun x25 ex25 => ?_)
          refine lv_isub hx hb dX1_weigh_116 ?_
          refine lv_topi (fun x26 ex26 => ?_)
          exact B_117 _ _ v_91 I x26 (by omega) rB91_Z ls (lv_sub hl [0, 1, 2, 3, 4, 5] rfl)
        ·
          refine lv_aload_n hx hb dX1_weigh_103 rfl (lv_at hl 0 rfl) ?_
          refine g_Odds_tenths E I h_k0.1 mw_2_33 dX1_weigh_104 ?_
          refine lv_topi (fun x27 ex27 => ?_)
          refine lv_goto (tgt := 117) hx hb dX1_weigh_107 (by decide) ?_
          exact B_117 _ _ v_91 I x27 (by omega) rB91_Z ls (lv_sub hl [0, 1, 2, 3, 4, 5] rfl)
  have B_24 : ∀ (H : Heap) (lo : List Loc), Wo w g s.heap v H lo → (∀ k j : Nat, ¬ (k0 ≤ k ∧ k < k0 + 20) → v.1 k j = v.1 k j) → ∀ (ls : Array Slot), lv_has ls 8 [(0, .ref (wq w k0)), (2, .ref (wq w (k0 + 10 + (1 + (2 : Int32).toNatClampNeg))))] → W pg l en (rmL 11) s m ar bl me cd H lo 0 0 (Zl w bl ar s post) (F0 m 24 ls []) := by
    intro H lo  I  rB24_Z ls hl
    refine lv_aload_n hx hb dX1_weigh_24 rfl (lv_at hl 0 rfl) ?_
    refine g_Odds_ofMiles E I h_k0.1 mw_2_34 dX1_weigh_25 ?_
    refine lv_topi (fun x28 ex28 => ?_)
    refine bz_eq E (a := x28.toInt) rfl (tgt := 39) dX1_weigh_28 (by decide) (fun c29 => ?_) (fun c29 => ?_)
    ·
      refine lv_aload_n hx hb dX1_weigh_39 rfl (lv_at hl 0 rfl) ?_
      refine g_Odds_night E I h_k0.1 mw_2_31 dX1_weigh_40 ?_
      refine lv_aload_n hx hb dX1_weigh_43 rfl (lv_at hl 1 rfl) ?_
      refine cVi E I (c_X0_isAtWell l w g v (k0 + 1) (k0 + 10 + (1 + (2 : Int32).toNatClampNeg)) E.2.2.1 I.2.2 h_k0.2.1 (h_k0.2.2.2 (2 : Int32).toNatClampNeg (by decide))  ) (cwV 1 E.1.2.2.2.2 (gWs (C := "StarWalk$Night") mw_4_56 mw_3_76 mw_3_77 mw_1_3 mw_3_78) rfl rfl rfl (by decide +kernel) ⟨by decide, by decide⟩) h_k0.2.1.1.1 ((ce_o h_k0.2.1.1.2).trans rfl) rfl rfl hl.1 rfl (Nat.le_of_ble_eq_true rfl) dX1_weigh_44 ⟨Nat.le_refl _, Nat.le_refl _⟩ (fun r30 u31 H lo hp hPS => ?_)
      obtain ⟨hp, hex, hfr⟩ := hp
      obtain ⟨hu, p32⟩ := hp
      rw [hu] at hPS
      have I : Wo w g s.heap v H lo := ⟨hPS.1, hPS.2, I.2.2⟩
      refine cNi E I (c_X7_oneIf l w g v r30 E.2.2.1 I.2.2   ) ⟨va_cnB 1 E.1.2.2.2.2 (gYs mw_3_88) rfl rfl rfl (E.2.2.2.1.2.2.2.2.2.2.2.2.1) (Ew E mw_1_1 rfl) (by decide +kernel) ⟨by decide, by decide⟩, Ew E mw_3_87 rfl, trivial⟩ rfl hl.1 rfl (Nat.le_of_ble_eq_true rfl) dX1_weigh_47 ⟨Nat.le_refl _, Nat.le_refl _⟩ (fun r33 u34 H lo hp hPS => ?_)
      obtain ⟨hp, hex, hfr⟩ := hp
      obtain ⟨hu, p35⟩ := hp
      rw [hu] at hPS
      have I : Wo w g s.heap v H lo := ⟨hPS.1, hPS.2, I.2.2⟩
      refine lv_i2l (v := r33.toInt64) hx hb dX1_weigh_50 rfl ?_
      exact rL E I hr hlk (by rw [← hpost]; exact ⟨⟨I.2.2, trivial⟩, trivial, rB24_Z⟩) dX1_weigh_51
    ·
      refine lv_aload_n hx hb dX1_weigh_31 rfl (lv_at hl 1 rfl) ?_
      refine g_Place_miles E I (h_k0.2.2.2 (2 : Int32).toNatClampNeg (by decide)) mw_1_50 dX1_weigh_32 ?_
      refine lv_topi (fun x37 ex37 => ?_)
      refine lv_i2l (v := x37.toInt64) hx hb dX1_weigh_35 rfl ?_
      refine lv_goto (tgt := 51) hx hb dX1_weigh_36 (by decide) ?_
      exact rL E I hr hlk (by rw [← hpost]; exact ⟨⟨I.2.2, trivial⟩, trivial, rB24_Z⟩) dX1_weigh_51
  refine lv_aload_n hx hb dX1_weigh_0 rfl (lv_at hl 0 rfl) ?_
  refine g_Odds_places E I h_k0.1 mw_2_32 dX1_weigh_1 ?_
  refine lv_iload_n hx hb dX1_weigh_4 rfl (lv_at hl 1 rfl) ?_
  refine ga_22 E I h_k0.2.2.1 (by decide) dX1_weigh_5 ?_
  refine lv_astore_n (lv' := [(2, .ref (wq w (k0 + 10 + (1 + (2 : Int32).toNatClampNeg)))), (0, .ref (wq w k0)), (1, .int 2)]) hx hb dX1_weigh_6 rfl hl (by decide) rfl (fun ls hl => ?_)
  refine lv_iload_n hx hb dX1_weigh_7 rfl (lv_at hl 2 rfl) ?_
  refine lv_bipush (v := 8) hx hb dX1_weigh_8 (by decide) ?_
  refine bi_ge E (a := 2) (b := 8) rfl rfl (tgt := 24) dX1_weigh_10 (by decide) (fun c39 => ?_) (fun c39 => ?_)
  ·
    exfalso; omega
  ·
    refine lv_aload_n hx hb dX1_weigh_13 rfl (lv_at hl 1 rfl) ?_
    refine g_Odds_night E I h_k0.1 mw_2_31 dX1_weigh_14 ?_
    refine lv_iload_n hx hb dX1_weigh_17 rfl (lv_at hl 2 rfl) ?_
    refine cVi E I (c_X0_hasPlanned l w g v (k0 + 1) (2 : Int32) E.2.2.1 I.2.2 h_k0.2.1  ) (cwV 1 E.1.2.2.2.2 (gWs (C := "StarWalk$Night") mw_4_55 mw_3_45 mw_3_46 mw_1_3 mw_3_47) rfl rfl rfl (by decide +kernel) ⟨by decide, by decide⟩) h_k0.2.1.1.1 ((ce_o h_k0.2.1.1.2).trans rfl) rfl rfl hl.1 rfl (Nat.le_of_ble_eq_true rfl) dX1_weigh_18 ⟨Nat.le_refl _, Nat.le_refl _⟩ (fun r40 u41 H lo hp hPS => ?_)
    have iz42 : (2 : Int32).toInt = 2 := rfl
    obtain ⟨hp, hex, hfr⟩ := hp
    obtain ⟨hu, p43⟩ := hp
    rw [hu] at hPS
    have I : Wo w g s.heap v H lo := ⟨hPS.1, hPS.2, I.2.2⟩
    refine bz_ne E (a := r40.toInt) rfl (tgt := 52) dX1_weigh_21 (by decide) (fun c44 => ?_) (fun c44 => ?_)
    ·
      refine lv_aload_n hx hb dX1_weigh_52 rfl (lv_at hl 1 rfl) ?_
      refine g_Odds_places E I h_k0.1 mw_2_32 dX1_weigh_53 ?_
      refine lv_iload_n hx hb dX1_weigh_56 rfl (lv_at hl 2 rfl) ?_
      refine lv_iconst (v := 1) hx hb dX1_weigh_57 (by decide) ?_
      refine lv_iadd hx hb dX1_weigh_58 ?_
      refine lv_topi (fun x45 ex45 => ?_)
      obtain rfl : x45 = 3 := ex45.trans (by decide)
      refine ga_22 E I h_k0.2.2.1 (by decide) dX1_weigh_59 ?_
      refine lv_astore_n (lv' := [(3, .ref (wq w (k0 + 10 + (1 + (3 : Int32).toNatClampNeg)))), (2, .ref (wq w (k0 + 10 + (1 + (2 : Int32).toNatClampNeg)))), (0, .ref (wq w k0)), (1, .int 2)]) hx hb dX1_weigh_60 rfl hl (by decide) rfl (fun ls hl => ?_)
      refine lv_aload_n hx hb dX1_weigh_61 rfl (lv_at hl 1 rfl) ?_
      refine cVi E I (c_X2_canStep l w g v (k0 + 10 + (1 + (2 : Int32).toNatClampNeg)) E.2.2.1 I.2.2 (h_k0.2.2.2 (2 : Int32).toNatClampNeg (by decide))  ) (cwV 0 E.1.2.2.2.2 (gWs (C := "StarWalk$Place") mw_4_58 mw_3_182 mw_3_183 mw_1_4 mw_3_184) rfl rfl rfl (by decide +kernel) ⟨by decide, by decide⟩) (h_k0.2.2.2 (2 : Int32).toNatClampNeg (by decide)).1 ((ce_o (h_k0.2.2.2 (2 : Int32).toNatClampNeg (by decide)).2).trans rfl) rfl rfl hl.1 rfl (Nat.le_of_ble_eq_true rfl) dX1_weigh_62 ⟨Nat.le_refl _, Nat.le_refl _⟩ (fun r46 u47 H lo hp hPS => ?_)
      obtain ⟨hp, hex, hfr⟩ := hp
      obtain ⟨hu, p48⟩ := hp
      rw [hu] at hPS
      have I : Wo w g s.heap v H lo := ⟨hPS.1, hPS.2, I.2.2⟩
      refine bz_ne E (a := r46.toInt) rfl (tgt := 85) dX1_weigh_65 (by decide) (fun c49 => ?_) (fun c49 => ?_)
      ·
        refine lv_lconst (v := 0) hx hb dX1_weigh_85 (by decide) ?_
        refine lv_lstore (lv' := [(4, .long (0 : Int64)), (3, .ref (wq w (k0 + 10 + (1 + (3 : Int32).toNatClampNeg)))), (2, .ref (wq w (k0 + 10 + (1 + (2 : Int32).toNatClampNeg)))), (0, .ref (wq w k0)), (1, .int 2)]) hx hb dX1_weigh_86 hl (by decide) rfl (fun ls hl => ?_)
        refine lv_iconst (v := 0) hx hb dX1_weigh_88 (by decide) ?_
        refine lv_istore (lv' := [(6, .int 0), (4, .long (0 : Int64)), (3, .ref (wq w (k0 + 10 + (1 + (3 : Int32).toNatClampNeg)))), (2, .ref (wq w (k0 + 10 + (1 + (2 : Int32).toNatClampNeg)))), (0, .ref (wq w k0)), (1, .int 2)]) hx hb dX1_weigh_89 hl (by decide) rfl (fun ls hl => ?_)
        exact L_91 ((2147483647 - (0 : Int32).toInt).toNat + 1) _ _ v I (0 : Int64) (0 : Int32) (by decide) rz0 (Nat.lt_succ_self _) ls (lv_sub hl [4, 5, 3, 2, 1, 0] rfl)
      ·
        refine lv_aload_n hx hb dX1_weigh_68 rfl (lv_at hl 0 rfl) ?_
        refine lv_aload_n hx hb dX1_weigh_69 rfl (lv_at hl 1 rfl) ?_
        refine cVv E I (c_X2_become l w g v (k0 + 10 + (1 + (3 : Int32).toNatClampNeg)) (k0 + 10 + (1 + (2 : Int32).toNatClampNeg)) E.2.2.1 I.2.2 (h_k0.2.2.2 (3 : Int32).toNatClampNeg (by decide)) (h_k0.2.2.2 (2 : Int32).toNatClampNeg (by decide))  ) (cwV 1 E.1.2.2.2.2 (gWs (C := "StarWalk$Place") mw_4_50 mw_3_61 mw_3_62 mw_1_4 mw_3_63) rfl rfl rfl (by decide +kernel) ⟨by decide, by decide⟩) (h_k0.2.2.2 (3 : Int32).toNatClampNeg (by decide)).1 ((ce_o (h_k0.2.2.2 (3 : Int32).toNatClampNeg (by decide)).2).trans rfl) rfl rfl hl.1 rfl (Nat.le_of_ble_eq_true rfl) dX1_weigh_70 ⟨Nat.le_refl _, Nat.le_refl _⟩ (fun u50 H lo hp hPS => ?_)
        obtain ⟨hp, hex, hfr⟩ := hp
        obtain ⟨hwf, p51⟩ := hp
        have I : Wo w g s.heap u50 H lo := ⟨hPS.1, hPS.2, hwf⟩
        have rzu50 : ∀ k j : Nat, ¬ (k0 ≤ k ∧ k < k0 + 20) → u50.1 k j = v.1 k j := fun k j h => (hfr k j (fun z => h (by have cl2 : (2 : Int32).toNatClampNeg = 2 := rfl; have cl3 : (3 : Int32).toNatClampNeg = 3 := rfl; omega))).trans (rz0 k j h)
        refine lv_ldc2 (own := "StarWalk$Odds") hx hb E.1.2.2.2.1 (Ew E mw_4_59 rfl) dX1_weigh_73 ?_
        refine lv_aload_n hx hb dX1_weigh_76 rfl (lv_at hl 2 rfl) ?_
        refine lv_iload_n hx hb dX1_weigh_77 rfl (lv_at hl 3 rfl) ?_
        refine lv_iconst (v := 1) hx hb dX1_weigh_78 (by decide) ?_
        refine lv_iadd hx hb dX1_weigh_79 ?_
        refine lv_topi (fun x52 ex52 => ?_)
        obtain rfl : x52 = 3 := ex52.trans (by decide)
        refine cVl E I (c_X1_weigh_v3 l w g u50 k0 E.2.2.1 I.2.2 h_k0  ) (cwV 1 E.1.2.2.2.2 (gWs (C := "StarWalk$Odds") mw_4_51 mw_4_53 mw_s_24 mw_1_7 mw_4_54) rfl rfl rfl (by decide +kernel) ⟨by decide, by decide⟩) h_k0.1.1 ((ce_o h_k0.1.2).trans rfl) rfl rfl hl.1 rfl (Nat.le_of_ble_eq_true rfl) dX1_weigh_80 ⟨Nat.le_refl _, Nat.le_refl _⟩ (fun r53 u54 H lo hp hPS => ?_)
        obtain ⟨hp, hex, hfr⟩ := hp
        obtain ⟨hwf, p55⟩ := hp
        have I : Wo w g s.heap u54 H lo := ⟨hPS.1, hPS.2, hwf⟩
        have rzu54 : ∀ k j : Nat, ¬ (k0 ≤ k ∧ k < k0 + 20) → u54.1 k j = v.1 k j := fun k j h => (hfr k j (fun z => h (by omega))).trans (rzu50 k j h)
        refine lv_lmul hx hb dX1_weigh_83 ?_
        refine lv_topl (fun q56 eq56 => ?_)
        exact rL E I hr hlk (by rw [← hpost]; exact ⟨⟨I.2.2, trivial⟩, trivial, rzu54⟩) dX1_weigh_84
    ·
      exact B_24 _ _ I  rz0 ls (lv_sub hl [1, 0] rfl)
set_option maxHeartbeats 4000000 in
set_option maxRecDepth 100000 in
theorem c_X1_weigh_v1 (l : Launch) (w : Wp) (g : Nat → Nat → Int32) (v : St) (k0 : Nat) (hq : Inj w) (hw : WF (wk w) g v) (h_k0 : oO w k0) : CTl w l yX1_weigh (wsy yX1_weigh prog_3_method_3_code 8 (some .long)) (rmL 12) [.ref (wq w k0), .int 1] v (fun (r : Int64) (u : St) => (WF (wk w) g u ∧ True) ∧ (True) ∧ (∀ k j : Nat, ¬ (k0 ≤ k ∧ k < k0 + 20) → u.1 k j = v.1 k j)) := by
  generalize hpost : (fun (r : Int64) (u : St) => (WF (wk w) g u ∧ True) ∧ (True) ∧ (∀ k j : Nat, ¬ (k0 ≤ k ∧ k < k0 + 20) → u.1 k j = v.1 k j)) = post
  refine CTl.of prog_3_method_3_code 8 (some .long) "StarWalk$Odds" (by decide +kernel) rfl hq hw (Nat.le_of_ble_eq_true rfl) ?_
  intro pg en s m ar bl me cd ls E I hr hlk hl
  have hx := E.1.1
  have hb := E.1.2.1
  have hl : lv_has ls 8 [(0, .ref (wq w k0)), (1, .int 1)] := hl
  have rz0 : ∀ k j : Nat, ¬ (k0 ≤ k ∧ k < k0 + 20) → v.1 k j = v.1 k j := fun _ _ _ => rfl
  have L_91 : ∀ (n : Nat), ∀ (H : Heap) (lo : List Loc) (v_91 : St), Wo w g s.heap v_91 H lo → ∀ (y91_4 : Int64) (y91_6 : Int32), (0 ≤ y91_6.toInt ∧ y91_6.toInt ≤ 2) → (∀ k j : Nat, ¬ (k0 ≤ k ∧ k < k0 + 20) → v_91.1 k j = v.1 k j) → (2147483647 - y91_6.toInt).toNat < n → ∀ (ls : Array Slot), lv_has ls 8 [(0, .ref (wq w k0)), (1, .int 1), (2, .ref (wq w (k0 + 10 + (1 + (1 : Int32).toNatClampNeg)))), (3, .ref (wq w (k0 + 10 + (1 + (2 : Int32).toNatClampNeg)))), (4, .long y91_4), (6, .int y91_6)] → W pg l en (rmL 12) s m ar bl me cd H lo 0 0 (Zl w bl ar s post) (F0 m 91 ls []) := by
    intro n
    induction n with
    | zero => intro H lo v_91 I y91_4 y91_6 hy91_6 rB91_Z hm; exact absurd hm (Nat.not_lt_zero _)
    | succ n ih_91 =>
      intro H lo v_91 I y91_4 y91_6 hy91_6 rB91_Z hm ls hl
      have B_195 : ∀ (H : Heap) (lo : List Loc) (v_195 : St), Wo w g s.heap v_195 H lo → ∀ (y195_4 : Int64), (0 ≤ y91_6.toInt ∧ y91_6.toInt ≤ 1) → (∀ k j : Nat, ¬ (k0 ≤ k ∧ k < k0 + 20) → v_195.1 k j = v.1 k j) → ∀ (ls : Array Slot), lv_has ls 8 [(0, .ref (wq w k0)), (1, .int 1), (2, .ref (wq w (k0 + 10 + (1 + (1 : Int32).toNatClampNeg)))), (3, .ref (wq w (k0 + 10 + (1 + (2 : Int32).toNatClampNeg)))), (4, .long y195_4), (6, .int y91_6)] → W pg l en (rmL 12) s m ar bl me cd H lo 0 0 (Zl w bl ar s post) (F0 m 195 ls []) := by
        intro H lo v_195 I y195_4 hE195_0 rB195_Z ls hl
        obtain ⟨x1, ex1⟩ : ∃ z : Int32, z = y91_6 + 1 := ⟨_, rfl⟩
        have hx1 : x1.toInt = y91_6.toInt + (1) := by rw [ex1]; exact adI (a := y91_6.toInt) (b := 1) rfl rfl (by omega) (by omega)
        refine lv_iinc (v := x1) (lv' := [(6, .int x1), (0, .ref (wq w k0)), (1, .int 1), (2, .ref (wq w (k0 + 10 + (1 + (1 : Int32).toNatClampNeg)))), (3, .ref (wq w (k0 + 10 + (1 + (2 : Int32).toNatClampNeg)))), (4, .long y195_4)]) hx hb dX1_weigh_195 hl (k := 5) rfl (by rw [ex1]; rfl) (by decide) rfl (fun ls hl => ?_)
        refine lv_goto (tgt := 91) hx hb dX1_weigh_198 (by decide) ?_
        exact ih_91 _ _ v_195 I y195_4 x1 (by omega) rB195_Z (by omega) ls (lv_sub hl [1, 2, 3, 4, 5, 0] rfl)
      have B_155 : ∀ (H : Heap) (lo : List Loc) (v_155 : St), Wo w g s.heap v_155 H lo → ∀ (y155_7 : Int32) (z155_1 : Int32) (z155_2 : Int32) (z155_3 : Int32), (1 ≤ y155_7.toInt) → (0 ≤ z155_3.toInt ∧ z155_3.toInt ≤ 1) → (0 ≤ y91_6.toInt ∧ y91_6.toInt ≤ 1) → (∀ k j : Nat, ¬ (k0 ≤ k ∧ k < k0 + 20) → v_155.1 k j = v.1 k j) → ∀ (ls : Array Slot), lv_has ls 8 [(0, .ref (wq w k0)), (1, .int 1), (2, .ref (wq w (k0 + 10 + (1 + (1 : Int32).toNatClampNeg)))), (3, .ref (wq w (k0 + 10 + (1 + (2 : Int32).toNatClampNeg)))), (4, .long y91_4), (6, .int y91_6), (7, .int y155_7)] → W pg l en (rmL 12) s m ar bl me cd H lo 0 0 (Zl w bl ar s post) (F0 m 155 ls [.int z155_3, .int z155_2, .int z155_1, .ref (wq w (k0 + 1))]) := by
        intro H lo v_155 I y155_7 z155_1 z155_2 z155_3 hy155_7 hz155_3 hE155_0 rB155_Z ls hl
        refine cNi E I (c_X7_withBit l w g v_155 z155_1 z155_2 z155_3 E.2.2.1 I.2.2   ) ⟨va_cnB 3 E.1.2.2.2.2 (gYs mw_2_230) rfl rfl rfl (E.2.2.2.1.2.2.2.2.2.2.2.2.2) (Ew E mw_1_1 rfl) (by decide +kernel) ⟨by decide, by decide⟩, Ew E mw_2_229 rfl, trivial⟩ rfl hl.1 rfl (Nat.le_of_ble_eq_true rfl) dX1_weigh_155 ⟨Nat.le_refl _, Nat.le_refl _⟩ (fun r2 u3 H lo hp hPS => ?_)
        obtain ⟨hp, hex, hfr⟩ := hp
        obtain ⟨hu, p4⟩ := hp
        rw [hu] at hPS
        have I : Wo w g s.heap v_155 H lo := ⟨hPS.1, hPS.2, I.2.2⟩
        refine p_Night_clouds E I h_k0.2.1.1 mw_1_106 dX1_weigh_158 (fun H lo I => ?_)
        generalize ev5 : up1 v_155 (k0 + 1) 11 r2 = v5 at I
        have rzv5 : ∀ k j : Nat, ¬ (k0 ≤ k ∧ k < k0 + 20) → v5.1 k j = v.1 k j := fun k j h => fz_u ev5 (by omega) (rB155_Z k j h)
        refine lv_aload_n hx hb dX1_weigh_161 rfl (lv_at hl 0 rfl) ?_
        refine g_Odds_night E I h_k0.1 mw_2_31 dX1_weigh_162 ?_
        refine lv_aload_n hx hb dX1_weigh_165 rfl (lv_at hl 3 rfl) ?_
        refine lv_aload_n hx hb dX1_weigh_166 rfl (lv_at hl 0 rfl) ?_
        refine g_Odds_night E I h_k0.1 mw_2_31 dX1_weigh_167 ?_
        refine g_Night_plannedAims E I h_k0.2.1.1 mw_1_117 dX1_weigh_170 ?_
        refine lv_iload_n hx hb dX1_weigh_173 rfl (lv_at hl 1 rfl) ?_
        refine ga_12 E I h_k0.2.1.2.2.2.2.2.2.1 (by decide) dX1_weigh_174 ?_
        refine lv_topi (fun x6 ex6 => ?_)
        refine cVi E I (c_X0_step l w g v5 (k0 + 1) (k0 + 10 + (1 + (2 : Int32).toNatClampNeg)) x6 E.2.2.1 I.2.2 h_k0.2.1 (h_k0.2.2.2 (2 : Int32).toNatClampNeg (by decide))  ) (cwV 2 E.1.2.2.2.2 (gWs (C := "StarWalk$Night") mw_4_61 mw_3_177 mw_3_178 mw_1_3 mw_3_179) rfl rfl rfl (by decide +kernel) ⟨by decide, by decide⟩) h_k0.2.1.1.1 ((ce_o h_k0.2.1.1.2).trans rfl) rfl rfl hl.1 rfl (Nat.le_of_ble_eq_true rfl) dX1_weigh_175 ⟨Nat.le_refl _, Nat.le_refl _⟩ (fun r7 u8 H lo hp hPS => ?_)
        obtain ⟨hp, hex, hfr⟩ := hp
        obtain ⟨hwf, p9⟩ := hp
        have I : Wo w g s.heap u8 H lo := ⟨hPS.1, hPS.2, hwf⟩
        have rzu8 : ∀ k j : Nat, ¬ (k0 ≤ k ∧ k < k0 + 20) → u8.1 k j = v.1 k j := fun k j h => (hfr k j (fun z => h (by have cl2 : (2 : Int32).toNatClampNeg = 2 := rfl; omega))).trans (rzv5 k j h)
        refine lv_pop hx hb dX1_weigh_178 rfl ?_
        refine lv_lload hx hb dX1_weigh_179 (lv_at hl 4 rfl) ?_
        refine lv_iload hx hb dX1_weigh_181 (lv_at hl 6 rfl) ?_
        refine lv_i2l (v := y155_7.toInt64) hx hb dX1_weigh_183 rfl ?_
        refine lv_aload_n hx hb dX1_weigh_184 rfl (lv_at hl 0 rfl) ?_
        refine lv_iload_n hx hb dX1_weigh_185 rfl (lv_at hl 1 rfl) ?_
        refine lv_iconst (v := 1) hx hb dX1_weigh_186 (by decide) ?_
        refine lv_iadd hx hb dX1_weigh_187 ?_
        refine lv_topi (fun x11 ex11 => ?_)
        obtain rfl : x11 = 2 := ex11.trans (by decide)
        refine cVl E I (c_X1_weigh_v2 l w g u8 k0 E.2.2.1 I.2.2 h_k0  ) (cwV 1 E.1.2.2.2.2 (gWs (C := "StarWalk$Odds") mw_4_51 mw_4_53 mw_s_24 mw_1_7 mw_4_54) rfl rfl rfl (by decide +kernel) ⟨by decide, by decide⟩) h_k0.1.1 ((ce_o h_k0.1.2).trans rfl) rfl rfl hl.1 rfl (Nat.le_of_ble_eq_true rfl) dX1_weigh_188 ⟨Nat.le_refl _, Nat.le_refl _⟩ (fun r12 u13 H lo hp hPS => ?_)
        obtain ⟨hp, hex, hfr⟩ := hp
        obtain ⟨hwf, p14⟩ := hp
        have I : Wo w g s.heap u13 H lo := ⟨hPS.1, hPS.2, hwf⟩
        have rzu13 : ∀ k j : Nat, ¬ (k0 ≤ k ∧ k < k0 + 20) → u13.1 k j = v.1 k j := fun k j h => (hfr k j (fun z => h (by omega))).trans (rzu8 k j h)
        refine lv_lmul hx hb dX1_weigh_191 ?_
        refine lv_topl (fun q15 eq15 => ?_)
        refine lv_ladd hx hb dX1_weigh_192 ?_
        refine lv_topl (fun q16 eq16 => ?_)
        refine lv_lstore (lv' := [(4, .long q16), (0, .ref (wq w k0)), (1, .int 1), (2, .ref (wq w (k0 + 10 + (1 + (1 : Int32).toNatClampNeg)))), (3, .ref (wq w (k0 + 10 + (1 + (2 : Int32).toNatClampNeg)))), (6, .int y91_6), (7, .int y155_7)]) hx hb dX1_weigh_193 hl (by decide) rfl (fun ls hl => ?_)
        exact B_195 _ _ u13 I q16 (by omega) rzu13 ls (lv_sub hl [1, 2, 3, 4, 0, 5] rfl)
      have B_117 : ∀ (H : Heap) (lo : List Loc) (v_117 : St), Wo w g s.heap v_117 H lo → ∀ (z117_0 : Int32), (0 ≤ y91_6.toInt ∧ y91_6.toInt ≤ 1) → (∀ k j : Nat, ¬ (k0 ≤ k ∧ k < k0 + 20) → v_117.1 k j = v.1 k j) → ∀ (ls : Array Slot), lv_has ls 8 [(0, .ref (wq w k0)), (1, .int 1), (2, .ref (wq w (k0 + 10 + (1 + (1 : Int32).toNatClampNeg)))), (3, .ref (wq w (k0 + 10 + (1 + (2 : Int32).toNatClampNeg)))), (4, .long y91_4), (6, .int y91_6)] → W pg l en (rmL 12) s m ar bl me cd H lo 0 0 (Zl w bl ar s post) (F0 m 117 ls [.int z117_0]) := by
        intro H lo v_117 I z117_0 hE117_0 rB117_Z ls hl
        refine lv_istore (lv' := [(7, .int z117_0), (0, .ref (wq w k0)), (1, .int 1), (2, .ref (wq w (k0 + 10 + (1 + (1 : Int32).toNatClampNeg)))), (3, .ref (wq w (k0 + 10 + (1 + (2 : Int32).toNatClampNeg)))), (4, .long y91_4), (6, .int y91_6)]) hx hb dX1_weigh_117 hl (by decide) rfl (fun ls hl => ?_)
        refine lv_iload hx hb dX1_weigh_119 (lv_at hl 0 rfl) ?_
        refine bz_le E (a := z117_0.toInt) rfl (tgt := 195) dX1_weigh_121 (by decide) (fun c17 => ?_) (fun c17 => ?_)
        ·
          exact B_195 _ _ v_117 I y91_4 (by omega) rB117_Z ls (lv_sub hl [1, 2, 3, 4, 5, 6] rfl)
        ·
          refine lv_aload_n hx hb dX1_weigh_124 rfl (lv_at hl 4 rfl) ?_
          refine lv_aload_n hx hb dX1_weigh_125 rfl (lv_at hl 3 rfl) ?_
          refine cVv E I (c_X2_become l w g v_117 (k0 + 10 + (1 + (2 : Int32).toNatClampNeg)) (k0 + 10 + (1 + (1 : Int32).toNatClampNeg)) E.2.2.1 I.2.2 (h_k0.2.2.2 (2 : Int32).toNatClampNeg (by decide)) (h_k0.2.2.2 (1 : Int32).toNatClampNeg (by decide))  ) (cwV 1 E.1.2.2.2.2 (gWs (C := "StarWalk$Place") mw_4_50 mw_3_61 mw_3_62 mw_1_4 mw_3_63) rfl rfl rfl (by decide +kernel) ⟨by decide, by decide⟩) (h_k0.2.2.2 (2 : Int32).toNatClampNeg (by decide)).1 ((ce_o (h_k0.2.2.2 (2 : Int32).toNatClampNeg (by decide)).2).trans rfl) rfl rfl hl.1 rfl (Nat.le_of_ble_eq_true rfl) dX1_weigh_126 ⟨Nat.le_refl _, Nat.le_refl _⟩ (fun u18 H lo hp hPS => ?_)
          obtain ⟨hp, hex, hfr⟩ := hp
          obtain ⟨hwf, p19⟩ := hp
          have I : Wo w g s.heap u18 H lo := ⟨hPS.1, hPS.2, hwf⟩
          have rzu18 : ∀ k j : Nat, ¬ (k0 ≤ k ∧ k < k0 + 20) → u18.1 k j = v.1 k j := fun k j h => (hfr k j (fun z => h (by have cl1 : (1 : Int32).toNatClampNeg = 1 := rfl; have cl2 : (2 : Int32).toNatClampNeg = 2 := rfl; omega))).trans (rB117_Z k j h)
          refine lv_aload_n hx hb dX1_weigh_129 rfl (lv_at hl 1 rfl) ?_
          refine g_Odds_night E I h_k0.1 mw_2_31 dX1_weigh_130 ?_
          refine lv_aload_n hx hb dX1_weigh_133 rfl (lv_at hl 1 rfl) ?_
          refine g_Odds_night E I h_k0.1 mw_2_31 dX1_weigh_134 ?_
          refine g_Night_clouds E I h_k0.2.1.1 mw_1_106 dX1_weigh_137 ?_
          refine lv_topi (fun x20 ex20 => ?_)
          refine lv_aload_n hx hb dX1_weigh_140 rfl (lv_at hl 3 rfl) ?_
          refine g_Place_hour E I (h_k0.2.2.2 (1 : Int32).toNatClampNeg (by decide)) mw_1_46 dX1_weigh_141 ?_
          refine lv_topi (fun x21 ex21 => ?_)
          refine lv_iload hx hb dX1_weigh_144 (lv_at hl 6 rfl) ?_
          refine lv_iconst (v := 1) hx hb dX1_weigh_146 (by decide) ?_
          refine bi_ne E (a := y91_6.toInt) (b := 1) rfl rfl (tgt := 154) dX1_weigh_147 (by decide) (fun c22 => ?_) (fun c22 => ?_)
          ·
            refine lv_iconst (v := 0) hx hb dX1_weigh_154 (by decide) ?_
            exact B_155 _ _ u18 I z117_0 x20 x21 (0 : Int32) (by omega) (by decide) (by omega) rzu18 ls (lv_sub hl [1, 2, 3, 4, 5, 6, 0] rfl)
          ·
            refine lv_iconst (v := 1) hx hb dX1_weigh_150 (by decide) ?_
            refine lv_goto (tgt := 155) hx hb dX1_weigh_151 (by decide) ?_
            exact B_155 _ _ u18 I z117_0 x20 x21 (1 : Int32) (by omega) (by decide) (by omega) rzu18 ls (lv_sub hl [1, 2, 3, 4, 5, 6, 0] rfl)
      refine lv_iload hx hb dX1_weigh_91 (lv_at hl 5 rfl) ?_
      refine lv_iconst (v := 1) hx hb dX1_weigh_93 (by decide) ?_
      refine bi_gt E (a := y91_6.toInt) (b := 1) rfl rfl (tgt := 201) dX1_weigh_94 (by decide) (fun c23 => ?_) (fun c23 => ?_)
      ·
        refine lv_lload hx hb dX1_weigh_201 (lv_at hl 4 rfl) ?_
        exact rL E I hr hlk (by rw [← hpost]; exact ⟨⟨I.2.2, trivial⟩, trivial, rB91_Z⟩) dX1_weigh_203
      ·
        refine lv_iload hx hb dX1_weigh_97 (lv_at hl 5 rfl) ?_
        refine lv_iconst (v := 1) hx hb dX1_weigh_99 (by decide) ?_
        refine bi_ne E (a := y91_6.toInt) (b := 1) rfl rfl (tgt := 110) dX1_weigh_100 (by decide) (fun c24 => ?_) (fun c24 => ?_)
        ·
          refine lv_bipush (v := 10) hx hb dX1_weigh_110 (by decide) ?_
          refine lv_aload_n hx hb dX1_weigh_112 rfl (lv_at hl 0 rfl) ?_
          refine g_Odds_tenths E I h_k0.1 mw_2_33 dX1_weigh_113 ?_
          refine lv_topi (fun x25 ex25 => ?_)
          refine lv_isub hx hb dX1_weigh_116 ?_
          refine lv_topi (fun x26 ex26 => ?_)
          exact B_117 _ _ v_91 I x26 (by omega) rB91_Z ls (lv_sub hl [0, 1, 2, 3, 4, 5] rfl)
        ·
          refine lv_aload_n hx hb dX1_weigh_103 rfl (lv_at hl 0 rfl) ?_
          refine g_Odds_tenths E I h_k0.1 mw_2_33 dX1_weigh_104 ?_
          refine lv_topi (fun x27 ex27 => ?_)
          refine lv_goto (tgt := 117) hx hb dX1_weigh_107 (by decide) ?_
          exact B_117 _ _ v_91 I x27 (by omega) rB91_Z ls (lv_sub hl [0, 1, 2, 3, 4, 5] rfl)
  have B_24 : ∀ (H : Heap) (lo : List Loc), Wo w g s.heap v H lo → (∀ k j : Nat, ¬ (k0 ≤ k ∧ k < k0 + 20) → v.1 k j = v.1 k j) → ∀ (ls : Array Slot), lv_has ls 8 [(0, .ref (wq w k0)), (2, .ref (wq w (k0 + 10 + (1 + (1 : Int32).toNatClampNeg))))] → W pg l en (rmL 12) s m ar bl me cd H lo 0 0 (Zl w bl ar s post) (F0 m 24 ls []) := by
    intro H lo  I  rB24_Z ls hl
    refine lv_aload_n hx hb dX1_weigh_24 rfl (lv_at hl 0 rfl) ?_
    refine g_Odds_ofMiles E I h_k0.1 mw_2_34 dX1_weigh_25 ?_
    refine lv_topi (fun x28 ex28 => ?_)
    refine bz_eq E (a := x28.toInt) rfl (tgt := 39) dX1_weigh_28 (by decide) (fun c29 => ?_) (fun c29 => ?_)
    ·
      refine lv_aload_n hx hb dX1_weigh_39 rfl (lv_at hl 0 rfl) ?_
      refine g_Odds_night E I h_k0.1 mw_2_31 dX1_weigh_40 ?_
      refine lv_aload_n hx hb dX1_weigh_43 rfl (lv_at hl 1 rfl) ?_
      refine cVi E I (c_X0_isAtWell l w g v (k0 + 1) (k0 + 10 + (1 + (1 : Int32).toNatClampNeg)) E.2.2.1 I.2.2 h_k0.2.1 (h_k0.2.2.2 (1 : Int32).toNatClampNeg (by decide))  ) (cwV 1 E.1.2.2.2.2 (gWs (C := "StarWalk$Night") mw_4_56 mw_3_76 mw_3_77 mw_1_3 mw_3_78) rfl rfl rfl (by decide +kernel) ⟨by decide, by decide⟩) h_k0.2.1.1.1 ((ce_o h_k0.2.1.1.2).trans rfl) rfl rfl hl.1 rfl (Nat.le_of_ble_eq_true rfl) dX1_weigh_44 ⟨Nat.le_refl _, Nat.le_refl _⟩ (fun r30 u31 H lo hp hPS => ?_)
      obtain ⟨hp, hex, hfr⟩ := hp
      obtain ⟨hu, p32⟩ := hp
      rw [hu] at hPS
      have I : Wo w g s.heap v H lo := ⟨hPS.1, hPS.2, I.2.2⟩
      refine cNi E I (c_X7_oneIf l w g v r30 E.2.2.1 I.2.2   ) ⟨va_cnB 1 E.1.2.2.2.2 (gYs mw_3_88) rfl rfl rfl (E.2.2.2.1.2.2.2.2.2.2.2.2.1) (Ew E mw_1_1 rfl) (by decide +kernel) ⟨by decide, by decide⟩, Ew E mw_3_87 rfl, trivial⟩ rfl hl.1 rfl (Nat.le_of_ble_eq_true rfl) dX1_weigh_47 ⟨Nat.le_refl _, Nat.le_refl _⟩ (fun r33 u34 H lo hp hPS => ?_)
      obtain ⟨hp, hex, hfr⟩ := hp
      obtain ⟨hu, p35⟩ := hp
      rw [hu] at hPS
      have I : Wo w g s.heap v H lo := ⟨hPS.1, hPS.2, I.2.2⟩
      refine lv_i2l (v := r33.toInt64) hx hb dX1_weigh_50 rfl ?_
      exact rL E I hr hlk (by rw [← hpost]; exact ⟨⟨I.2.2, trivial⟩, trivial, rB24_Z⟩) dX1_weigh_51
    ·
      refine lv_aload_n hx hb dX1_weigh_31 rfl (lv_at hl 1 rfl) ?_
      refine g_Place_miles E I (h_k0.2.2.2 (1 : Int32).toNatClampNeg (by decide)) mw_1_50 dX1_weigh_32 ?_
      refine lv_topi (fun x37 ex37 => ?_)
      refine lv_i2l (v := x37.toInt64) hx hb dX1_weigh_35 rfl ?_
      refine lv_goto (tgt := 51) hx hb dX1_weigh_36 (by decide) ?_
      exact rL E I hr hlk (by rw [← hpost]; exact ⟨⟨I.2.2, trivial⟩, trivial, rB24_Z⟩) dX1_weigh_51
  refine lv_aload_n hx hb dX1_weigh_0 rfl (lv_at hl 0 rfl) ?_
  refine g_Odds_places E I h_k0.1 mw_2_32 dX1_weigh_1 ?_
  refine lv_iload_n hx hb dX1_weigh_4 rfl (lv_at hl 1 rfl) ?_
  refine ga_22 E I h_k0.2.2.1 (by decide) dX1_weigh_5 ?_
  refine lv_astore_n (lv' := [(2, .ref (wq w (k0 + 10 + (1 + (1 : Int32).toNatClampNeg)))), (0, .ref (wq w k0)), (1, .int 1)]) hx hb dX1_weigh_6 rfl hl (by decide) rfl (fun ls hl => ?_)
  refine lv_iload_n hx hb dX1_weigh_7 rfl (lv_at hl 2 rfl) ?_
  refine lv_bipush (v := 8) hx hb dX1_weigh_8 (by decide) ?_
  refine bi_ge E (a := 1) (b := 8) rfl rfl (tgt := 24) dX1_weigh_10 (by decide) (fun c39 => ?_) (fun c39 => ?_)
  ·
    exfalso; omega
  ·
    refine lv_aload_n hx hb dX1_weigh_13 rfl (lv_at hl 1 rfl) ?_
    refine g_Odds_night E I h_k0.1 mw_2_31 dX1_weigh_14 ?_
    refine lv_iload_n hx hb dX1_weigh_17 rfl (lv_at hl 2 rfl) ?_
    refine cVi E I (c_X0_hasPlanned l w g v (k0 + 1) (1 : Int32) E.2.2.1 I.2.2 h_k0.2.1  ) (cwV 1 E.1.2.2.2.2 (gWs (C := "StarWalk$Night") mw_4_55 mw_3_45 mw_3_46 mw_1_3 mw_3_47) rfl rfl rfl (by decide +kernel) ⟨by decide, by decide⟩) h_k0.2.1.1.1 ((ce_o h_k0.2.1.1.2).trans rfl) rfl rfl hl.1 rfl (Nat.le_of_ble_eq_true rfl) dX1_weigh_18 ⟨Nat.le_refl _, Nat.le_refl _⟩ (fun r40 u41 H lo hp hPS => ?_)
    have iz42 : (1 : Int32).toInt = 1 := rfl
    obtain ⟨hp, hex, hfr⟩ := hp
    obtain ⟨hu, p43⟩ := hp
    rw [hu] at hPS
    have I : Wo w g s.heap v H lo := ⟨hPS.1, hPS.2, I.2.2⟩
    refine bz_ne E (a := r40.toInt) rfl (tgt := 52) dX1_weigh_21 (by decide) (fun c44 => ?_) (fun c44 => ?_)
    ·
      refine lv_aload_n hx hb dX1_weigh_52 rfl (lv_at hl 1 rfl) ?_
      refine g_Odds_places E I h_k0.1 mw_2_32 dX1_weigh_53 ?_
      refine lv_iload_n hx hb dX1_weigh_56 rfl (lv_at hl 2 rfl) ?_
      refine lv_iconst (v := 1) hx hb dX1_weigh_57 (by decide) ?_
      refine lv_iadd hx hb dX1_weigh_58 ?_
      refine lv_topi (fun x45 ex45 => ?_)
      obtain rfl : x45 = 2 := ex45.trans (by decide)
      refine ga_22 E I h_k0.2.2.1 (by decide) dX1_weigh_59 ?_
      refine lv_astore_n (lv' := [(3, .ref (wq w (k0 + 10 + (1 + (2 : Int32).toNatClampNeg)))), (2, .ref (wq w (k0 + 10 + (1 + (1 : Int32).toNatClampNeg)))), (0, .ref (wq w k0)), (1, .int 1)]) hx hb dX1_weigh_60 rfl hl (by decide) rfl (fun ls hl => ?_)
      refine lv_aload_n hx hb dX1_weigh_61 rfl (lv_at hl 1 rfl) ?_
      refine cVi E I (c_X2_canStep l w g v (k0 + 10 + (1 + (1 : Int32).toNatClampNeg)) E.2.2.1 I.2.2 (h_k0.2.2.2 (1 : Int32).toNatClampNeg (by decide))  ) (cwV 0 E.1.2.2.2.2 (gWs (C := "StarWalk$Place") mw_4_58 mw_3_182 mw_3_183 mw_1_4 mw_3_184) rfl rfl rfl (by decide +kernel) ⟨by decide, by decide⟩) (h_k0.2.2.2 (1 : Int32).toNatClampNeg (by decide)).1 ((ce_o (h_k0.2.2.2 (1 : Int32).toNatClampNeg (by decide)).2).trans rfl) rfl rfl hl.1 rfl (Nat.le_of_ble_eq_true rfl) dX1_weigh_62 ⟨Nat.le_refl _, Nat.le_refl _⟩ (fun r46 u47 H lo hp hPS => ?_)
      obtain ⟨hp, hex, hfr⟩ := hp
      obtain ⟨hu, p48⟩ := hp
      rw [hu] at hPS
      have I : Wo w g s.heap v H lo := ⟨hPS.1, hPS.2, I.2.2⟩
      refine bz_ne E (a := r46.toInt) rfl (tgt := 85) dX1_weigh_65 (by decide) (fun c49 => ?_) (fun c49 => ?_)
      ·
        refine lv_lconst (v := 0) hx hb dX1_weigh_85 (by decide) ?_
        refine lv_lstore (lv' := [(4, .long (0 : Int64)), (3, .ref (wq w (k0 + 10 + (1 + (2 : Int32).toNatClampNeg)))), (2, .ref (wq w (k0 + 10 + (1 + (1 : Int32).toNatClampNeg)))), (0, .ref (wq w k0)), (1, .int 1)]) hx hb dX1_weigh_86 hl (by decide) rfl (fun ls hl => ?_)
        refine lv_iconst (v := 0) hx hb dX1_weigh_88 (by decide) ?_
        refine lv_istore (lv' := [(6, .int 0), (4, .long (0 : Int64)), (3, .ref (wq w (k0 + 10 + (1 + (2 : Int32).toNatClampNeg)))), (2, .ref (wq w (k0 + 10 + (1 + (1 : Int32).toNatClampNeg)))), (0, .ref (wq w k0)), (1, .int 1)]) hx hb dX1_weigh_89 hl (by decide) rfl (fun ls hl => ?_)
        exact L_91 ((2147483647 - (0 : Int32).toInt).toNat + 1) _ _ v I (0 : Int64) (0 : Int32) (by decide) rz0 (Nat.lt_succ_self _) ls (lv_sub hl [4, 5, 3, 2, 1, 0] rfl)
      ·
        refine lv_aload_n hx hb dX1_weigh_68 rfl (lv_at hl 0 rfl) ?_
        refine lv_aload_n hx hb dX1_weigh_69 rfl (lv_at hl 1 rfl) ?_
        refine cVv E I (c_X2_become l w g v (k0 + 10 + (1 + (2 : Int32).toNatClampNeg)) (k0 + 10 + (1 + (1 : Int32).toNatClampNeg)) E.2.2.1 I.2.2 (h_k0.2.2.2 (2 : Int32).toNatClampNeg (by decide)) (h_k0.2.2.2 (1 : Int32).toNatClampNeg (by decide))  ) (cwV 1 E.1.2.2.2.2 (gWs (C := "StarWalk$Place") mw_4_50 mw_3_61 mw_3_62 mw_1_4 mw_3_63) rfl rfl rfl (by decide +kernel) ⟨by decide, by decide⟩) (h_k0.2.2.2 (2 : Int32).toNatClampNeg (by decide)).1 ((ce_o (h_k0.2.2.2 (2 : Int32).toNatClampNeg (by decide)).2).trans rfl) rfl rfl hl.1 rfl (Nat.le_of_ble_eq_true rfl) dX1_weigh_70 ⟨Nat.le_refl _, Nat.le_refl _⟩ (fun u50 H lo hp hPS => ?_)
        obtain ⟨hp, hex, hfr⟩ := hp
        obtain ⟨hwf, p51⟩ := hp
        have I : Wo w g s.heap u50 H lo := ⟨hPS.1, hPS.2, hwf⟩
        have rzu50 : ∀ k j : Nat, ¬ (k0 ≤ k ∧ k < k0 + 20) → u50.1 k j = v.1 k j := fun k j h => (hfr k j (fun z => h (by have cl1 : (1 : Int32).toNatClampNeg = 1 := rfl; have cl2 : (2 : Int32).toNatClampNeg = 2 := rfl; omega))).trans (rz0 k j h)
        refine lv_ldc2 (own := "StarWalk$Odds") hx hb E.1.2.2.2.1 (Ew E mw_4_59 rfl) dX1_weigh_73 ?_
        refine lv_aload_n hx hb dX1_weigh_76 rfl (lv_at hl 2 rfl) ?_
        refine lv_iload_n hx hb dX1_weigh_77 rfl (lv_at hl 3 rfl) ?_
        refine lv_iconst (v := 1) hx hb dX1_weigh_78 (by decide) ?_
        refine lv_iadd hx hb dX1_weigh_79 ?_
        refine lv_topi (fun x52 ex52 => ?_)
        obtain rfl : x52 = 2 := ex52.trans (by decide)
        refine cVl E I (c_X1_weigh_v2 l w g u50 k0 E.2.2.1 I.2.2 h_k0  ) (cwV 1 E.1.2.2.2.2 (gWs (C := "StarWalk$Odds") mw_4_51 mw_4_53 mw_s_24 mw_1_7 mw_4_54) rfl rfl rfl (by decide +kernel) ⟨by decide, by decide⟩) h_k0.1.1 ((ce_o h_k0.1.2).trans rfl) rfl rfl hl.1 rfl (Nat.le_of_ble_eq_true rfl) dX1_weigh_80 ⟨Nat.le_refl _, Nat.le_refl _⟩ (fun r53 u54 H lo hp hPS => ?_)
        obtain ⟨hp, hex, hfr⟩ := hp
        obtain ⟨hwf, p55⟩ := hp
        have I : Wo w g s.heap u54 H lo := ⟨hPS.1, hPS.2, hwf⟩
        have rzu54 : ∀ k j : Nat, ¬ (k0 ≤ k ∧ k < k0 + 20) → u54.1 k j = v.1 k j := fun k j h => (hfr k j (fun z => h (by omega))).trans (rzu50 k j h)
        refine lv_lmul hx hb dX1_weigh_83 ?_
        refine lv_topl (fun q56 eq56 => ?_)
        exact rL E I hr hlk (by rw [← hpost]; exact ⟨⟨I.2.2, trivial⟩, trivial, rzu54⟩) dX1_weigh_84
    ·
      exact B_24 _ _ I  rz0 ls (lv_sub hl [1, 0] rfl)
set_option maxHeartbeats 4000000 in
set_option maxRecDepth 100000 in
theorem c_X1_weigh_v0 (l : Launch) (w : Wp) (g : Nat → Nat → Int32) (v : St) (k0 : Nat) (hq : Inj w) (hw : WF (wk w) g v) (h_k0 : oO w k0) : CTl w l yX1_weigh (wsy yX1_weigh prog_3_method_3_code 8 (some .long)) (rmL 13) [.ref (wq w k0), .int 0] v (fun (r : Int64) (u : St) => (WF (wk w) g u ∧ True) ∧ (True) ∧ (∀ k j : Nat, ¬ (k0 ≤ k ∧ k < k0 + 20) → u.1 k j = v.1 k j)) := by
  generalize hpost : (fun (r : Int64) (u : St) => (WF (wk w) g u ∧ True) ∧ (True) ∧ (∀ k j : Nat, ¬ (k0 ≤ k ∧ k < k0 + 20) → u.1 k j = v.1 k j)) = post
  refine CTl.of prog_3_method_3_code 8 (some .long) "StarWalk$Odds" (by decide +kernel) rfl hq hw (Nat.le_of_ble_eq_true rfl) ?_
  intro pg en s m ar bl me cd ls E I hr hlk hl
  have hx := E.1.1
  have hb := E.1.2.1
  have hl : lv_has ls 8 [(0, .ref (wq w k0)), (1, .int 0)] := hl
  have rz0 : ∀ k j : Nat, ¬ (k0 ≤ k ∧ k < k0 + 20) → v.1 k j = v.1 k j := fun _ _ _ => rfl
  have L_91 : ∀ (n : Nat), ∀ (H : Heap) (lo : List Loc) (v_91 : St), Wo w g s.heap v_91 H lo → ∀ (y91_4 : Int64) (y91_6 : Int32), (0 ≤ y91_6.toInt ∧ y91_6.toInt ≤ 2) → (∀ k j : Nat, ¬ (k0 ≤ k ∧ k < k0 + 20) → v_91.1 k j = v.1 k j) → (2147483647 - y91_6.toInt).toNat < n → ∀ (ls : Array Slot), lv_has ls 8 [(0, .ref (wq w k0)), (1, .int 0), (2, .ref (wq w (k0 + 10 + (1 + (0 : Int32).toNatClampNeg)))), (3, .ref (wq w (k0 + 10 + (1 + (1 : Int32).toNatClampNeg)))), (4, .long y91_4), (6, .int y91_6)] → W pg l en (rmL 13) s m ar bl me cd H lo 0 0 (Zl w bl ar s post) (F0 m 91 ls []) := by
    intro n
    induction n with
    | zero => intro H lo v_91 I y91_4 y91_6 hy91_6 rB91_Z hm; exact absurd hm (Nat.not_lt_zero _)
    | succ n ih_91 =>
      intro H lo v_91 I y91_4 y91_6 hy91_6 rB91_Z hm ls hl
      have B_195 : ∀ (H : Heap) (lo : List Loc) (v_195 : St), Wo w g s.heap v_195 H lo → ∀ (y195_4 : Int64), (0 ≤ y91_6.toInt ∧ y91_6.toInt ≤ 1) → (∀ k j : Nat, ¬ (k0 ≤ k ∧ k < k0 + 20) → v_195.1 k j = v.1 k j) → ∀ (ls : Array Slot), lv_has ls 8 [(0, .ref (wq w k0)), (1, .int 0), (2, .ref (wq w (k0 + 10 + (1 + (0 : Int32).toNatClampNeg)))), (3, .ref (wq w (k0 + 10 + (1 + (1 : Int32).toNatClampNeg)))), (4, .long y195_4), (6, .int y91_6)] → W pg l en (rmL 13) s m ar bl me cd H lo 0 0 (Zl w bl ar s post) (F0 m 195 ls []) := by
        intro H lo v_195 I y195_4 hE195_0 rB195_Z ls hl
        obtain ⟨x1, ex1⟩ : ∃ z : Int32, z = y91_6 + 1 := ⟨_, rfl⟩
        have hx1 : x1.toInt = y91_6.toInt + (1) := by rw [ex1]; exact adI (a := y91_6.toInt) (b := 1) rfl rfl (by omega) (by omega)
        refine lv_iinc (v := x1) (lv' := [(6, .int x1), (0, .ref (wq w k0)), (1, .int 0), (2, .ref (wq w (k0 + 10 + (1 + (0 : Int32).toNatClampNeg)))), (3, .ref (wq w (k0 + 10 + (1 + (1 : Int32).toNatClampNeg)))), (4, .long y195_4)]) hx hb dX1_weigh_195 hl (k := 5) rfl (by rw [ex1]; rfl) (by decide) rfl (fun ls hl => ?_)
        refine lv_goto (tgt := 91) hx hb dX1_weigh_198 (by decide) ?_
        exact ih_91 _ _ v_195 I y195_4 x1 (by omega) rB195_Z (by omega) ls (lv_sub hl [1, 2, 3, 4, 5, 0] rfl)
      have B_155 : ∀ (H : Heap) (lo : List Loc) (v_155 : St), Wo w g s.heap v_155 H lo → ∀ (y155_7 : Int32) (z155_1 : Int32) (z155_2 : Int32) (z155_3 : Int32), (1 ≤ y155_7.toInt) → (0 ≤ z155_3.toInt ∧ z155_3.toInt ≤ 1) → (0 ≤ y91_6.toInt ∧ y91_6.toInt ≤ 1) → (∀ k j : Nat, ¬ (k0 ≤ k ∧ k < k0 + 20) → v_155.1 k j = v.1 k j) → ∀ (ls : Array Slot), lv_has ls 8 [(0, .ref (wq w k0)), (1, .int 0), (2, .ref (wq w (k0 + 10 + (1 + (0 : Int32).toNatClampNeg)))), (3, .ref (wq w (k0 + 10 + (1 + (1 : Int32).toNatClampNeg)))), (4, .long y91_4), (6, .int y91_6), (7, .int y155_7)] → W pg l en (rmL 13) s m ar bl me cd H lo 0 0 (Zl w bl ar s post) (F0 m 155 ls [.int z155_3, .int z155_2, .int z155_1, .ref (wq w (k0 + 1))]) := by
        intro H lo v_155 I y155_7 z155_1 z155_2 z155_3 hy155_7 hz155_3 hE155_0 rB155_Z ls hl
        refine cNi E I (c_X7_withBit l w g v_155 z155_1 z155_2 z155_3 E.2.2.1 I.2.2   ) ⟨va_cnB 3 E.1.2.2.2.2 (gYs mw_2_230) rfl rfl rfl (E.2.2.2.1.2.2.2.2.2.2.2.2.2) (Ew E mw_1_1 rfl) (by decide +kernel) ⟨by decide, by decide⟩, Ew E mw_2_229 rfl, trivial⟩ rfl hl.1 rfl (Nat.le_of_ble_eq_true rfl) dX1_weigh_155 ⟨Nat.le_refl _, Nat.le_refl _⟩ (fun r2 u3 H lo hp hPS => ?_)
        obtain ⟨hp, hex, hfr⟩ := hp
        obtain ⟨hu, p4⟩ := hp
        rw [hu] at hPS
        have I : Wo w g s.heap v_155 H lo := ⟨hPS.1, hPS.2, I.2.2⟩
        refine p_Night_clouds E I h_k0.2.1.1 mw_1_106 dX1_weigh_158 (fun H lo I => ?_)
        generalize ev5 : up1 v_155 (k0 + 1) 11 r2 = v5 at I
        have rzv5 : ∀ k j : Nat, ¬ (k0 ≤ k ∧ k < k0 + 20) → v5.1 k j = v.1 k j := fun k j h => fz_u ev5 (by omega) (rB155_Z k j h)
        refine lv_aload_n hx hb dX1_weigh_161 rfl (lv_at hl 0 rfl) ?_
        refine g_Odds_night E I h_k0.1 mw_2_31 dX1_weigh_162 ?_
        refine lv_aload_n hx hb dX1_weigh_165 rfl (lv_at hl 3 rfl) ?_
        refine lv_aload_n hx hb dX1_weigh_166 rfl (lv_at hl 0 rfl) ?_
        refine g_Odds_night E I h_k0.1 mw_2_31 dX1_weigh_167 ?_
        refine g_Night_plannedAims E I h_k0.2.1.1 mw_1_117 dX1_weigh_170 ?_
        refine lv_iload_n hx hb dX1_weigh_173 rfl (lv_at hl 1 rfl) ?_
        refine ga_12 E I h_k0.2.1.2.2.2.2.2.2.1 (by decide) dX1_weigh_174 ?_
        refine lv_topi (fun x6 ex6 => ?_)
        refine cVi E I (c_X0_step l w g v5 (k0 + 1) (k0 + 10 + (1 + (1 : Int32).toNatClampNeg)) x6 E.2.2.1 I.2.2 h_k0.2.1 (h_k0.2.2.2 (1 : Int32).toNatClampNeg (by decide))  ) (cwV 2 E.1.2.2.2.2 (gWs (C := "StarWalk$Night") mw_4_61 mw_3_177 mw_3_178 mw_1_3 mw_3_179) rfl rfl rfl (by decide +kernel) ⟨by decide, by decide⟩) h_k0.2.1.1.1 ((ce_o h_k0.2.1.1.2).trans rfl) rfl rfl hl.1 rfl (Nat.le_of_ble_eq_true rfl) dX1_weigh_175 ⟨Nat.le_refl _, Nat.le_refl _⟩ (fun r7 u8 H lo hp hPS => ?_)
        obtain ⟨hp, hex, hfr⟩ := hp
        obtain ⟨hwf, p9⟩ := hp
        have I : Wo w g s.heap u8 H lo := ⟨hPS.1, hPS.2, hwf⟩
        have rzu8 : ∀ k j : Nat, ¬ (k0 ≤ k ∧ k < k0 + 20) → u8.1 k j = v.1 k j := fun k j h => (hfr k j (fun z => h (by have cl1 : (1 : Int32).toNatClampNeg = 1 := rfl; omega))).trans (rzv5 k j h)
        refine lv_pop hx hb dX1_weigh_178 rfl ?_
        refine lv_lload hx hb dX1_weigh_179 (lv_at hl 4 rfl) ?_
        refine lv_iload hx hb dX1_weigh_181 (lv_at hl 6 rfl) ?_
        refine lv_i2l (v := y155_7.toInt64) hx hb dX1_weigh_183 rfl ?_
        refine lv_aload_n hx hb dX1_weigh_184 rfl (lv_at hl 0 rfl) ?_
        refine lv_iload_n hx hb dX1_weigh_185 rfl (lv_at hl 1 rfl) ?_
        refine lv_iconst (v := 1) hx hb dX1_weigh_186 (by decide) ?_
        refine lv_iadd hx hb dX1_weigh_187 ?_
        refine lv_topi (fun x11 ex11 => ?_)
        obtain rfl : x11 = 1 := ex11.trans (by decide)
        refine cVl E I (c_X1_weigh_v1 l w g u8 k0 E.2.2.1 I.2.2 h_k0  ) (cwV 1 E.1.2.2.2.2 (gWs (C := "StarWalk$Odds") mw_4_51 mw_4_53 mw_s_24 mw_1_7 mw_4_54) rfl rfl rfl (by decide +kernel) ⟨by decide, by decide⟩) h_k0.1.1 ((ce_o h_k0.1.2).trans rfl) rfl rfl hl.1 rfl (Nat.le_of_ble_eq_true rfl) dX1_weigh_188 ⟨Nat.le_refl _, Nat.le_refl _⟩ (fun r12 u13 H lo hp hPS => ?_)
        obtain ⟨hp, hex, hfr⟩ := hp
        obtain ⟨hwf, p14⟩ := hp
        have I : Wo w g s.heap u13 H lo := ⟨hPS.1, hPS.2, hwf⟩
        have rzu13 : ∀ k j : Nat, ¬ (k0 ≤ k ∧ k < k0 + 20) → u13.1 k j = v.1 k j := fun k j h => (hfr k j (fun z => h (by omega))).trans (rzu8 k j h)
        refine lv_lmul hx hb dX1_weigh_191 ?_
        refine lv_topl (fun q15 eq15 => ?_)
        refine lv_ladd hx hb dX1_weigh_192 ?_
        refine lv_topl (fun q16 eq16 => ?_)
        refine lv_lstore (lv' := [(4, .long q16), (0, .ref (wq w k0)), (1, .int 0), (2, .ref (wq w (k0 + 10 + (1 + (0 : Int32).toNatClampNeg)))), (3, .ref (wq w (k0 + 10 + (1 + (1 : Int32).toNatClampNeg)))), (6, .int y91_6), (7, .int y155_7)]) hx hb dX1_weigh_193 hl (by decide) rfl (fun ls hl => ?_)
        exact B_195 _ _ u13 I q16 (by omega) rzu13 ls (lv_sub hl [1, 2, 3, 4, 0, 5] rfl)
      have B_117 : ∀ (H : Heap) (lo : List Loc) (v_117 : St), Wo w g s.heap v_117 H lo → ∀ (z117_0 : Int32), (0 ≤ y91_6.toInt ∧ y91_6.toInt ≤ 1) → (∀ k j : Nat, ¬ (k0 ≤ k ∧ k < k0 + 20) → v_117.1 k j = v.1 k j) → ∀ (ls : Array Slot), lv_has ls 8 [(0, .ref (wq w k0)), (1, .int 0), (2, .ref (wq w (k0 + 10 + (1 + (0 : Int32).toNatClampNeg)))), (3, .ref (wq w (k0 + 10 + (1 + (1 : Int32).toNatClampNeg)))), (4, .long y91_4), (6, .int y91_6)] → W pg l en (rmL 13) s m ar bl me cd H lo 0 0 (Zl w bl ar s post) (F0 m 117 ls [.int z117_0]) := by
        intro H lo v_117 I z117_0 hE117_0 rB117_Z ls hl
        refine lv_istore (lv' := [(7, .int z117_0), (0, .ref (wq w k0)), (1, .int 0), (2, .ref (wq w (k0 + 10 + (1 + (0 : Int32).toNatClampNeg)))), (3, .ref (wq w (k0 + 10 + (1 + (1 : Int32).toNatClampNeg)))), (4, .long y91_4), (6, .int y91_6)]) hx hb dX1_weigh_117 hl (by decide) rfl (fun ls hl => ?_)
        refine lv_iload hx hb dX1_weigh_119 (lv_at hl 0 rfl) ?_
        refine bz_le E (a := z117_0.toInt) rfl (tgt := 195) dX1_weigh_121 (by decide) (fun c17 => ?_) (fun c17 => ?_)
        ·
          exact B_195 _ _ v_117 I y91_4 (by omega) rB117_Z ls (lv_sub hl [1, 2, 3, 4, 5, 6] rfl)
        ·
          refine lv_aload_n hx hb dX1_weigh_124 rfl (lv_at hl 4 rfl) ?_
          refine lv_aload_n hx hb dX1_weigh_125 rfl (lv_at hl 3 rfl) ?_
          refine cVv E I (c_X2_become l w g v_117 (k0 + 10 + (1 + (1 : Int32).toNatClampNeg)) (k0 + 10 + (1 + (0 : Int32).toNatClampNeg)) E.2.2.1 I.2.2 (h_k0.2.2.2 (1 : Int32).toNatClampNeg (by decide)) (h_k0.2.2.2 (0 : Int32).toNatClampNeg (by decide))  ) (cwV 1 E.1.2.2.2.2 (gWs (C := "StarWalk$Place") mw_4_50 mw_3_61 mw_3_62 mw_1_4 mw_3_63) rfl rfl rfl (by decide +kernel) ⟨by decide, by decide⟩) (h_k0.2.2.2 (1 : Int32).toNatClampNeg (by decide)).1 ((ce_o (h_k0.2.2.2 (1 : Int32).toNatClampNeg (by decide)).2).trans rfl) rfl rfl hl.1 rfl (Nat.le_of_ble_eq_true rfl) dX1_weigh_126 ⟨Nat.le_refl _, Nat.le_refl _⟩ (fun u18 H lo hp hPS => ?_)
          obtain ⟨hp, hex, hfr⟩ := hp
          obtain ⟨hwf, p19⟩ := hp
          have I : Wo w g s.heap u18 H lo := ⟨hPS.1, hPS.2, hwf⟩
          have rzu18 : ∀ k j : Nat, ¬ (k0 ≤ k ∧ k < k0 + 20) → u18.1 k j = v.1 k j := fun k j h => (hfr k j (fun z => h (by have cl0 : (0 : Int32).toNatClampNeg = 0 := rfl; have cl1 : (1 : Int32).toNatClampNeg = 1 := rfl; omega))).trans (rB117_Z k j h)
          refine lv_aload_n hx hb dX1_weigh_129 rfl (lv_at hl 1 rfl) ?_
          refine g_Odds_night E I h_k0.1 mw_2_31 dX1_weigh_130 ?_
          refine lv_aload_n hx hb dX1_weigh_133 rfl (lv_at hl 1 rfl) ?_
          refine g_Odds_night E I h_k0.1 mw_2_31 dX1_weigh_134 ?_
          refine g_Night_clouds E I h_k0.2.1.1 mw_1_106 dX1_weigh_137 ?_
          refine lv_topi (fun x20 ex20 => ?_)
          refine lv_aload_n hx hb dX1_weigh_140 rfl (lv_at hl 3 rfl) ?_
          refine g_Place_hour E I (h_k0.2.2.2 (0 : Int32).toNatClampNeg (by decide)) mw_1_46 dX1_weigh_141 ?_
          refine lv_topi (fun x21 ex21 => ?_)
          refine lv_iload hx hb dX1_weigh_144 (lv_at hl 6 rfl) ?_
          refine lv_iconst (v := 1) hx hb dX1_weigh_146 (by decide) ?_
          refine bi_ne E (a := y91_6.toInt) (b := 1) rfl rfl (tgt := 154) dX1_weigh_147 (by decide) (fun c22 => ?_) (fun c22 => ?_)
          ·
            refine lv_iconst (v := 0) hx hb dX1_weigh_154 (by decide) ?_
            exact B_155 _ _ u18 I z117_0 x20 x21 (0 : Int32) (by omega) (by decide) (by omega) rzu18 ls (lv_sub hl [1, 2, 3, 4, 5, 6, 0] rfl)
          ·
            refine lv_iconst (v := 1) hx hb dX1_weigh_150 (by decide) ?_
            refine lv_goto (tgt := 155) hx hb dX1_weigh_151 (by decide) ?_
            exact B_155 _ _ u18 I z117_0 x20 x21 (1 : Int32) (by omega) (by decide) (by omega) rzu18 ls (lv_sub hl [1, 2, 3, 4, 5, 6, 0] rfl)
      refine lv_iload hx hb dX1_weigh_91 (lv_at hl 5 rfl) ?_
      refine lv_iconst (v := 1) hx hb dX1_weigh_93 (by decide) ?_
      refine bi_gt E (a := y91_6.toInt) (b := 1) rfl rfl (tgt := 201) dX1_weigh_94 (by decide) (fun c23 => ?_) (fun c23 => ?_)
      ·
        refine lv_lload hx hb dX1_weigh_201 (lv_at hl 4 rfl) ?_
        exact rL E I hr hlk (by rw [← hpost]; exact ⟨⟨I.2.2, trivial⟩, trivial, rB91_Z⟩) dX1_weigh_203
      ·
        refine lv_iload hx hb dX1_weigh_97 (lv_at hl 5 rfl) ?_
        refine lv_iconst (v := 1) hx hb dX1_weigh_99 (by decide) ?_
        refine bi_ne E (a := y91_6.toInt) (b := 1) rfl rfl (tgt := 110) dX1_weigh_100 (by decide) (fun c24 => ?_) (fun c24 => ?_)
        ·
          refine lv_bipush (v := 10) hx hb dX1_weigh_110 (by decide) ?_
          refine lv_aload_n hx hb dX1_weigh_112 rfl (lv_at hl 0 rfl) ?_
          refine g_Odds_tenths E I h_k0.1 mw_2_33 dX1_weigh_113 ?_
          refine lv_topi (fun x25 ex25 => ?_)
          refine lv_isub hx hb dX1_weigh_116 ?_
          refine lv_topi (fun x26 ex26 => ?_)
          exact B_117 _ _ v_91 I x26 (by omega) rB91_Z ls (lv_sub hl [0, 1, 2, 3, 4, 5] rfl)
        ·
          refine lv_aload_n hx hb dX1_weigh_103 rfl (lv_at hl 0 rfl) ?_
          refine g_Odds_tenths E I h_k0.1 mw_2_33 dX1_weigh_104 ?_
          refine lv_topi (fun x27 ex27 => ?_)
          refine lv_goto (tgt := 117) hx hb dX1_weigh_107 (by decide) ?_
          exact B_117 _ _ v_91 I x27 (by omega) rB91_Z ls (lv_sub hl [0, 1, 2, 3, 4, 5] rfl)
  have B_24 : ∀ (H : Heap) (lo : List Loc), Wo w g s.heap v H lo → (∀ k j : Nat, ¬ (k0 ≤ k ∧ k < k0 + 20) → v.1 k j = v.1 k j) → ∀ (ls : Array Slot), lv_has ls 8 [(0, .ref (wq w k0)), (2, .ref (wq w (k0 + 10 + (1 + (0 : Int32).toNatClampNeg))))] → W pg l en (rmL 13) s m ar bl me cd H lo 0 0 (Zl w bl ar s post) (F0 m 24 ls []) := by
    intro H lo  I  rB24_Z ls hl
    refine lv_aload_n hx hb dX1_weigh_24 rfl (lv_at hl 0 rfl) ?_
    refine g_Odds_ofMiles E I h_k0.1 mw_2_34 dX1_weigh_25 ?_
    refine lv_topi (fun x28 ex28 => ?_)
    refine bz_eq E (a := x28.toInt) rfl (tgt := 39) dX1_weigh_28 (by decide) (fun c29 => ?_) (fun c29 => ?_)
    ·
      refine lv_aload_n hx hb dX1_weigh_39 rfl (lv_at hl 0 rfl) ?_
      refine g_Odds_night E I h_k0.1 mw_2_31 dX1_weigh_40 ?_
      refine lv_aload_n hx hb dX1_weigh_43 rfl (lv_at hl 1 rfl) ?_
      refine cVi E I (c_X0_isAtWell l w g v (k0 + 1) (k0 + 10 + (1 + (0 : Int32).toNatClampNeg)) E.2.2.1 I.2.2 h_k0.2.1 (h_k0.2.2.2 (0 : Int32).toNatClampNeg (by decide))  ) (cwV 1 E.1.2.2.2.2 (gWs (C := "StarWalk$Night") mw_4_56 mw_3_76 mw_3_77 mw_1_3 mw_3_78) rfl rfl rfl (by decide +kernel) ⟨by decide, by decide⟩) h_k0.2.1.1.1 ((ce_o h_k0.2.1.1.2).trans rfl) rfl rfl hl.1 rfl (Nat.le_of_ble_eq_true rfl) dX1_weigh_44 ⟨Nat.le_refl _, Nat.le_refl _⟩ (fun r30 u31 H lo hp hPS => ?_)
      obtain ⟨hp, hex, hfr⟩ := hp
      obtain ⟨hu, p32⟩ := hp
      rw [hu] at hPS
      have I : Wo w g s.heap v H lo := ⟨hPS.1, hPS.2, I.2.2⟩
      refine cNi E I (c_X7_oneIf l w g v r30 E.2.2.1 I.2.2   ) ⟨va_cnB 1 E.1.2.2.2.2 (gYs mw_3_88) rfl rfl rfl (E.2.2.2.1.2.2.2.2.2.2.2.2.1) (Ew E mw_1_1 rfl) (by decide +kernel) ⟨by decide, by decide⟩, Ew E mw_3_87 rfl, trivial⟩ rfl hl.1 rfl (Nat.le_of_ble_eq_true rfl) dX1_weigh_47 ⟨Nat.le_refl _, Nat.le_refl _⟩ (fun r33 u34 H lo hp hPS => ?_)
      obtain ⟨hp, hex, hfr⟩ := hp
      obtain ⟨hu, p35⟩ := hp
      rw [hu] at hPS
      have I : Wo w g s.heap v H lo := ⟨hPS.1, hPS.2, I.2.2⟩
      refine lv_i2l (v := r33.toInt64) hx hb dX1_weigh_50 rfl ?_
      exact rL E I hr hlk (by rw [← hpost]; exact ⟨⟨I.2.2, trivial⟩, trivial, rB24_Z⟩) dX1_weigh_51
    ·
      refine lv_aload_n hx hb dX1_weigh_31 rfl (lv_at hl 1 rfl) ?_
      refine g_Place_miles E I (h_k0.2.2.2 (0 : Int32).toNatClampNeg (by decide)) mw_1_50 dX1_weigh_32 ?_
      refine lv_topi (fun x37 ex37 => ?_)
      refine lv_i2l (v := x37.toInt64) hx hb dX1_weigh_35 rfl ?_
      refine lv_goto (tgt := 51) hx hb dX1_weigh_36 (by decide) ?_
      exact rL E I hr hlk (by rw [← hpost]; exact ⟨⟨I.2.2, trivial⟩, trivial, rB24_Z⟩) dX1_weigh_51
  refine lv_aload_n hx hb dX1_weigh_0 rfl (lv_at hl 0 rfl) ?_
  refine g_Odds_places E I h_k0.1 mw_2_32 dX1_weigh_1 ?_
  refine lv_iload_n hx hb dX1_weigh_4 rfl (lv_at hl 1 rfl) ?_
  refine ga_22 E I h_k0.2.2.1 (by decide) dX1_weigh_5 ?_
  refine lv_astore_n (lv' := [(2, .ref (wq w (k0 + 10 + (1 + (0 : Int32).toNatClampNeg)))), (0, .ref (wq w k0)), (1, .int 0)]) hx hb dX1_weigh_6 rfl hl (by decide) rfl (fun ls hl => ?_)
  refine lv_iload_n hx hb dX1_weigh_7 rfl (lv_at hl 2 rfl) ?_
  refine lv_bipush (v := 8) hx hb dX1_weigh_8 (by decide) ?_
  refine bi_ge E (a := 0) (b := 8) rfl rfl (tgt := 24) dX1_weigh_10 (by decide) (fun c39 => ?_) (fun c39 => ?_)
  ·
    exfalso; omega
  ·
    refine lv_aload_n hx hb dX1_weigh_13 rfl (lv_at hl 1 rfl) ?_
    refine g_Odds_night E I h_k0.1 mw_2_31 dX1_weigh_14 ?_
    refine lv_iload_n hx hb dX1_weigh_17 rfl (lv_at hl 2 rfl) ?_
    refine cVi E I (c_X0_hasPlanned l w g v (k0 + 1) (0 : Int32) E.2.2.1 I.2.2 h_k0.2.1  ) (cwV 1 E.1.2.2.2.2 (gWs (C := "StarWalk$Night") mw_4_55 mw_3_45 mw_3_46 mw_1_3 mw_3_47) rfl rfl rfl (by decide +kernel) ⟨by decide, by decide⟩) h_k0.2.1.1.1 ((ce_o h_k0.2.1.1.2).trans rfl) rfl rfl hl.1 rfl (Nat.le_of_ble_eq_true rfl) dX1_weigh_18 ⟨Nat.le_refl _, Nat.le_refl _⟩ (fun r40 u41 H lo hp hPS => ?_)
    have iz42 : (0 : Int32).toInt = 0 := rfl
    obtain ⟨hp, hex, hfr⟩ := hp
    obtain ⟨hu, p43⟩ := hp
    rw [hu] at hPS
    have I : Wo w g s.heap v H lo := ⟨hPS.1, hPS.2, I.2.2⟩
    refine bz_ne E (a := r40.toInt) rfl (tgt := 52) dX1_weigh_21 (by decide) (fun c44 => ?_) (fun c44 => ?_)
    ·
      refine lv_aload_n hx hb dX1_weigh_52 rfl (lv_at hl 1 rfl) ?_
      refine g_Odds_places E I h_k0.1 mw_2_32 dX1_weigh_53 ?_
      refine lv_iload_n hx hb dX1_weigh_56 rfl (lv_at hl 2 rfl) ?_
      refine lv_iconst (v := 1) hx hb dX1_weigh_57 (by decide) ?_
      refine lv_iadd hx hb dX1_weigh_58 ?_
      refine lv_topi (fun x45 ex45 => ?_)
      obtain rfl : x45 = 1 := ex45.trans (by decide)
      refine ga_22 E I h_k0.2.2.1 (by decide) dX1_weigh_59 ?_
      refine lv_astore_n (lv' := [(3, .ref (wq w (k0 + 10 + (1 + (1 : Int32).toNatClampNeg)))), (2, .ref (wq w (k0 + 10 + (1 + (0 : Int32).toNatClampNeg)))), (0, .ref (wq w k0)), (1, .int 0)]) hx hb dX1_weigh_60 rfl hl (by decide) rfl (fun ls hl => ?_)
      refine lv_aload_n hx hb dX1_weigh_61 rfl (lv_at hl 1 rfl) ?_
      refine cVi E I (c_X2_canStep l w g v (k0 + 10 + (1 + (0 : Int32).toNatClampNeg)) E.2.2.1 I.2.2 (h_k0.2.2.2 (0 : Int32).toNatClampNeg (by decide))  ) (cwV 0 E.1.2.2.2.2 (gWs (C := "StarWalk$Place") mw_4_58 mw_3_182 mw_3_183 mw_1_4 mw_3_184) rfl rfl rfl (by decide +kernel) ⟨by decide, by decide⟩) (h_k0.2.2.2 (0 : Int32).toNatClampNeg (by decide)).1 ((ce_o (h_k0.2.2.2 (0 : Int32).toNatClampNeg (by decide)).2).trans rfl) rfl rfl hl.1 rfl (Nat.le_of_ble_eq_true rfl) dX1_weigh_62 ⟨Nat.le_refl _, Nat.le_refl _⟩ (fun r46 u47 H lo hp hPS => ?_)
      obtain ⟨hp, hex, hfr⟩ := hp
      obtain ⟨hu, p48⟩ := hp
      rw [hu] at hPS
      have I : Wo w g s.heap v H lo := ⟨hPS.1, hPS.2, I.2.2⟩
      refine bz_ne E (a := r46.toInt) rfl (tgt := 85) dX1_weigh_65 (by decide) (fun c49 => ?_) (fun c49 => ?_)
      ·
        refine lv_lconst (v := 0) hx hb dX1_weigh_85 (by decide) ?_
        refine lv_lstore (lv' := [(4, .long (0 : Int64)), (3, .ref (wq w (k0 + 10 + (1 + (1 : Int32).toNatClampNeg)))), (2, .ref (wq w (k0 + 10 + (1 + (0 : Int32).toNatClampNeg)))), (0, .ref (wq w k0)), (1, .int 0)]) hx hb dX1_weigh_86 hl (by decide) rfl (fun ls hl => ?_)
        refine lv_iconst (v := 0) hx hb dX1_weigh_88 (by decide) ?_
        refine lv_istore (lv' := [(6, .int 0), (4, .long (0 : Int64)), (3, .ref (wq w (k0 + 10 + (1 + (1 : Int32).toNatClampNeg)))), (2, .ref (wq w (k0 + 10 + (1 + (0 : Int32).toNatClampNeg)))), (0, .ref (wq w k0)), (1, .int 0)]) hx hb dX1_weigh_89 hl (by decide) rfl (fun ls hl => ?_)
        exact L_91 ((2147483647 - (0 : Int32).toInt).toNat + 1) _ _ v I (0 : Int64) (0 : Int32) (by decide) rz0 (Nat.lt_succ_self _) ls (lv_sub hl [4, 5, 3, 2, 1, 0] rfl)
      ·
        refine lv_aload_n hx hb dX1_weigh_68 rfl (lv_at hl 0 rfl) ?_
        refine lv_aload_n hx hb dX1_weigh_69 rfl (lv_at hl 1 rfl) ?_
        refine cVv E I (c_X2_become l w g v (k0 + 10 + (1 + (1 : Int32).toNatClampNeg)) (k0 + 10 + (1 + (0 : Int32).toNatClampNeg)) E.2.2.1 I.2.2 (h_k0.2.2.2 (1 : Int32).toNatClampNeg (by decide)) (h_k0.2.2.2 (0 : Int32).toNatClampNeg (by decide))  ) (cwV 1 E.1.2.2.2.2 (gWs (C := "StarWalk$Place") mw_4_50 mw_3_61 mw_3_62 mw_1_4 mw_3_63) rfl rfl rfl (by decide +kernel) ⟨by decide, by decide⟩) (h_k0.2.2.2 (1 : Int32).toNatClampNeg (by decide)).1 ((ce_o (h_k0.2.2.2 (1 : Int32).toNatClampNeg (by decide)).2).trans rfl) rfl rfl hl.1 rfl (Nat.le_of_ble_eq_true rfl) dX1_weigh_70 ⟨Nat.le_refl _, Nat.le_refl _⟩ (fun u50 H lo hp hPS => ?_)
        obtain ⟨hp, hex, hfr⟩ := hp
        obtain ⟨hwf, p51⟩ := hp
        have I : Wo w g s.heap u50 H lo := ⟨hPS.1, hPS.2, hwf⟩
        have rzu50 : ∀ k j : Nat, ¬ (k0 ≤ k ∧ k < k0 + 20) → u50.1 k j = v.1 k j := fun k j h => (hfr k j (fun z => h (by have cl0 : (0 : Int32).toNatClampNeg = 0 := rfl; have cl1 : (1 : Int32).toNatClampNeg = 1 := rfl; omega))).trans (rz0 k j h)
        refine lv_ldc2 (own := "StarWalk$Odds") hx hb E.1.2.2.2.1 (Ew E mw_4_59 rfl) dX1_weigh_73 ?_
        refine lv_aload_n hx hb dX1_weigh_76 rfl (lv_at hl 2 rfl) ?_
        refine lv_iload_n hx hb dX1_weigh_77 rfl (lv_at hl 3 rfl) ?_
        refine lv_iconst (v := 1) hx hb dX1_weigh_78 (by decide) ?_
        refine lv_iadd hx hb dX1_weigh_79 ?_
        refine lv_topi (fun x52 ex52 => ?_)
        obtain rfl : x52 = 1 := ex52.trans (by decide)
        refine cVl E I (c_X1_weigh_v1 l w g u50 k0 E.2.2.1 I.2.2 h_k0  ) (cwV 1 E.1.2.2.2.2 (gWs (C := "StarWalk$Odds") mw_4_51 mw_4_53 mw_s_24 mw_1_7 mw_4_54) rfl rfl rfl (by decide +kernel) ⟨by decide, by decide⟩) h_k0.1.1 ((ce_o h_k0.1.2).trans rfl) rfl rfl hl.1 rfl (Nat.le_of_ble_eq_true rfl) dX1_weigh_80 ⟨Nat.le_refl _, Nat.le_refl _⟩ (fun r53 u54 H lo hp hPS => ?_)
        obtain ⟨hp, hex, hfr⟩ := hp
        obtain ⟨hwf, p55⟩ := hp
        have I : Wo w g s.heap u54 H lo := ⟨hPS.1, hPS.2, hwf⟩
        have rzu54 : ∀ k j : Nat, ¬ (k0 ≤ k ∧ k < k0 + 20) → u54.1 k j = v.1 k j := fun k j h => (hfr k j (fun z => h (by omega))).trans (rzu50 k j h)
        refine lv_lmul hx hb dX1_weigh_83 ?_
        refine lv_topl (fun q56 eq56 => ?_)
        exact rL E I hr hlk (by rw [← hpost]; exact ⟨⟨I.2.2, trivial⟩, trivial, rzu54⟩) dX1_weigh_84
    ·
      exact B_24 _ _ I  rz0 ls (lv_sub hl [1, 0] rfl)
set_option maxHeartbeats 4000000 in
set_option maxRecDepth 100000 in
theorem c_X1_weighAll (l : Launch) (w : Wp) (g : Nat → Nat → Int32) (v : St) (k0 : Nat) (k1 : Nat) (a0 : Int32) (a1 : Int32) (hq : Inj w) (hw : WF (wk w) g v) (h_k0 : oO w k0) (h_k1 : oN w k1) (h_a1 : 0 ≤ a1.toInt ∧ a1.toInt ≤ 1) : CTl w l yX1_weighAll (wsy yX1_weighAll prog_3_method_2_code 4 (some .long)) (rmL 14) [.ref (wq w k0), .ref (wq w k1), .int a0, .int a1] v (fun (r : Int64) (u : St) => (WF (wk w) g u ∧ True) ∧ (True) ∧ (∀ k j : Nat, ¬ (k0 ≤ k ∧ k < k0 + 20) → u.1 k j = v.1 k j)) := by
  generalize hpost : (fun (r : Int64) (u : St) => (WF (wk w) g u ∧ True) ∧ (True) ∧ (∀ k j : Nat, ¬ (k0 ≤ k ∧ k < k0 + 20) → u.1 k j = v.1 k j)) = post
  refine CTl.of prog_3_method_2_code 4 (some .long) "StarWalk$Odds" (by decide +kernel) rfl hq hw (Nat.le_of_ble_eq_true rfl) ?_
  intro pg en s m ar bl me cd ls E I hr hlk hl
  have hx := E.1.1
  have hb := E.1.2.1
  have hl : lv_has ls 4 [(0, .ref (wq w k0)), (1, .ref (wq w k1)), (2, .int a0), (3, .int a1)] := hl
  have rz0 : ∀ k j : Nat, ¬ (k0 ≤ k ∧ k < k0 + 20) → v.1 k j = v.1 k j := fun _ _ _ => rfl
  refine lv_aload_n hx hb dX1_weighAll_0 rfl (lv_at hl 0 rfl) ?_
  refine lv_iload_n hx hb dX1_weighAll_1 rfl (lv_at hl 2 rfl) ?_
  refine p_Odds_tenths E I h_k0.1 mw_2_33 dX1_weighAll_2 (fun H lo I => ?_)
  generalize ev1 : up1 v k0 2 a0 = v1 at I
  have rzv1 : ∀ k j : Nat, ¬ (k0 ≤ k ∧ k < k0 + 20) → v1.1 k j = v.1 k j := fun k j h => fz_u ev1 (by omega) (rz0 k j h)
  refine lv_aload_n hx hb dX1_weighAll_5 rfl (lv_at hl 0 rfl) ?_
  refine lv_iload_n hx hb dX1_weighAll_6 rfl (lv_at hl 3 rfl) ?_
  refine p_Odds_ofMiles E I h_k0.1 mw_2_34 (b01 (by omega)) dX1_weighAll_7 (fun H lo I => ?_)
  generalize ev2 : up1 v1 k0 3 a1 = v2 at I
  have rzv2 : ∀ k j : Nat, ¬ (k0 ≤ k ∧ k < k0 + 20) → v2.1 k j = v.1 k j := fun k j h => fz_u ev2 (by omega) (rzv1 k j h)
  refine lv_aload_n hx hb dX1_weighAll_10 rfl (lv_at hl 0 rfl) ?_
  refine g_Odds_night E I h_k0.1 mw_2_31 dX1_weighAll_11 ?_
  refine lv_aload_n hx hb dX1_weighAll_14 rfl (lv_at hl 1 rfl) ?_
  refine cVv E I (c_X0_become l w g v2 (k0 + 1) k1 E.2.2.1 I.2.2 h_k0.2.1 h_k1  ) (cwV 1 E.1.2.2.2.2 (gWs (C := "StarWalk$Night") mw_4_49 mw_3_57 mw_3_58 mw_1_3 mw_3_59) rfl rfl rfl (by decide +kernel) ⟨by decide, by decide⟩) h_k0.2.1.1.1 ((ce_o h_k0.2.1.1.2).trans rfl) rfl rfl hl.1 rfl (Nat.le_of_ble_eq_true rfl) dX1_weighAll_15 ⟨Nat.le_refl _, Nat.le_refl _⟩ (fun u3 H lo hp hPS => ?_)
  obtain ⟨hp, hex, hfr⟩ := hp
  obtain ⟨hwf, p4⟩ := hp
  have I : Wo w g s.heap u3 H lo := ⟨hPS.1, hPS.2, hwf⟩
  have rzu3 : ∀ k j : Nat, ¬ (k0 ≤ k ∧ k < k0 + 20) → u3.1 k j = v.1 k j := fun k j h => (hfr k j (fun z => h (by omega))).trans (rzv2 k j h)
  refine lv_aload_n hx hb dX1_weighAll_18 rfl (lv_at hl 0 rfl) ?_
  refine g_Odds_places E I h_k0.1 mw_2_32 dX1_weighAll_19 ?_
  refine lv_iconst (v := 0) hx hb dX1_weighAll_22 (by decide) ?_
  refine ga_22 E I h_k0.2.2.1 (by decide) dX1_weighAll_23 ?_
  refine lv_aload_n hx hb dX1_weighAll_24 rfl (lv_at hl 1 rfl) ?_
  refine g_Night_place E I h_k1.1 mw_1_111 dX1_weighAll_25 ?_
  refine cVv E I (c_X2_become l w g u3 (k0 + 10 + (1 + (0 : Int32).toNatClampNeg)) (k1 + 5) E.2.2.1 I.2.2 (h_k0.2.2.2 (0 : Int32).toNatClampNeg (by decide)) h_k1.2.2.2.2.2.1  ) (cwV 1 E.1.2.2.2.2 (gWs (C := "StarWalk$Place") mw_4_50 mw_3_61 mw_3_62 mw_1_4 mw_3_63) rfl rfl rfl (by decide +kernel) ⟨by decide, by decide⟩) (h_k0.2.2.2 (0 : Int32).toNatClampNeg (by decide)).1 ((ce_o (h_k0.2.2.2 (0 : Int32).toNatClampNeg (by decide)).2).trans rfl) rfl rfl hl.1 rfl (Nat.le_of_ble_eq_true rfl) dX1_weighAll_28 ⟨Nat.le_refl _, Nat.le_refl _⟩ (fun u5 H lo hp hPS => ?_)
  obtain ⟨hp, hex, hfr⟩ := hp
  obtain ⟨hwf, p6⟩ := hp
  have I : Wo w g s.heap u5 H lo := ⟨hPS.1, hPS.2, hwf⟩
  have rzu5 : ∀ k j : Nat, ¬ (k0 ≤ k ∧ k < k0 + 20) → u5.1 k j = v.1 k j := fun k j h => (hfr k j (fun z => h (by have cl0 : (0 : Int32).toNatClampNeg = 0 := rfl; omega))).trans (rzu3 k j h)
  refine lv_aload_n hx hb dX1_weighAll_31 rfl (lv_at hl 0 rfl) ?_
  refine lv_iconst (v := 0) hx hb dX1_weighAll_32 (by decide) ?_
  refine cVl E I (c_X1_weigh_v0 l w g u5 k0 E.2.2.1 I.2.2 h_k0  ) (cwV 1 E.1.2.2.2.2 (gWs (C := "StarWalk$Odds") mw_4_51 mw_4_53 mw_s_24 mw_1_7 mw_4_54) rfl rfl rfl (by decide +kernel) ⟨by decide, by decide⟩) h_k0.1.1 ((ce_o h_k0.1.2).trans rfl) rfl rfl hl.1 rfl (Nat.le_of_ble_eq_true rfl) dX1_weighAll_33 ⟨Nat.le_refl _, Nat.le_refl _⟩ (fun r7 u8 H lo hp hPS => ?_)
  obtain ⟨hp, hex, hfr⟩ := hp
  obtain ⟨hwf, p9⟩ := hp
  have I : Wo w g s.heap u8 H lo := ⟨hPS.1, hPS.2, hwf⟩
  have rzu8 : ∀ k j : Nat, ¬ (k0 ≤ k ∧ k < k0 + 20) → u8.1 k j = v.1 k j := fun k j h => (hfr k j (fun z => h (by omega))).trans (rzu5 k j h)
  exact rL E I hr hlk (by rw [← hpost]; exact ⟨⟨I.2.2, trivial⟩, trivial, rzu8⟩) dX1_weighAll_36
