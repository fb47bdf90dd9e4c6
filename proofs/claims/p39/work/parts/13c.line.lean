def F_X5_readLine (k0 : Nat) (v : St) : St :=
xl (F_X5_isName k0 0 v) fun r1 =>
if r1.toInt = 0 then (
xl (F_X5_isName k0 1 v) fun r5 =>
if r5.toInt = 0 then (
xl (F_X5_isName k0 2 v) fun r9 =>
if r9.toInt = 0 then (
xl (F_X5_isName k0 3 v) fun r13 =>
if r13.toInt = 0 then (
xl (F_X5_isName k0 4 v) fun r17 =>
if r17.toInt = 0 then (
xl (F_X5_isName k0 5 v) fun r21 =>
if r21.toInt = 0 then (
xl (F_X5_isName k0 6 v) fun r25 =>
if r25.toInt = 0 then (
xl (F_X5_isName k0 7 v) fun r29 =>
if r29.toInt = 0 then (
xl (F_X5_isName k0 8 v) fun r33 =>
if r33.toInt = 0 then (
xl (F_X5_isName k0 9 v) fun r37 =>
if r37.toInt = 0 then (
xl (F_X5_isName k0 10 v) fun r41 =>
if r41.toInt = 0 then (
xl (v.1 k0 4) fun x45 =>
xl (F_X5_refuse k0 (2 : Int32) x45 v) fun u46 =>
u46) else (
xl (F_X5_readPlan k0 v) fun u48 =>
u48)) else (
xl (F_X5_readCloud k0 v) fun u50 =>
u50)) else (
xl (F_X5_readWater k0 v) fun u52 =>
u52)) else (
xl (F_X5_readWind k0 v) fun u54 =>
u54)) else (
xl (F_X5_readWell k0 v) fun u56 =>
u56)) else (
xl (F_X5_readWalker k0 (3 : Int32) v) fun u58 =>
u58)) else (
xl (F_X5_readWalker k0 (2 : Int32) v) fun u60 =>
u60)) else (
xl (F_X5_readWalker k0 (1 : Int32) v) fun u62 =>
u62)) else (
xl (F_X5_readWalker k0 (0 : Int32) v) fun u64 =>
u64)) else (
xl (F_X5_readKnown k0 v) fun u66 =>
u66)) else (
xl (F_X5_readStar k0 v) fun u68 =>
u68)
set_option maxHeartbeats 4000000 in
set_option maxRecDepth 100000 in
theorem c_X5_readLine (l : Launch) (w : Wp) (g : Nat → Nat → Int32) (v : St) (k0 : Nat) (hq : Inj w) (hw : WF (wk w) g v) (h_k0 : oT w k0) : CTv w l yX5_readLine (wsy yX5_readLine prog_7_method_6_code 1 none) (rmL 6) [.ref (wq w k0)] v (fun (u : St) => (WF (wk w) g u ∧ True) ∧ (u = F_X5_readLine k0 v) ∧ (∀ k j : Nat, ¬ ((k = k0 ∧ ¬ j = 1) ∨ (k0 + 2 ≤ k ∧ k < k0 + 11)) → u.1 k j = v.1 k j)) := by
  generalize hpost : (fun (u : St) => (WF (wk w) g u ∧ True) ∧ (u = F_X5_readLine k0 v) ∧ (∀ k j : Nat, ¬ ((k = k0 ∧ ¬ j = 1) ∨ (k0 + 2 ≤ k ∧ k < k0 + 11)) → u.1 k j = v.1 k j)) = post
  refine CTv.of prog_7_method_6_code 1 none "StarWalk$Tape" (by decide +kernel) rfl hq hw (Nat.le_of_ble_eq_true rfl) ?_
  intro pg en s m ar bl me cd ls E I hr hlk hl
  have hx := E.1.1
  have hb := E.1.2.1
  have hl : lv_has ls 1 [(0, .ref (wq w k0))] := hl
  obtain ⟨res, hres⟩ : ∃ z, z = F_X5_readLine k0 v := ⟨_, rfl⟩
  have hF := hres.symm
  unfold F_X5_readLine at hF
  replace hres : res = F_X5_readLine k0 v := hres
  have rz0 : ∀ k j : Nat, ¬ ((k = k0 ∧ ¬ j = 1) ∨ (k0 + 2 ≤ k ∧ k < k0 + 11)) → v.1 k j = v.1 k j := fun _ _ _ => rfl
  refine lv_aload_n hx hb dX5_readLine_0 rfl (lv_at hl 0 rfl) ?_
  refine va_ldcS hx hb E.1.2.2.2.1 (E.2.2.2.2.1.1) dX5_readLine_1 ?_
  refine cVi E I (c_X5_isName l w g v k0 0 E.2.2.1 I.2.2 h_k0 (by decide) ) (cwV 1 E.1.2.2.2.2 (gWs (C := "StarWalk$Tape") mw_2_143 mw_2_145 mw_s_4 mw_1_2 mw_2_146) rfl rfl rfl (by decide +kernel) ⟨by decide, by decide⟩) h_k0.1.1 ((ce_o h_k0.1.2).trans rfl) rfl rfl hl.1 rfl (Nat.le_of_ble_eq_true rfl) dX5_readLine_3 ⟨Nat.le_refl _, Nat.le_refl _⟩ (fun r1 u2 H lo hp hPS => ?_)
  obtain ⟨hp, hex, hfr⟩ := hp
  replace hF := xl_i hex hF
  obtain ⟨hu, p3⟩ := hp
  rw [hu] at hPS
  have I : Wo w g s.heap v H lo := ⟨hPS.1, hPS.2, I.2.2⟩
  refine bz_eq E (a := r1.toInt) rfl (tgt := 16) dX5_readLine_6 (by decide) (fun c4 => ?_) (fun c4 => ?_)
  ·
    replace hF := if_t c4 hF
    refine lv_aload_n hx hb dX5_readLine_16 rfl (lv_at hl 0 rfl) ?_
    refine va_ldcS hx hb E.1.2.2.2.1 (E.2.2.2.2.1.2.1) dX5_readLine_17 ?_
    refine cVi E I (c_X5_isName l w g v k0 1 E.2.2.1 I.2.2 h_k0 (by decide) ) (cwV 1 E.1.2.2.2.2 (gWs (C := "StarWalk$Tape") mw_2_143 mw_2_145 mw_s_4 mw_1_2 mw_2_146) rfl rfl rfl (by decide +kernel) ⟨by decide, by decide⟩) h_k0.1.1 ((ce_o h_k0.1.2).trans rfl) rfl rfl hl.1 rfl (Nat.le_of_ble_eq_true rfl) dX5_readLine_19 ⟨Nat.le_refl _, Nat.le_refl _⟩ (fun r5 u6 H lo hp hPS => ?_)
    obtain ⟨hp, hex, hfr⟩ := hp
    replace hF := xl_i hex hF
    obtain ⟨hu, p7⟩ := hp
    rw [hu] at hPS
    have I : Wo w g s.heap v H lo := ⟨hPS.1, hPS.2, I.2.2⟩
    refine bz_eq E (a := r5.toInt) rfl (tgt := 32) dX5_readLine_22 (by decide) (fun c8 => ?_) (fun c8 => ?_)
    ·
      replace hF := if_t c8 hF
      refine lv_aload_n hx hb dX5_readLine_32 rfl (lv_at hl 0 rfl) ?_
      refine va_ldcS hx hb E.1.2.2.2.1 (E.2.2.2.2.1.2.2.1) dX5_readLine_33 ?_
      refine cVi E I (c_X5_isName l w g v k0 2 E.2.2.1 I.2.2 h_k0 (by decide) ) (cwV 1 E.1.2.2.2.2 (gWs (C := "StarWalk$Tape") mw_2_143 mw_2_145 mw_s_4 mw_1_2 mw_2_146) rfl rfl rfl (by decide +kernel) ⟨by decide, by decide⟩) h_k0.1.1 ((ce_o h_k0.1.2).trans rfl) rfl rfl hl.1 rfl (Nat.le_of_ble_eq_true rfl) dX5_readLine_35 ⟨Nat.le_refl _, Nat.le_refl _⟩ (fun r9 u10 H lo hp hPS => ?_)
      obtain ⟨hp, hex, hfr⟩ := hp
      replace hF := xl_i hex hF
      obtain ⟨hu, p11⟩ := hp
      rw [hu] at hPS
      have I : Wo w g s.heap v H lo := ⟨hPS.1, hPS.2, I.2.2⟩
      refine bz_eq E (a := r9.toInt) rfl (tgt := 49) dX5_readLine_38 (by decide) (fun c12 => ?_) (fun c12 => ?_)
      ·
        replace hF := if_t c12 hF
        refine lv_aload_n hx hb dX5_readLine_49 rfl (lv_at hl 0 rfl) ?_
        refine va_ldcS hx hb E.1.2.2.2.1 (E.2.2.2.2.1.2.2.2.1) dX5_readLine_50 ?_
        refine cVi E I (c_X5_isName l w g v k0 3 E.2.2.1 I.2.2 h_k0 (by decide) ) (cwV 1 E.1.2.2.2.2 (gWs (C := "StarWalk$Tape") mw_2_143 mw_2_145 mw_s_4 mw_1_2 mw_2_146) rfl rfl rfl (by decide +kernel) ⟨by decide, by decide⟩) h_k0.1.1 ((ce_o h_k0.1.2).trans rfl) rfl rfl hl.1 rfl (Nat.le_of_ble_eq_true rfl) dX5_readLine_52 ⟨Nat.le_refl _, Nat.le_refl _⟩ (fun r13 u14 H lo hp hPS => ?_)
        obtain ⟨hp, hex, hfr⟩ := hp
        replace hF := xl_i hex hF
        obtain ⟨hu, p15⟩ := hp
        rw [hu] at hPS
        have I : Wo w g s.heap v H lo := ⟨hPS.1, hPS.2, I.2.2⟩
        refine bz_eq E (a := r13.toInt) rfl (tgt := 66) dX5_readLine_55 (by decide) (fun c16 => ?_) (fun c16 => ?_)
        ·
          replace hF := if_t c16 hF
          refine lv_aload_n hx hb dX5_readLine_66 rfl (lv_at hl 0 rfl) ?_
          refine va_ldcS hx hb E.1.2.2.2.1 (E.2.2.2.2.1.2.2.2.2.1) dX5_readLine_67 ?_
          refine cVi E I (c_X5_isName l w g v k0 4 E.2.2.1 I.2.2 h_k0 (by decide) ) (cwV 1 E.1.2.2.2.2 (gWs (C := "StarWalk$Tape") mw_2_143 mw_2_145 mw_s_4 mw_1_2 mw_2_146) rfl rfl rfl (by decide +kernel) ⟨by decide, by decide⟩) h_k0.1.1 ((ce_o h_k0.1.2).trans rfl) rfl rfl hl.1 rfl (Nat.le_of_ble_eq_true rfl) dX5_readLine_69 ⟨Nat.le_refl _, Nat.le_refl _⟩ (fun r17 u18 H lo hp hPS => ?_)
          obtain ⟨hp, hex, hfr⟩ := hp
          replace hF := xl_i hex hF
          obtain ⟨hu, p19⟩ := hp
          rw [hu] at hPS
          have I : Wo w g s.heap v H lo := ⟨hPS.1, hPS.2, I.2.2⟩
          refine bz_eq E (a := r17.toInt) rfl (tgt := 83) dX5_readLine_72 (by decide) (fun c20 => ?_) (fun c20 => ?_)
          ·
            replace hF := if_t c20 hF
            refine lv_aload_n hx hb dX5_readLine_83 rfl (lv_at hl 0 rfl) ?_
            refine va_ldcS hx hb E.1.2.2.2.1 (E.2.2.2.2.1.2.2.2.2.2.1) dX5_readLine_84 ?_
            refine cVi E I (c_X5_isName l w g v k0 5 E.2.2.1 I.2.2 h_k0 (by decide) ) (cwV 1 E.1.2.2.2.2 (gWs (C := "StarWalk$Tape") mw_2_143 mw_2_145 mw_s_4 mw_1_2 mw_2_146) rfl rfl rfl (by decide +kernel) ⟨by decide, by decide⟩) h_k0.1.1 ((ce_o h_k0.1.2).trans rfl) rfl rfl hl.1 rfl (Nat.le_of_ble_eq_true rfl) dX5_readLine_86 ⟨Nat.le_refl _, Nat.le_refl _⟩ (fun r21 u22 H lo hp hPS => ?_)
            obtain ⟨hp, hex, hfr⟩ := hp
            replace hF := xl_i hex hF
            obtain ⟨hu, p23⟩ := hp
            rw [hu] at hPS
            have I : Wo w g s.heap v H lo := ⟨hPS.1, hPS.2, I.2.2⟩
            refine bz_eq E (a := r21.toInt) rfl (tgt := 100) dX5_readLine_89 (by decide) (fun c24 => ?_) (fun c24 => ?_)
            ·
              replace hF := if_t c24 hF
              refine lv_aload_n hx hb dX5_readLine_100 rfl (lv_at hl 0 rfl) ?_
              refine va_ldcS hx hb E.1.2.2.2.1 (E.2.2.2.2.1.2.2.2.2.2.2.1) dX5_readLine_101 ?_
              refine cVi E I (c_X5_isName l w g v k0 6 E.2.2.1 I.2.2 h_k0 (by decide) ) (cwV 1 E.1.2.2.2.2 (gWs (C := "StarWalk$Tape") mw_2_143 mw_2_145 mw_s_4 mw_1_2 mw_2_146) rfl rfl rfl (by decide +kernel) ⟨by decide, by decide⟩) h_k0.1.1 ((ce_o h_k0.1.2).trans rfl) rfl rfl hl.1 rfl (Nat.le_of_ble_eq_true rfl) dX5_readLine_103 ⟨Nat.le_refl _, Nat.le_refl _⟩ (fun r25 u26 H lo hp hPS => ?_)
              obtain ⟨hp, hex, hfr⟩ := hp
              replace hF := xl_i hex hF
              obtain ⟨hu, p27⟩ := hp
              rw [hu] at hPS
              have I : Wo w g s.heap v H lo := ⟨hPS.1, hPS.2, I.2.2⟩
              refine bz_eq E (a := r25.toInt) rfl (tgt := 116) dX5_readLine_106 (by decide) (fun c28 => ?_) (fun c28 => ?_)
              ·
                replace hF := if_t c28 hF
                refine lv_aload_n hx hb dX5_readLine_116 rfl (lv_at hl 0 rfl) ?_
                refine va_ldcS hx hb E.1.2.2.2.1 (E.2.2.2.2.1.2.2.2.2.2.2.2.1) dX5_readLine_117 ?_
                refine cVi E I (c_X5_isName l w g v k0 7 E.2.2.1 I.2.2 h_k0 (by decide) ) (cwV 1 E.1.2.2.2.2 (gWs (C := "StarWalk$Tape") mw_2_143 mw_2_145 mw_s_4 mw_1_2 mw_2_146) rfl rfl rfl (by decide +kernel) ⟨by decide, by decide⟩) h_k0.1.1 ((ce_o h_k0.1.2).trans rfl) rfl rfl hl.1 rfl (Nat.le_of_ble_eq_true rfl) dX5_readLine_119 ⟨Nat.le_refl _, Nat.le_refl _⟩ (fun r29 u30 H lo hp hPS => ?_)
                obtain ⟨hp, hex, hfr⟩ := hp
                replace hF := xl_i hex hF
                obtain ⟨hu, p31⟩ := hp
                rw [hu] at hPS
                have I : Wo w g s.heap v H lo := ⟨hPS.1, hPS.2, I.2.2⟩
                refine bz_eq E (a := r29.toInt) rfl (tgt := 132) dX5_readLine_122 (by decide) (fun c32 => ?_) (fun c32 => ?_)
                ·
                  replace hF := if_t c32 hF
                  refine lv_aload_n hx hb dX5_readLine_132 rfl (lv_at hl 0 rfl) ?_
                  refine va_ldcS hx hb E.1.2.2.2.1 (E.2.2.2.2.1.2.2.2.2.2.2.2.2.1) dX5_readLine_133 ?_
                  refine cVi E I (c_X5_isName l w g v k0 8 E.2.2.1 I.2.2 h_k0 (by decide) ) (cwV 1 E.1.2.2.2.2 (gWs (C := "StarWalk$Tape") mw_2_143 mw_2_145 mw_s_4 mw_1_2 mw_2_146) rfl rfl rfl (by decide +kernel) ⟨by decide, by decide⟩) h_k0.1.1 ((ce_o h_k0.1.2).trans rfl) rfl rfl hl.1 rfl (Nat.le_of_ble_eq_true rfl) dX5_readLine_135 ⟨Nat.le_refl _, Nat.le_refl _⟩ (fun r33 u34 H lo hp hPS => ?_)
                  obtain ⟨hp, hex, hfr⟩ := hp
                  replace hF := xl_i hex hF
                  obtain ⟨hu, p35⟩ := hp
                  rw [hu] at hPS
                  have I : Wo w g s.heap v H lo := ⟨hPS.1, hPS.2, I.2.2⟩
                  refine bz_eq E (a := r33.toInt) rfl (tgt := 148) dX5_readLine_138 (by decide) (fun c36 => ?_) (fun c36 => ?_)
                  ·
                    replace hF := if_t c36 hF
                    refine lv_aload_n hx hb dX5_readLine_148 rfl (lv_at hl 0 rfl) ?_
                    refine va_ldcS hx hb E.1.2.2.2.1 (E.2.2.2.2.1.2.2.2.2.2.2.2.2.2.1) dX5_readLine_149 ?_
                    refine cVi E I (c_X5_isName l w g v k0 9 E.2.2.1 I.2.2 h_k0 (by decide) ) (cwV 1 E.1.2.2.2.2 (gWs (C := "StarWalk$Tape") mw_2_143 mw_2_145 mw_s_4 mw_1_2 mw_2_146) rfl rfl rfl (by decide +kernel) ⟨by decide, by decide⟩) h_k0.1.1 ((ce_o h_k0.1.2).trans rfl) rfl rfl hl.1 rfl (Nat.le_of_ble_eq_true rfl) dX5_readLine_151 ⟨Nat.le_refl _, Nat.le_refl _⟩ (fun r37 u38 H lo hp hPS => ?_)
                    obtain ⟨hp, hex, hfr⟩ := hp
                    replace hF := xl_i hex hF
                    obtain ⟨hu, p39⟩ := hp
                    rw [hu] at hPS
                    have I : Wo w g s.heap v H lo := ⟨hPS.1, hPS.2, I.2.2⟩
                    refine bz_eq E (a := r37.toInt) rfl (tgt := 164) dX5_readLine_154 (by decide) (fun c40 => ?_) (fun c40 => ?_)
                    ·
                      replace hF := if_t c40 hF
                      refine lv_aload_n hx hb dX5_readLine_164 rfl (lv_at hl 0 rfl) ?_
                      refine va_ldcS hx hb E.1.2.2.2.1 (E.2.2.2.2.1.2.2.2.2.2.2.2.2.2.2) dX5_readLine_165 ?_
                      refine cVi E I (c_X5_isName l w g v k0 10 E.2.2.1 I.2.2 h_k0 (by decide) ) (cwV 1 E.1.2.2.2.2 (gWs (C := "StarWalk$Tape") mw_2_143 mw_2_145 mw_s_4 mw_1_2 mw_2_146) rfl rfl rfl (by decide +kernel) ⟨by decide, by decide⟩) h_k0.1.1 ((ce_o h_k0.1.2).trans rfl) rfl rfl hl.1 rfl (Nat.le_of_ble_eq_true rfl) dX5_readLine_167 ⟨Nat.le_refl _, Nat.le_refl _⟩ (fun r41 u42 H lo hp hPS => ?_)
                      obtain ⟨hp, hex, hfr⟩ := hp
                      replace hF := xl_i hex hF
                      obtain ⟨hu, p43⟩ := hp
                      rw [hu] at hPS
                      have I : Wo w g s.heap v H lo := ⟨hPS.1, hPS.2, I.2.2⟩
                      refine bz_eq E (a := r41.toInt) rfl (tgt := 180) dX5_readLine_170 (by decide) (fun c44 => ?_) (fun c44 => ?_)
                      ·
                        replace hF := if_t c44 hF
                        refine lv_aload_n hx hb dX5_readLine_180 rfl (lv_at hl 0 rfl) ?_
                        refine lv_iconst (v := 2) hx hb dX5_readLine_181 (by decide) ?_
                        refine lv_aload_n hx hb dX5_readLine_182 rfl (lv_at hl 0 rfl) ?_
                        refine g_Tape_first E I h_k0.1 mw_1_175 dX5_readLine_183 ?_
                        refine lv_topi (fun x45 ex45 => ?_)
                        replace hF := xl_i (ex45) hF
                        refine cVv E I (c_X5_refuse l w g v k0 (2 : Int32) x45 E.2.2.1 I.2.2 h_k0  ) (cwV 2 E.1.2.2.2.2 (gWs (C := "StarWalk$Tape") mw_2_134 mw_2_136 mw_s_2 mw_1_2 mw_2_137) rfl rfl rfl (by decide +kernel) ⟨by decide, by decide⟩) h_k0.1.1 ((ce_o h_k0.1.2).trans rfl) rfl rfl hl.1 rfl (Nat.le_of_ble_eq_true rfl) dX5_readLine_186 ⟨Nat.le_refl _, Nat.le_refl _⟩ (fun u46 H lo hp hPS => ?_)
                        obtain ⟨hp, hex, hfr⟩ := hp
                        replace hF := xl_i hex hF
                        obtain ⟨hwf, p47⟩ := hp
                        have I : Wo w g s.heap u46 H lo := ⟨hPS.1, hPS.2, hwf⟩
                        have rzu46 : ∀ k j : Nat, ¬ ((k = k0 ∧ ¬ j = 1) ∨ (k0 + 2 ≤ k ∧ k < k0 + 11)) → u46.1 k j = v.1 k j := fun k j h => (hfr k j (fun z => h (by omega))).trans (rz0 k j h)
                        exact rV E I hr hlk (by rw [← hpost]; exact ⟨⟨I.2.2, trivial⟩, hF.trans hres, rzu46⟩) dX5_readLine_189
                      ·
                        replace hF := if_f c44 hF
                        refine lv_aload_n hx hb dX5_readLine_173 rfl (lv_at hl 0 rfl) ?_
                        refine cVv E I (c_X5_readPlan l w g v k0 E.2.2.1 I.2.2 h_k0  ) (cwV 0 E.1.2.2.2.2 (gWs (C := "StarWalk$Tape") mw_3_32 mw_3_34 mw_s_17 mw_1_2 mw_3_35) rfl rfl rfl (by decide +kernel) ⟨by decide, by decide⟩) h_k0.1.1 ((ce_o h_k0.1.2).trans rfl) rfl rfl hl.1 rfl (Nat.le_of_ble_eq_true rfl) dX5_readLine_174 ⟨Nat.le_refl _, Nat.le_refl _⟩ (fun u48 H lo hp hPS => ?_)
                        obtain ⟨hp, hex, hfr⟩ := hp
                        replace hF := xl_i hex hF
                        obtain ⟨hwf, p49⟩ := hp
                        have I : Wo w g s.heap u48 H lo := ⟨hPS.1, hPS.2, hwf⟩
                        have rzu48 : ∀ k j : Nat, ¬ ((k = k0 ∧ ¬ j = 1) ∨ (k0 + 2 ≤ k ∧ k < k0 + 11)) → u48.1 k j = v.1 k j := fun k j h => (hfr k j (fun z => h (by rcases z with z | z <;> omega))).trans (rz0 k j h)
                        refine lv_goto (tgt := 189) hx hb dX5_readLine_177 (by decide) ?_
                        exact rV E I hr hlk (by rw [← hpost]; exact ⟨⟨I.2.2, trivial⟩, hF.trans hres, rzu48⟩) dX5_readLine_189
                    ·
                      replace hF := if_f c40 hF
                      refine lv_aload_n hx hb dX5_readLine_157 rfl (lv_at hl 0 rfl) ?_
                      refine cVv E I (c_X5_readCloud l w g v k0 E.2.2.1 I.2.2 h_k0  ) (cwV 0 E.1.2.2.2.2 (gWs (C := "StarWalk$Tape") mw_3_23 mw_3_25 mw_s_16 mw_1_2 mw_3_26) rfl rfl rfl (by decide +kernel) ⟨by decide, by decide⟩) h_k0.1.1 ((ce_o h_k0.1.2).trans rfl) rfl rfl hl.1 rfl (Nat.le_of_ble_eq_true rfl) dX5_readLine_158 ⟨Nat.le_refl _, Nat.le_refl _⟩ (fun u50 H lo hp hPS => ?_)
                      obtain ⟨hp, hex, hfr⟩ := hp
                      replace hF := xl_i hex hF
                      obtain ⟨hwf, p51⟩ := hp
                      have I : Wo w g s.heap u50 H lo := ⟨hPS.1, hPS.2, hwf⟩
                      have rzu50 : ∀ k j : Nat, ¬ ((k = k0 ∧ ¬ j = 1) ∨ (k0 + 2 ≤ k ∧ k < k0 + 11)) → u50.1 k j = v.1 k j := fun k j h => (hfr k j (fun z => h (by rcases z with z | z <;> omega))).trans (rz0 k j h)
                      refine lv_goto (tgt := 189) hx hb dX5_readLine_161 (by decide) ?_
                      exact rV E I hr hlk (by rw [← hpost]; exact ⟨⟨I.2.2, trivial⟩, hF.trans hres, rzu50⟩) dX5_readLine_189
                  ·
                    replace hF := if_f c36 hF
                    refine lv_aload_n hx hb dX5_readLine_141 rfl (lv_at hl 0 rfl) ?_
                    refine cVv E I (c_X5_readWater l w g v k0 E.2.2.1 I.2.2 h_k0  ) (cwV 0 E.1.2.2.2.2 (gWs (C := "StarWalk$Tape") mw_3_18 mw_3_20 mw_s_15 mw_1_2 mw_3_21) rfl rfl rfl (by decide +kernel) ⟨by decide, by decide⟩) h_k0.1.1 ((ce_o h_k0.1.2).trans rfl) rfl rfl hl.1 rfl (Nat.le_of_ble_eq_true rfl) dX5_readLine_142 ⟨Nat.le_refl _, Nat.le_refl _⟩ (fun u52 H lo hp hPS => ?_)
                    obtain ⟨hp, hex, hfr⟩ := hp
                    replace hF := xl_i hex hF
                    obtain ⟨hwf, p53⟩ := hp
                    have I : Wo w g s.heap u52 H lo := ⟨hPS.1, hPS.2, hwf⟩
                    have rzu52 : ∀ k j : Nat, ¬ ((k = k0 ∧ ¬ j = 1) ∨ (k0 + 2 ≤ k ∧ k < k0 + 11)) → u52.1 k j = v.1 k j := fun k j h => (hfr k j (fun z => h (by rcases z with z | z <;> omega))).trans (rz0 k j h)
                    refine lv_goto (tgt := 189) hx hb dX5_readLine_145 (by decide) ?_
                    exact rV E I hr hlk (by rw [← hpost]; exact ⟨⟨I.2.2, trivial⟩, hF.trans hres, rzu52⟩) dX5_readLine_189
                ·
                  replace hF := if_f c32 hF
                  refine lv_aload_n hx hb dX5_readLine_125 rfl (lv_at hl 0 rfl) ?_
                  refine cVv E I (c_X5_readWind l w g v k0 E.2.2.1 I.2.2 h_k0  ) (cwV 0 E.1.2.2.2.2 (gWs (C := "StarWalk$Tape") mw_3_13 mw_3_15 mw_s_14 mw_1_2 mw_3_16) rfl rfl rfl (by decide +kernel) ⟨by decide, by decide⟩) h_k0.1.1 ((ce_o h_k0.1.2).trans rfl) rfl rfl hl.1 rfl (Nat.le_of_ble_eq_true rfl) dX5_readLine_126 ⟨Nat.le_refl _, Nat.le_refl _⟩ (fun u54 H lo hp hPS => ?_)
                  obtain ⟨hp, hex, hfr⟩ := hp
                  replace hF := xl_i hex hF
                  obtain ⟨hwf, p55⟩ := hp
                  have I : Wo w g s.heap u54 H lo := ⟨hPS.1, hPS.2, hwf⟩
                  have rzu54 : ∀ k j : Nat, ¬ ((k = k0 ∧ ¬ j = 1) ∨ (k0 + 2 ≤ k ∧ k < k0 + 11)) → u54.1 k j = v.1 k j := fun k j h => (hfr k j (fun z => h (by rcases z with z | z <;> omega))).trans (rz0 k j h)
                  refine lv_goto (tgt := 189) hx hb dX5_readLine_129 (by decide) ?_
                  exact rV E I hr hlk (by rw [← hpost]; exact ⟨⟨I.2.2, trivial⟩, hF.trans hres, rzu54⟩) dX5_readLine_189
              ·
                replace hF := if_f c28 hF
                refine lv_aload_n hx hb dX5_readLine_109 rfl (lv_at hl 0 rfl) ?_
                refine cVv E I (c_X5_readWell l w g v k0 E.2.2.1 I.2.2 h_k0  ) (cwV 0 E.1.2.2.2.2 (gWs (C := "StarWalk$Tape") mw_3_4 mw_3_6 mw_s_12 mw_1_2 mw_3_7) rfl rfl rfl (by decide +kernel) ⟨by decide, by decide⟩) h_k0.1.1 ((ce_o h_k0.1.2).trans rfl) rfl rfl hl.1 rfl (Nat.le_of_ble_eq_true rfl) dX5_readLine_110 ⟨Nat.le_refl _, Nat.le_refl _⟩ (fun u56 H lo hp hPS => ?_)
                obtain ⟨hp, hex, hfr⟩ := hp
                replace hF := xl_i hex hF
                obtain ⟨hwf, p57⟩ := hp
                have I : Wo w g s.heap u56 H lo := ⟨hPS.1, hPS.2, hwf⟩
                have rzu56 : ∀ k j : Nat, ¬ ((k = k0 ∧ ¬ j = 1) ∨ (k0 + 2 ≤ k ∧ k < k0 + 11)) → u56.1 k j = v.1 k j := fun k j h => (hfr k j (fun z => h (by rcases z with z | z <;> omega))).trans (rz0 k j h)
                refine lv_goto (tgt := 189) hx hb dX5_readLine_113 (by decide) ?_
                exact rV E I hr hlk (by rw [← hpost]; exact ⟨⟨I.2.2, trivial⟩, hF.trans hres, rzu56⟩) dX5_readLine_189
            ·
              replace hF := if_f c24 hF
              refine lv_aload_n hx hb dX5_readLine_92 rfl (lv_at hl 0 rfl) ?_
              refine lv_iconst (v := 3) hx hb dX5_readLine_93 (by decide) ?_
              refine cVv E I (c_X5_readWalker l w g v k0 (3 : Int32) E.2.2.1 I.2.2 h_k0  ) (cwV 1 E.1.2.2.2.2 (gWs (C := "StarWalk$Tape") mw_2_232 mw_2_234 mw_s_11 mw_1_2 mw_2_235) rfl rfl rfl (by decide +kernel) ⟨by decide, by decide⟩) h_k0.1.1 ((ce_o h_k0.1.2).trans rfl) rfl rfl hl.1 rfl (Nat.le_of_ble_eq_true rfl) dX5_readLine_94 ⟨Nat.le_refl _, Nat.le_refl _⟩ (fun u58 H lo hp hPS => ?_)
              obtain ⟨hp, hex, hfr⟩ := hp
              replace hF := xl_i hex hF
              obtain ⟨hwf, p59⟩ := hp
              have I : Wo w g s.heap u58 H lo := ⟨hPS.1, hPS.2, hwf⟩
              have rzu58 : ∀ k j : Nat, ¬ ((k = k0 ∧ ¬ j = 1) ∨ (k0 + 2 ≤ k ∧ k < k0 + 11)) → u58.1 k j = v.1 k j := fun k j h => (hfr k j (fun z => h (by rcases z with z | z <;> omega))).trans (rz0 k j h)
              refine lv_goto (tgt := 189) hx hb dX5_readLine_97 (by decide) ?_
              exact rV E I hr hlk (by rw [← hpost]; exact ⟨⟨I.2.2, trivial⟩, hF.trans hres, rzu58⟩) dX5_readLine_189
          ·
            replace hF := if_f c20 hF
            refine lv_aload_n hx hb dX5_readLine_75 rfl (lv_at hl 0 rfl) ?_
            refine lv_iconst (v := 2) hx hb dX5_readLine_76 (by decide) ?_
            refine cVv E I (c_X5_readWalker l w g v k0 (2 : Int32) E.2.2.1 I.2.2 h_k0  ) (cwV 1 E.1.2.2.2.2 (gWs (C := "StarWalk$Tape") mw_2_232 mw_2_234 mw_s_11 mw_1_2 mw_2_235) rfl rfl rfl (by decide +kernel) ⟨by decide, by decide⟩) h_k0.1.1 ((ce_o h_k0.1.2).trans rfl) rfl rfl hl.1 rfl (Nat.le_of_ble_eq_true rfl) dX5_readLine_77 ⟨Nat.le_refl _, Nat.le_refl _⟩ (fun u60 H lo hp hPS => ?_)
            obtain ⟨hp, hex, hfr⟩ := hp
            replace hF := xl_i hex hF
            obtain ⟨hwf, p61⟩ := hp
            have I : Wo w g s.heap u60 H lo := ⟨hPS.1, hPS.2, hwf⟩
            have rzu60 : ∀ k j : Nat, ¬ ((k = k0 ∧ ¬ j = 1) ∨ (k0 + 2 ≤ k ∧ k < k0 + 11)) → u60.1 k j = v.1 k j := fun k j h => (hfr k j (fun z => h (by rcases z with z | z <;> omega))).trans (rz0 k j h)
            refine lv_goto (tgt := 189) hx hb dX5_readLine_80 (by decide) ?_
            exact rV E I hr hlk (by rw [← hpost]; exact ⟨⟨I.2.2, trivial⟩, hF.trans hres, rzu60⟩) dX5_readLine_189
        ·
          replace hF := if_f c16 hF
          refine lv_aload_n hx hb dX5_readLine_58 rfl (lv_at hl 0 rfl) ?_
          refine lv_iconst (v := 1) hx hb dX5_readLine_59 (by decide) ?_
          refine cVv E I (c_X5_readWalker l w g v k0 (1 : Int32) E.2.2.1 I.2.2 h_k0  ) (cwV 1 E.1.2.2.2.2 (gWs (C := "StarWalk$Tape") mw_2_232 mw_2_234 mw_s_11 mw_1_2 mw_2_235) rfl rfl rfl (by decide +kernel) ⟨by decide, by decide⟩) h_k0.1.1 ((ce_o h_k0.1.2).trans rfl) rfl rfl hl.1 rfl (Nat.le_of_ble_eq_true rfl) dX5_readLine_60 ⟨Nat.le_refl _, Nat.le_refl _⟩ (fun u62 H lo hp hPS => ?_)
          obtain ⟨hp, hex, hfr⟩ := hp
          replace hF := xl_i hex hF
          obtain ⟨hwf, p63⟩ := hp
          have I : Wo w g s.heap u62 H lo := ⟨hPS.1, hPS.2, hwf⟩
          have rzu62 : ∀ k j : Nat, ¬ ((k = k0 ∧ ¬ j = 1) ∨ (k0 + 2 ≤ k ∧ k < k0 + 11)) → u62.1 k j = v.1 k j := fun k j h => (hfr k j (fun z => h (by rcases z with z | z <;> omega))).trans (rz0 k j h)
          refine lv_goto (tgt := 189) hx hb dX5_readLine_63 (by decide) ?_
          exact rV E I hr hlk (by rw [← hpost]; exact ⟨⟨I.2.2, trivial⟩, hF.trans hres, rzu62⟩) dX5_readLine_189
      ·
        replace hF := if_f c12 hF
        refine lv_aload_n hx hb dX5_readLine_41 rfl (lv_at hl 0 rfl) ?_
        refine lv_iconst (v := 0) hx hb dX5_readLine_42 (by decide) ?_
        refine cVv E I (c_X5_readWalker l w g v k0 (0 : Int32) E.2.2.1 I.2.2 h_k0  ) (cwV 1 E.1.2.2.2.2 (gWs (C := "StarWalk$Tape") mw_2_232 mw_2_234 mw_s_11 mw_1_2 mw_2_235) rfl rfl rfl (by decide +kernel) ⟨by decide, by decide⟩) h_k0.1.1 ((ce_o h_k0.1.2).trans rfl) rfl rfl hl.1 rfl (Nat.le_of_ble_eq_true rfl) dX5_readLine_43 ⟨Nat.le_refl _, Nat.le_refl _⟩ (fun u64 H lo hp hPS => ?_)
        obtain ⟨hp, hex, hfr⟩ := hp
        replace hF := xl_i hex hF
        obtain ⟨hwf, p65⟩ := hp
        have I : Wo w g s.heap u64 H lo := ⟨hPS.1, hPS.2, hwf⟩
        have rzu64 : ∀ k j : Nat, ¬ ((k = k0 ∧ ¬ j = 1) ∨ (k0 + 2 ≤ k ∧ k < k0 + 11)) → u64.1 k j = v.1 k j := fun k j h => (hfr k j (fun z => h (by rcases z with z | z <;> omega))).trans (rz0 k j h)
        refine lv_goto (tgt := 189) hx hb dX5_readLine_46 (by decide) ?_
        exact rV E I hr hlk (by rw [← hpost]; exact ⟨⟨I.2.2, trivial⟩, hF.trans hres, rzu64⟩) dX5_readLine_189
    ·
      replace hF := if_f c8 hF
      refine lv_aload_n hx hb dX5_readLine_25 rfl (lv_at hl 0 rfl) ?_
      refine cVv E I (c_X5_readKnown l w g v k0 E.2.2.1 I.2.2 h_k0  ) (cwV 0 E.1.2.2.2.2 (gWs (C := "StarWalk$Tape") mw_2_220 mw_2_222 mw_s_10 mw_1_2 mw_2_223) rfl rfl rfl (by decide +kernel) ⟨by decide, by decide⟩) h_k0.1.1 ((ce_o h_k0.1.2).trans rfl) rfl rfl hl.1 rfl (Nat.le_of_ble_eq_true rfl) dX5_readLine_26 ⟨Nat.le_refl _, Nat.le_refl _⟩ (fun u66 H lo hp hPS => ?_)
      obtain ⟨hp, hex, hfr⟩ := hp
      replace hF := xl_i hex hF
      obtain ⟨hwf, p67⟩ := hp
      have I : Wo w g s.heap u66 H lo := ⟨hPS.1, hPS.2, hwf⟩
      have rzu66 : ∀ k j : Nat, ¬ ((k = k0 ∧ ¬ j = 1) ∨ (k0 + 2 ≤ k ∧ k < k0 + 11)) → u66.1 k j = v.1 k j := fun k j h => (hfr k j (fun z => h (by rcases z with z | z <;> omega))).trans (rz0 k j h)
      refine lv_goto (tgt := 189) hx hb dX5_readLine_29 (by decide) ?_
      exact rV E I hr hlk (by rw [← hpost]; exact ⟨⟨I.2.2, trivial⟩, hF.trans hres, rzu66⟩) dX5_readLine_189
  ·
    replace hF := if_f c4 hF
    refine lv_aload_n hx hb dX5_readLine_9 rfl (lv_at hl 0 rfl) ?_
    refine cVv E I (c_X5_readStar l w g v k0 E.2.2.1 I.2.2 h_k0  ) (cwV 0 E.1.2.2.2.2 (gWs (C := "StarWalk$Tape") mw_2_195 mw_2_197 mw_s_5 mw_1_2 mw_2_198) rfl rfl rfl (by decide +kernel) ⟨by decide, by decide⟩) h_k0.1.1 ((ce_o h_k0.1.2).trans rfl) rfl rfl hl.1 rfl (Nat.le_of_ble_eq_true rfl) dX5_readLine_10 ⟨Nat.le_refl _, Nat.le_refl _⟩ (fun u68 H lo hp hPS => ?_)
    obtain ⟨hp, hex, hfr⟩ := hp
    replace hF := xl_i hex hF
    obtain ⟨hwf, p69⟩ := hp
    have I : Wo w g s.heap u68 H lo := ⟨hPS.1, hPS.2, hwf⟩
    have rzu68 : ∀ k j : Nat, ¬ ((k = k0 ∧ ¬ j = 1) ∨ (k0 + 2 ≤ k ∧ k < k0 + 11)) → u68.1 k j = v.1 k j := fun k j h => (hfr k j (fun z => h (by rcases z with z | z <;> omega))).trans (rz0 k j h)
    refine lv_goto (tgt := 189) hx hb dX5_readLine_13 (by decide) ?_
    exact rV E I hr hlk (by rw [← hpost]; exact ⟨⟨I.2.2, trivial⟩, hF.trans hres, rzu68⟩) dX5_readLine_189
def F_X5_readLines (k0 : Nat) (v : St) : Int32 × St :=
xl (fun (y68_1 : Int32) (v_68 : St) =>
xl (v_68.1 k0 8) fun x1 =>
if x1.toInt = 0 then (
xl (F_X5_namesNoStar k0 v_68) fun r3 =>
if r3.toInt = 0 then (
(y68_1, v_68)) else (
xl (v_68.1 k0 1) fun x7 =>
xl (F_X5_refuse k0 (6 : Int32) x7 v_68) fun u8 =>
(y68_1, u8))) else (
(y68_1, v_68))) fun J_68 =>
xl (fun (self_33 : Int32 → St → Int32 × St) (y33_1 : Int32) (v_33 : St) =>
xl (v_33.1 k0 8) fun x10 =>
if x10.toInt = 0 then (
xl (v_33.1 k0 3) fun x12 =>
if x12.toInt = 0 then (
(J_68 y33_1 v_33)) else (
if 160 < y33_1.toInt then (
(J_68 y33_1 v_33)) else (
xl (F_X5_readLine k0 v_33) fun u15 =>
xl (y33_1 + 1) fun x17 =>
xl (F_X5_takeToken k0 u15) fun u18 =>
(self_33 x17 u18)))) else (
(J_68 y33_1 v_33))) fun P_33 =>
xl (F_X0_clear (k0 + 2) v) fun u20 =>
xl (up1 u20 k0 8 (0 : Int32)) fun v22 =>
xl (up1 v22 k0 9 (0 : Int32)) fun v23 =>
xl (up1 v23 k0 7 (0 : Int32)) fun v24 =>
xl (up1 v24 k0 5 (0 : Int32)) fun v25 =>
xl (F_X5_takeToken k0 v25) fun u26 =>
(lp P_33 (fun _ _ => ((0 : Int32), v)) ((2147483647 - (0 : Int32).toInt).toNat + 1) (0 : Int32) u26)
set_option maxHeartbeats 4000000 in
set_option maxRecDepth 100000 in
theorem c_X5_readLines (l : Launch) (w : Wp) (g : Nat → Nat → Int32) (v : St) (k0 : Nat) (hq : Inj w) (hw : WF (wk w) g v) (h_k0 : oT w k0) : CTi w l yX5_readLines (wsy yX5_readLines prog_7_method_3_code 2 (some .int)) (rmL 7) [.ref (wq w k0)] v (fun (r : Int32) (u : St) => (WF (wk w) g u ∧ True) ∧ ((r, u) = F_X5_readLines k0 v) ∧ (∀ k j : Nat, ¬ ((k = k0 ∧ ¬ j = 1) ∨ (k0 + 2 ≤ k ∧ k < k0 + 11)) → u.1 k j = v.1 k j)) := by
  generalize hpost : (fun (r : Int32) (u : St) => (WF (wk w) g u ∧ True) ∧ ((r, u) = F_X5_readLines k0 v) ∧ (∀ k j : Nat, ¬ ((k = k0 ∧ ¬ j = 1) ∨ (k0 + 2 ≤ k ∧ k < k0 + 11)) → u.1 k j = v.1 k j)) = post
  refine CTi.of prog_7_method_3_code 2 (some .int) "StarWalk$Tape" (by decide +kernel) rfl hq hw (Nat.le_of_ble_eq_true rfl) ?_
  intro pg en s m ar bl me cd ls E I hr hlk hl
  have hx := E.1.1
  have hb := E.1.2.1
  have hl : lv_has ls 2 [(0, .ref (wq w k0))] := hl
  obtain ⟨res, hres⟩ : ∃ z, z = F_X5_readLines k0 v := ⟨_, rfl⟩
  have hF := hres.symm
  unfold F_X5_readLines at hF
  replace hres : res = F_X5_readLines k0 v := hres
  have rz0 : ∀ k j : Nat, ¬ ((k = k0 ∧ ¬ j = 1) ∨ (k0 + 2 ≤ k ∧ k < k0 + 11)) → v.1 k j = v.1 k j := fun _ _ _ => rfl
  obtain ⟨J_68, eJ_68, hF⟩ := xl_e hF
  have B_68 : ∀ (H : Heap) (lo : List Loc) (v_68 : St), Wo w g s.heap v_68 H lo → ∀ (y68_1 : Int32), (0 ≤ y68_1.toInt ∧ y68_1.toInt ≤ 161) → (∀ k j : Nat, ¬ ((k = k0 ∧ ¬ j = 1) ∨ (k0 + 2 ≤ k ∧ k < k0 + 11)) → v_68.1 k j = v.1 k j) → (J_68 y68_1 v_68 = res) → ∀ (ls : Array Slot), lv_has ls 2 [(0, .ref (wq w k0)), (1, .int y68_1)] → W pg l en (rmL 7) s m ar bl me cd H lo 0 0 (Zi w bl ar s post) (F0 m 68 ls []) := by
    intro H lo v_68 I y68_1 hy68_1 rB68_Z hF ls hl
    replace hF := ap2 eJ_68 hF
    refine lv_aload_n hx hb dX5_readLines_68 rfl (lv_at hl 0 rfl) ?_
    refine g_Tape_found E I h_k0.1 mw_1_179 dX5_readLines_69 ?_
    refine lv_topi (fun x1 ex1 => ?_)
    replace hF := xl_i (ex1) hF
    refine bz_ne E (a := x1.toInt) rfl (tgt := 92) dX5_readLines_72 (by decide) (fun c2 => ?_) (fun c2 => ?_)
    ·
      replace hF := if_f c2 hF
      refine lv_iload_n hx hb dX5_readLines_92 rfl (lv_at hl 1 rfl) ?_
      exact rI E I hr hlk rfl (by rw [← hpost]; exact ⟨⟨I.2.2, trivial⟩, hF.trans hres, rB68_Z⟩) dX5_readLines_93
    ·
      replace hF := if_t c2 hF
      refine lv_aload_n hx hb dX5_readLines_75 rfl (lv_at hl 0 rfl) ?_
      refine cVi E I (c_X5_namesNoStar l w g v_68 k0 E.2.2.1 I.2.2 h_k0  ) (cwV 0 E.1.2.2.2.2 (gWs (C := "StarWalk$Tape") mw_3_40 mw_3_42 mw_s_18 mw_1_2 mw_3_43) rfl rfl rfl (by decide +kernel) ⟨by decide, by decide⟩) h_k0.1.1 ((ce_o h_k0.1.2).trans rfl) rfl rfl hl.1 rfl (Nat.le_of_ble_eq_true rfl) dX5_readLines_76 ⟨Nat.le_refl _, Nat.le_refl _⟩ (fun r3 u4 H lo hp hPS => ?_)
      obtain ⟨hp, hex, hfr⟩ := hp
      replace hF := xl_i hex hF
      obtain ⟨hu, p5⟩ := hp
      rw [hu] at hPS
      have I : Wo w g s.heap v_68 H lo := ⟨hPS.1, hPS.2, I.2.2⟩
      refine bz_eq E (a := r3.toInt) rfl (tgt := 92) dX5_readLines_79 (by decide) (fun c6 => ?_) (fun c6 => ?_)
      ·
        replace hF := if_t c6 hF
        refine lv_iload_n hx hb dX5_readLines_92 rfl (lv_at hl 1 rfl) ?_
        exact rI E I hr hlk rfl (by rw [← hpost]; exact ⟨⟨I.2.2, trivial⟩, hF.trans hres, rB68_Z⟩) dX5_readLines_93
      ·
        replace hF := if_f c6 hF
        refine lv_aload_n hx hb dX5_readLines_82 rfl (lv_at hl 0 rfl) ?_
        refine lv_bipush (v := 6) hx hb dX5_readLines_83 (by decide) ?_
        refine lv_aload_n hx hb dX5_readLines_85 rfl (lv_at hl 0 rfl) ?_
        refine g_Tape_length E I h_k0.1 mw_1_170 dX5_readLines_86 ?_
        refine lv_topi (fun x7 ex7 => ?_)
        replace hF := xl_i (ex7) hF
        have hx7 := r_Tape_length I h_k0.1
        rw [← ex7] at hx7
        refine cVv E I (c_X5_refuse l w g v_68 k0 (6 : Int32) x7 E.2.2.1 I.2.2 h_k0  ) (cwV 2 E.1.2.2.2.2 (gWs (C := "StarWalk$Tape") mw_2_134 mw_2_136 mw_s_2 mw_1_2 mw_2_137) rfl rfl rfl (by decide +kernel) ⟨by decide, by decide⟩) h_k0.1.1 ((ce_o h_k0.1.2).trans rfl) rfl rfl hl.1 rfl (Nat.le_of_ble_eq_true rfl) dX5_readLines_89 ⟨Nat.le_refl _, Nat.le_refl _⟩ (fun u8 H lo hp hPS => ?_)
        obtain ⟨hp, hex, hfr⟩ := hp
        replace hF := xl_i hex hF
        obtain ⟨hwf, p9⟩ := hp
        have I : Wo w g s.heap u8 H lo := ⟨hPS.1, hPS.2, hwf⟩
        have rzu8 : ∀ k j : Nat, ¬ ((k = k0 ∧ ¬ j = 1) ∨ (k0 + 2 ≤ k ∧ k < k0 + 11)) → u8.1 k j = v.1 k j := fun k j h => (hfr k j (fun z => h (by omega))).trans (rB68_Z k j h)
        refine lv_iload_n hx hb dX5_readLines_92 rfl (lv_at hl 1 rfl) ?_
        exact rI E I hr hlk rfl (by rw [← hpost]; exact ⟨⟨I.2.2, trivial⟩, hF.trans hres, rzu8⟩) dX5_readLines_93
  obtain ⟨P_33, eP_33, hF⟩ := xl_e hF
  have L_33 : ∀ (n : Nat), ∀ (H : Heap) (lo : List Loc) (v_33 : St), Wo w g s.heap v_33 H lo → ∀ (y33_1 : Int32), (0 ≤ y33_1.toInt ∧ y33_1.toInt ≤ 161) → (∀ k j : Nat, ¬ ((k = k0 ∧ ¬ j = 1) ∨ (k0 + 2 ≤ k ∧ k < k0 + 11)) → v_33.1 k j = v.1 k j) → (lp P_33 (fun _ _ => ((0 : Int32), v)) n y33_1 v_33 = res) → (2147483647 - y33_1.toInt).toNat < n → ∀ (ls : Array Slot), lv_has ls 2 [(0, .ref (wq w k0)), (1, .int y33_1)] → W pg l en (rmL 7) s m ar bl me cd H lo 0 0 (Zi w bl ar s post) (F0 m 33 ls []) := by
    intro n
    induction n with
    | zero => intro H lo v_33 I y33_1 hy33_1 rB33_Z hF hm; exact absurd hm (Nat.not_lt_zero _)
    | succ n ih_33 =>
      intro H lo v_33 I y33_1 hy33_1 rB33_Z hF hm ls hl
      replace hF := lpa2 eP_33 hF
      refine lv_aload_n hx hb dX5_readLines_33 rfl (lv_at hl 0 rfl) ?_
      refine g_Tape_found E I h_k0.1 mw_1_179 dX5_readLines_34 ?_
      refine lv_topi (fun x10 ex10 => ?_)
      replace hF := xl_i (ex10) hF
      refine bz_ne E (a := x10.toInt) rfl (tgt := 68) dX5_readLines_37 (by decide) (fun c11 => ?_) (fun c11 => ?_)
      ·
        replace hF := if_f c11 hF
        exact B_68 _ _ v_33 I y33_1 (by omega) rB33_Z hF ls (lv_sub hl [0, 1] rfl)
      ·
        replace hF := if_t c11 hF
        refine lv_aload_n hx hb dX5_readLines_40 rfl (lv_at hl 0 rfl) ?_
        refine g_Tape_kind E I h_k0.1 mw_1_174 dX5_readLines_41 ?_
        refine lv_topi (fun x12 ex12 => ?_)
        replace hF := xl_i (ex12) hF
        refine bz_eq E (a := x12.toInt) rfl (tgt := 68) dX5_readLines_44 (by decide) (fun c13 => ?_) (fun c13 => ?_)
        ·
          replace hF := if_t c13 hF
          exact B_68 _ _ v_33 I y33_1 (by omega) rB33_Z hF ls (lv_sub hl [0, 1] rfl)
        ·
          replace hF := if_f c13 hF
          refine lv_iload_n hx hb dX5_readLines_47 rfl (lv_at hl 1 rfl) ?_
          refine lv_sipush (v := 160) hx hb dX5_readLines_48 (by decide) ?_
          refine bi_gt E (a := y33_1.toInt) (b := 160) rfl rfl (tgt := 68) dX5_readLines_51 (by decide) (fun c14 => ?_) (fun c14 => ?_)
          ·
            replace hF := if_t c14 hF
            exact B_68 _ _ v_33 I y33_1 (by omega) rB33_Z hF ls (lv_sub hl [0, 1] rfl)
          ·
            replace hF := if_l c14 hF
            refine lv_aload_n hx hb dX5_readLines_54 rfl (lv_at hl 0 rfl) ?_
            refine cVv E I (c_X5_readLine l w g v_33 k0 E.2.2.1 I.2.2 h_k0  ) (cwV 0 E.1.2.2.2.2 (gWs (C := "StarWalk$Tape") mw_2_138 mw_2_140 mw_s_3 mw_1_2 mw_2_141) rfl rfl rfl (by decide +kernel) ⟨by decide, by decide⟩) h_k0.1.1 ((ce_o h_k0.1.2).trans rfl) rfl rfl hl.1 rfl (Nat.le_of_ble_eq_true rfl) dX5_readLines_55 ⟨Nat.le_refl _, Nat.le_refl _⟩ (fun u15 H lo hp hPS => ?_)
            obtain ⟨hp, hex, hfr⟩ := hp
            replace hF := xl_i hex hF
            obtain ⟨hwf, p16⟩ := hp
            have I : Wo w g s.heap u15 H lo := ⟨hPS.1, hPS.2, hwf⟩
            have rzu15 : ∀ k j : Nat, ¬ ((k = k0 ∧ ¬ j = 1) ∨ (k0 + 2 ≤ k ∧ k < k0 + 11)) → u15.1 k j = v.1 k j := fun k j h => (hfr k j (fun z => h (by rcases z with z | z <;> omega))).trans (rB33_Z k j h)
            obtain ⟨x17, ex17⟩ : ∃ z : Int32, z = y33_1 + 1 := ⟨_, rfl⟩
            replace hF := xl_i (ex17) hF
            have hx17 : x17.toInt = y33_1.toInt + (1) := by rw [ex17]; exact adI (a := y33_1.toInt) (b := 1) rfl rfl (by omega) (by omega)
            refine lv_iinc (v := x17) (lv' := [(1, .int x17), (0, .ref (wq w k0))]) hx hb dX5_readLines_58 hl (k := 1) rfl (by rw [ex17]; rfl) (by decide) rfl (fun ls hl => ?_)
            refine lv_aload_n hx hb dX5_readLines_61 rfl (lv_at hl 1 rfl) ?_
            refine cVv E I (c_X5_takeToken l w g u15 k0 E.2.2.1 I.2.2 h_k0  ) (cwV 0 E.1.2.2.2.2 (gWs (C := "StarWalk$Tape") mw_2_123 mw_2_125 mw_s_0 mw_1_2 mw_2_126) rfl rfl rfl (by decide +kernel) ⟨by decide, by decide⟩) h_k0.1.1 ((ce_o h_k0.1.2).trans rfl) rfl rfl hl.1 rfl (Nat.le_of_ble_eq_true rfl) dX5_readLines_62 ⟨Nat.le_refl _, Nat.le_refl _⟩ (fun u18 H lo hp hPS => ?_)
            obtain ⟨hp, hex, hfr⟩ := hp
            replace hF := xl_i hex hF
            obtain ⟨hwf, p19⟩ := hp
            have I : Wo w g s.heap u18 H lo := ⟨hPS.1, hPS.2, hwf⟩
            have rzu18 : ∀ k j : Nat, ¬ ((k = k0 ∧ ¬ j = 1) ∨ (k0 + 2 ≤ k ∧ k < k0 + 11)) → u18.1 k j = v.1 k j := fun k j h => (hfr k j (fun z => h (by omega))).trans (rzu15 k j h)
            refine lv_goto (tgt := 33) hx hb dX5_readLines_65 (by decide) ?_
            exact ih_33 _ _ u18 I x17 (by omega) rzu18 hF (by omega) ls (lv_sub hl [1, 0] rfl)
  refine lv_aload_n hx hb dX5_readLines_0 rfl (lv_at hl 0 rfl) ?_
  refine g_Tape_draft E I h_k0.1 mw_1_172 dX5_readLines_1 ?_
  refine cVv E I (c_X0_clear l w g v (k0 + 2) E.2.2.1 I.2.2 h_k0.2.2  ) (cwV 0 E.1.2.2.2.2 (gWs (C := "StarWalk$Night") mw_2_122 mw_1_74 mw_1_75 mw_1_3 mw_1_76) rfl rfl rfl (by decide +kernel) ⟨by decide, by decide⟩) h_k0.2.2.1.1 ((ce_o h_k0.2.2.1.2).trans rfl) rfl rfl hl.1 rfl (Nat.le_of_ble_eq_true rfl) dX5_readLines_4 ⟨Nat.le_refl _, Nat.le_refl _⟩ (fun u20 H lo hp hPS => ?_)
  obtain ⟨hp, hex, hfr⟩ := hp
  replace hF := xl_i hex hF
  obtain ⟨hwf, p21⟩ := hp
  have I : Wo w g s.heap u20 H lo := ⟨hPS.1, hPS.2, hwf⟩
  have rzu20 : ∀ k j : Nat, ¬ ((k = k0 ∧ ¬ j = 1) ∨ (k0 + 2 ≤ k ∧ k < k0 + 11)) → u20.1 k j = v.1 k j := fun k j h => (hfr k j (fun z => h (by omega))).trans (rz0 k j h)
  refine lv_aload_n hx hb dX5_readLines_7 rfl (lv_at hl 0 rfl) ?_
  refine lv_iconst (v := 0) hx hb dX5_readLines_8 (by decide) ?_
  refine p_Tape_found E I h_k0.1 mw_1_179 dX5_readLines_9 (fun H lo I => ?_)
  generalize ev22 : up1 u20 k0 8 (0 : Int32) = v22 at I
  replace hF := xl_i (ev22.symm) hF
  have rzv22 : ∀ k j : Nat, ¬ ((k = k0 ∧ ¬ j = 1) ∨ (k0 + 2 ≤ k ∧ k < k0 + 11)) → v22.1 k j = v.1 k j := fun k j h => fz_u ev22 (by omega) (rzu20 k j h)
  refine lv_aload_n hx hb dX5_readLines_12 rfl (lv_at hl 0 rfl) ?_
  refine lv_iconst (v := 0) hx hb dX5_readLines_13 (by decide) ?_
  refine p_Tape_foundAt E I h_k0.1 mw_1_181 dX5_readLines_14 (fun H lo I => ?_)
  generalize ev23 : up1 v22 k0 9 (0 : Int32) = v23 at I
  replace hF := xl_i (ev23.symm) hF
  have rzv23 : ∀ k j : Nat, ¬ ((k = k0 ∧ ¬ j = 1) ∨ (k0 + 2 ≤ k ∧ k < k0 + 11)) → v23.1 k j = v.1 k j := fun k j h => fz_u ev23 (by omega) (rzv22 k j h)
  refine lv_aload_n hx hb dX5_readLines_17 rfl (lv_at hl 0 rfl) ?_
  refine lv_iconst (v := 0) hx hb dX5_readLines_18 (by decide) ?_
  refine p_Tape_linesTold E I h_k0.1 mw_1_178 dX5_readLines_19 (fun H lo I => ?_)
  generalize ev24 : up1 v23 k0 7 (0 : Int32) = v24 at I
  replace hF := xl_i (ev24.symm) hF
  have rzv24 : ∀ k j : Nat, ¬ ((k = k0 ∧ ¬ j = 1) ∨ (k0 + 2 ≤ k ∧ k < k0 + 11)) → v24.1 k j = v.1 k j := fun k j h => fz_u ev24 (by omega) (rzv23 k j h)
  refine lv_aload_n hx hb dX5_readLines_22 rfl (lv_at hl 0 rfl) ?_
  refine lv_iconst (v := 0) hx hb dX5_readLines_23 (by decide) ?_
  refine p_Tape_behind E I h_k0.1 mw_1_176 dX5_readLines_24 (fun H lo I => ?_)
  generalize ev25 : up1 v24 k0 5 (0 : Int32) = v25 at I
  replace hF := xl_i (ev25.symm) hF
  have rzv25 : ∀ k j : Nat, ¬ ((k = k0 ∧ ¬ j = 1) ∨ (k0 + 2 ≤ k ∧ k < k0 + 11)) → v25.1 k j = v.1 k j := fun k j h => fz_u ev25 (by omega) (rzv24 k j h)
  refine lv_iconst (v := 0) hx hb dX5_readLines_27 (by decide) ?_
  refine lv_istore_n (lv' := [(1, .int 0), (0, .ref (wq w k0))]) hx hb dX5_readLines_28 rfl hl (by decide) rfl (fun ls hl => ?_)
  refine lv_aload_n hx hb dX5_readLines_29 rfl (lv_at hl 1 rfl) ?_
  refine cVv E I (c_X5_takeToken l w g v25 k0 E.2.2.1 I.2.2 h_k0  ) (cwV 0 E.1.2.2.2.2 (gWs (C := "StarWalk$Tape") mw_2_123 mw_2_125 mw_s_0 mw_1_2 mw_2_126) rfl rfl rfl (by decide +kernel) ⟨by decide, by decide⟩) h_k0.1.1 ((ce_o h_k0.1.2).trans rfl) rfl rfl hl.1 rfl (Nat.le_of_ble_eq_true rfl) dX5_readLines_30 ⟨Nat.le_refl _, Nat.le_refl _⟩ (fun u26 H lo hp hPS => ?_)
  obtain ⟨hp, hex, hfr⟩ := hp
  replace hF := xl_i hex hF
  obtain ⟨hwf, p27⟩ := hp
  have I : Wo w g s.heap u26 H lo := ⟨hPS.1, hPS.2, hwf⟩
  have rzu26 : ∀ k j : Nat, ¬ ((k = k0 ∧ ¬ j = 1) ∨ (k0 + 2 ≤ k ∧ k < k0 + 11)) → u26.1 k j = v.1 k j := fun k j h => (hfr k j (fun z => h (by omega))).trans (rzv25 k j h)
  exact L_33 ((2147483647 - (0 : Int32).toInt).toNat + 1) _ _ u26 I (0 : Int32) (by decide) rzu26 hF (Nat.lt_succ_self _) ls (lv_sub hl [1, 0] rfl)
def F_X7_text (k0 : Nat) (v : St) : Int32 × St :=
xl (fun (self_61 : Int32 → Int32 → St → Int32 × St) (y61_1 : Int32) (y61_2 : Int32) (v_61 : St) =>
if y61_2.toInt < 2 then (
xl (up1 v_61 (k0 + 63) y61_2.toNatClampNeg (vp_nar .boolean (0 : Int32))) fun v2 =>
xl (y61_2 + 1) fun x3 =>
(self_61 y61_1 x3 v2)) else (
(y61_1, v_61))) fun P_61 =>
xm (F_X5_readLines (k0 + 1) v) fun r4 u5 =>
xl (up1 u5 (k0 + 1) 1 (0 : Int32)) fun v7 =>
xl (v7.1 (k0 + 1) 8) fun x8 =>
xl (up1 v7 k0 9 x8) fun v9 =>
xl (v9.1 k0 9) fun x10 =>
if x10.toInt = 0 then (
xl (F_X0_become (k0 + 12) (k0 + 1 + 2) v9) fun u12 =>
(lp P_61 (fun _ _ _ => ((0 : Int32), v)) ((2147483647 - (0 : Int32).toInt).toNat + 1) r4 (0 : Int32) u12)) else (
xl (v9.1 (k0 + 1) 9) fun x14 =>
xl ((-10 : Int32) - x14) fun x15 =>
(x15, v9))
set_option maxHeartbeats 4000000 in
set_option maxRecDepth 100000 in
theorem c_X7_text (l : Launch) (w : Wp) (g : Nat → Nat → Int32) (v : St) (k0 : Nat) (hq : Inj w) (hw : WF (wk w) g v) (h_k0 : oW w k0) : CTi w l yX7_text (wsy yX7_text prog_1_method_4_code 3 (some .int)) (rmL 8) [.ref (wq w k0)] v (fun (r : Int32) (u : St) => (WF (wk w) g u ∧ ((∀ k j : Nat, ¬ (k = k0 + 1 ∨ (k0 + 3 ≤ k ∧ k < k0 + 12) ∨ (k = k0 ∧ j = 9)) → u.1 k j = v.1 k j) ∨ (u.1 k0 9).toInt = 0)) ∧ ((r, u) = F_X7_text k0 v) ∧ (∀ k j : Nat, ¬ ((k0 + 1 ≤ k ∧ k < k0 + 21) ∨ k = k0 + 63 ∨ (k = k0 ∧ j = 9)) → u.1 k j = v.1 k j)) := by
  generalize hpost : (fun (r : Int32) (u : St) => (WF (wk w) g u ∧ ((∀ k j : Nat, ¬ (k = k0 + 1 ∨ (k0 + 3 ≤ k ∧ k < k0 + 12) ∨ (k = k0 ∧ j = 9)) → u.1 k j = v.1 k j) ∨ (u.1 k0 9).toInt = 0)) ∧ ((r, u) = F_X7_text k0 v) ∧ (∀ k j : Nat, ¬ ((k0 + 1 ≤ k ∧ k < k0 + 21) ∨ k = k0 + 63 ∨ (k = k0 ∧ j = 9)) → u.1 k j = v.1 k j)) = post
  refine CTi.of prog_1_method_4_code 3 (some .int) "StarWalk" (by decide +kernel) rfl hq hw (Nat.le_of_ble_eq_true rfl) ?_
  intro pg en s m ar bl me cd ls E I hr hlk hl
  have hx := E.1.1
  have hb := E.1.2.1
  have hl : lv_has ls 3 [(0, .ref (wq w k0))] := hl
  obtain ⟨res, hres⟩ : ∃ z, z = F_X7_text k0 v := ⟨_, rfl⟩
  have hF := hres.symm
  unfold F_X7_text at hF
  replace hres : res = F_X7_text k0 v := hres
  have rz0 : ∀ k j : Nat, ¬ ((k0 + 1 ≤ k ∧ k < k0 + 21) ∨ k = k0 + 63 ∨ (k = k0 ∧ j = 9)) → v.1 k j = v.1 k j := fun _ _ _ => rfl
  have ry0 : ∀ k j : Nat, ¬ (k = k0 + 1 ∨ (k0 + 3 ≤ k ∧ k < k0 + 12) ∨ (k = k0 ∧ j = 9)) → v.1 k j = v.1 k j := fun _ _ _ => rfl
  obtain ⟨P_61, eP_61, hF⟩ := xl_e hF
  have L_61 : ∀ (n : Nat), ∀ (H : Heap) (lo : List Loc) (v_61 : St), Wo w g s.heap v_61 H lo → ∀ (y61_1 : Int32) (y61_2 : Int32), (0 ≤ y61_2.toInt ∧ y61_2.toInt ≤ 2) → (∀ k j : Nat, ¬ ((k0 + 1 ≤ k ∧ k < k0 + 21) ∨ k = k0 + 63 ∨ (k = k0 ∧ j = 9)) → v_61.1 k j = v.1 k j) → ((v_61.1 k0 9).toInt = 0) → (lp P_61 (fun _ _ _ => ((0 : Int32), v)) n y61_1 y61_2 v_61 = res) → (2147483647 - y61_2.toInt).toNat < n → ∀ (ls : Array Slot), lv_has ls 3 [(0, .ref (wq w k0)), (1, .int y61_1), (2, .int y61_2)] → W pg l en (rmL 8) s m ar bl me cd H lo 0 0 (Zi w bl ar s post) (F0 m 61 ls []) := by
    intro n
    induction n with
    | zero => intro H lo v_61 I y61_1 y61_2 hy61_2 rB61_Z hV61_2 hF hm; exact absurd hm (Nat.not_lt_zero _)
    | succ n ih_61 =>
      intro H lo v_61 I y61_1 y61_2 hy61_2 rB61_Z hV61_2 hF hm ls hl
      replace hF := lpa3 eP_61 hF
      refine lv_iload_n hx hb dX7_text_61 rfl (lv_at hl 2 rfl) ?_
      refine lv_iconst (v := 2) hx hb dX7_text_62 (by decide) ?_
      refine bi_ge E (a := y61_2.toInt) (b := 2) rfl rfl (tgt := 79) dX7_text_63 (by decide) (fun c1 => ?_) (fun c1 => ?_)
      ·
        replace hF := if_l c1 hF
        refine lv_iload_n hx hb dX7_text_79 rfl (lv_at hl 1 rfl) ?_
        exact rI E I hr hlk rfl (by rw [← hpost]; exact ⟨⟨I.2.2, Or.inr (by omega)⟩, hF.trans hres, rB61_Z⟩) dX7_text_80
      ·
        replace hF := if_t c1 hF
        refine lv_aload_n hx hb dX7_text_66 rfl (lv_at hl 0 rfl) ?_
        refine g_StarWalk_kept E I h_k0.1 mw_2_75 dX7_text_67 ?_
        refine lv_iload_n hx hb dX7_text_70 rfl (lv_at hl 2 rfl) ?_
        refine lv_iconst (v := 0) hx hb dX7_text_71 (by decide) ?_
        refine pa_19 E I h_k0.2.2.2.2.2.2.2.2.1 (by omega) dX7_text_72 (fun H lo I => ?_)
        generalize ev2 : up1 v_61 (k0 + 63) y61_2.toNatClampNeg (vp_nar .boolean (0 : Int32)) = v2 at I
        replace hF := xl_i (ev2.symm) hF
        have wtv2_k0_9 : (v2.1 k0 9).toInt = (v_61.1 k0 9).toInt := by rw [← ev2, up1_n _ _ (Or.inl (by omega))]
        have rzv2 : ∀ k j : Nat, ¬ ((k0 + 1 ≤ k ∧ k < k0 + 21) ∨ k = k0 + 63 ∨ (k = k0 ∧ j = 9)) → v2.1 k j = v.1 k j := fun k j h => fz_u ev2 (by have czy61_2 := cnI (x := y61_2) (by omega); omega) (rB61_Z k j h)
        obtain ⟨x3, ex3⟩ : ∃ z : Int32, z = y61_2 + 1 := ⟨_, rfl⟩
        replace hF := xl_i (ex3) hF
        have hx3 : x3.toInt = y61_2.toInt + (1) := by rw [ex3]; exact adI (a := y61_2.toInt) (b := 1) rfl rfl (by omega) (by omega)
        refine lv_iinc (v := x3) (lv' := [(2, .int x3), (0, .ref (wq w k0)), (1, .int y61_1)]) hx hb dX7_text_73 hl (k := 2) rfl (by rw [ex3]; rfl) (by decide) rfl (fun ls hl => ?_)
        refine lv_goto (tgt := 61) hx hb dX7_text_76 (by decide) ?_
        exact ih_61 _ _ v2 I y61_1 x3 (by omega) rzv2 (by omega) hF (by omega) ls (lv_sub hl [1, 2, 0] rfl)
  refine lv_aload_n hx hb dX7_text_0 rfl (lv_at hl 0 rfl) ?_
  refine g_StarWalk_tape E I h_k0.1 mw_2_68 dX7_text_1 ?_
  refine cVi E I (c_X5_readLines l w g v (k0 + 1) E.2.2.1 I.2.2 h_k0.2.1  ) (cwV 0 E.1.2.2.2.2 (gWs (C := "StarWalk$Tape") mw_2_118 mw_2_119 mw_2_120 mw_1_2 mw_2_121) rfl rfl rfl (by decide +kernel) ⟨by decide, by decide⟩) h_k0.2.1.1.1 ((ce_o h_k0.2.1.1.2).trans rfl) rfl rfl hl.1 rfl (Nat.le_of_ble_eq_true rfl) dX7_text_4 ⟨Nat.le_refl _, Nat.le_refl _⟩ (fun r4 u5 H lo hp hPS => ?_)
  obtain ⟨hp, hex, hfr⟩ := hp
  replace hF := xm_i hex hF
  obtain ⟨hwf, p6⟩ := hp
  have I : Wo w g s.heap u5 H lo := ⟨hPS.1, hPS.2, hwf⟩
  have rzu5 : ∀ k j : Nat, ¬ ((k0 + 1 ≤ k ∧ k < k0 + 21) ∨ k = k0 + 63 ∨ (k = k0 ∧ j = 9)) → u5.1 k j = v.1 k j := fun k j h => (hfr k j (fun z => h (by rcases z with z | z <;> omega))).trans (rz0 k j h)
  have ryu5 : ∀ k j : Nat, ¬ (k = k0 + 1 ∨ (k0 + 3 ≤ k ∧ k < k0 + 12) ∨ (k = k0 ∧ j = 9)) → u5.1 k j = v.1 k j := fun k j h => (hfr k j (fun z => h (by rcases z with z | z <;> omega))).trans (ry0 k j h)
  refine lv_istore_n (lv' := [(1, .int r4), (0, .ref (wq w k0))]) hx hb dX7_text_7 rfl hl (by decide) rfl (fun ls hl => ?_)
  refine lv_aload_n hx hb dX7_text_8 rfl (lv_at hl 1 rfl) ?_
  refine g_StarWalk_tape E I h_k0.1 mw_2_68 dX7_text_9 ?_
  refine lv_iconst (v := 0) hx hb dX7_text_12 (by decide) ?_
  refine p_Tape_length E I h_k0.2.1.1 mw_1_171 (by decide) dX7_text_13 (fun H lo I => ?_)
  generalize ev7 : up1 u5 (k0 + 1) 1 (0 : Int32) = v7 at I
  replace hF := xl_i (ev7.symm) hF
  have wtv7_k0_9 : (v7.1 k0 9).toInt = (u5.1 k0 9).toInt := by rw [← ev7, up1_n _ _ (Or.inl (by omega))]
  have rzv7 : ∀ k j : Nat, ¬ ((k0 + 1 ≤ k ∧ k < k0 + 21) ∨ k = k0 + 63 ∨ (k = k0 ∧ j = 9)) → v7.1 k j = v.1 k j := fun k j h => fz_u ev7 (by omega) (rzu5 k j h)
  have ryv7 : ∀ k j : Nat, ¬ (k = k0 + 1 ∨ (k0 + 3 ≤ k ∧ k < k0 + 12) ∨ (k = k0 ∧ j = 9)) → v7.1 k j = v.1 k j := fun k j h => fz_u ev7 (by omega) (ryu5 k j h)
  refine lv_aload_n hx hb dX7_text_16 rfl (lv_at hl 1 rfl) ?_
  refine lv_aload_n hx hb dX7_text_17 rfl (lv_at hl 1 rfl) ?_
  refine g_StarWalk_tape E I h_k0.1 mw_2_68 dX7_text_18 ?_
  refine g_Tape_found E I h_k0.2.1.1 mw_1_180 dX7_text_21 ?_
  refine lv_topi (fun x8 ex8 => ?_)
  replace hF := xl_i (ex8) hF
  refine p_StarWalk_latestFault E I h_k0.1 mw_2_77 dX7_text_24 (fun H lo I => ?_)
  generalize ev9 : up1 v7 k0 9 x8 = v9 at I
  replace hF := xl_i (ev9.symm) hF
  have wtv9_k0_9 : (v9.1 k0 9).toInt = x8.toInt := by rw [← ev9]; exact congrArg Int32.toInt (up1_s _ k0 9 x8)
  have rzv9 : ∀ k j : Nat, ¬ ((k0 + 1 ≤ k ∧ k < k0 + 21) ∨ k = k0 + 63 ∨ (k = k0 ∧ j = 9)) → v9.1 k j = v.1 k j := fun k j h => fz_u ev9 (by omega) (rzv7 k j h)
  have ryv9 : ∀ k j : Nat, ¬ (k = k0 + 1 ∨ (k0 + 3 ≤ k ∧ k < k0 + 12) ∨ (k = k0 ∧ j = 9)) → v9.1 k j = v.1 k j := fun k j h => fz_u ev9 (by omega) (ryv7 k j h)
  refine lv_aload_n hx hb dX7_text_27 rfl (lv_at hl 1 rfl) ?_
  refine g_StarWalk_latestFault E I h_k0.1 mw_2_77 dX7_text_28 ?_
  refine lv_topi (fun x10 ex10 => ?_)
  replace hF := xl_i (ex10) hF
  have twx10 : x10.toInt = (v9.1 k0 9).toInt := congrArg Int32.toInt ex10
  refine bz_eq E (a := x10.toInt) rfl (tgt := 45) dX7_text_31 (by decide) (fun c11 => ?_) (fun c11 => ?_)
  ·
    replace hF := if_t c11 hF
    refine lv_aload_n hx hb dX7_text_45 rfl (lv_at hl 1 rfl) ?_
    refine g_StarWalk_now E I h_k0.1 mw_2_69 dX7_text_46 ?_
    refine lv_aload_n hx hb dX7_text_49 rfl (lv_at hl 1 rfl) ?_
    refine g_StarWalk_tape E I h_k0.1 mw_2_68 dX7_text_50 ?_
    refine g_Tape_draft E I h_k0.2.1.1 mw_1_173 dX7_text_53 ?_
    refine cVv E I (c_X0_become l w g v9 (k0 + 12) (k0 + 1 + 2) E.2.2.1 I.2.2 h_k0.2.2.1 h_k0.2.1.2.2  ) (cwV 1 E.1.2.2.2.2 (gWs (C := "StarWalk$Night") mw_3_56 mw_3_57 mw_3_58 mw_1_3 mw_3_59) rfl rfl rfl (by decide +kernel) ⟨by decide, by decide⟩) h_k0.2.2.1.1.1 ((ce_o h_k0.2.2.1.1.2).trans rfl) rfl rfl hl.1 rfl (Nat.le_of_ble_eq_true rfl) dX7_text_56 ⟨Nat.le_refl _, Nat.le_refl _⟩ (fun u12 H lo hp hPS => ?_)
    obtain ⟨hp, hex, hfr⟩ := hp
    replace hF := xl_i hex hF
    obtain ⟨hwf, p13⟩ := hp
    have I : Wo w g s.heap u12 H lo := ⟨hPS.1, hPS.2, hwf⟩
    have wtu12_k0_9 : (u12.1 k0 9).toInt = (v9.1 k0 9).toInt := congrArg Int32.toInt (hfr k0 9 (by omega))
    have rzu12 : ∀ k j : Nat, ¬ ((k0 + 1 ≤ k ∧ k < k0 + 21) ∨ k = k0 + 63 ∨ (k = k0 ∧ j = 9)) → u12.1 k j = v.1 k j := fun k j h => (hfr k j (fun z => h (by omega))).trans (rzv9 k j h)
    refine lv_iconst (v := 0) hx hb dX7_text_59 (by decide) ?_
    refine lv_istore_n (lv' := [(2, .int 0), (1, .int r4), (0, .ref (wq w k0))]) hx hb dX7_text_60 rfl hl (by decide) rfl (fun ls hl => ?_)
    exact L_61 ((2147483647 - (0 : Int32).toInt).toNat + 1) _ _ u12 I r4 (0 : Int32) (by decide) rzu12 (by omega) hF (Nat.lt_succ_self _) ls (lv_sub hl [2, 1, 0] rfl)
  ·
    replace hF := if_f c11 hF
    refine lv_bipush (v := (-10)) hx hb dX7_text_34 (by decide) ?_
    refine lv_aload_n hx hb dX7_text_36 rfl (lv_at hl 1 rfl) ?_
    refine g_StarWalk_tape E I h_k0.1 mw_2_68 dX7_text_37 ?_
    refine g_Tape_foundAt E I h_k0.2.1.1 mw_1_182 dX7_text_40 ?_
    refine lv_topi (fun x14 ex14 => ?_)
    replace hF := xl_i (ex14) hF
    refine lv_isub hx hb dX7_text_43 ?_
    refine lv_topi (fun x15 ex15 => ?_)
    replace hF := xl_i (ex15) hF
    exact rI E I hr hlk rfl (by rw [← hpost]; exact ⟨⟨I.2.2, Or.inl ryv9⟩, hF.trans hres, rzv9⟩) dX7_text_44
