set_option maxHeartbeats 8000000 in
set_option maxRecDepth 100000 in
theorem law_loop {p : Program} {e : Env} {s : State} {m : MethodId} {below : List Frame} {meth : Method} {c : Code} (l : Launch) {b L : Nat} {xs : Nat → Int32} (hL : L ≤ 320) (C0 : lw_At p s m meth c b L xs) {wC wM : Wp} (F : Lf wC wM p m c code 4 s #[Value.ref b] "StarWalkLaw") (hoC : oW wC 0) (hoM : oM wM 0) (gC gM : Nat → Nat → Int32) : ∀ (n : Nat) (H : Heap) (lo : List Loc) (vC vM : St), Lw wC wM gC gM s.heap vC vM H lo → Sim vC vM → ∀ (x3 : Int32), (0 ≤ x3.toInt ∧ x3.toInt ≤ 400) → (400 - x3.toInt).toNat < n → ∀ (ls : Array Slot), lv_has ls 4 [(0, .ref b), (1, .ref (wq wC 0)), (2, .ref (wq wM 0)), (3, .int x3)] → W p l e room_1 s m #[Value.ref b] below meth c H lo 600000 7302250 (lw_Z below #[Value.ref b] s) (F0 m 18 ls []) := by
  obtain ⟨hx, hb, hr, hml, hown, hts, hX, hbl, hlocks, hgv⟩ := id C0
  have hbA : ¬ (fun q : Nat => s.heap.size ≤ q) b := Nat.not_le.mpr hbl
  have E : En wC p m c code 4 s #[Value.ref b] "StarWalkLaw" := ⟨F.1, F.2.1.1, F.2.1.2.1, F.2.1.2.2.1⟩
  have hLi : (Int32.ofNat L).toInt = (L : Int) := nI_toInt (by omega)
  intro n
  induction n with
  | zero => intro H lo vC vM J hR x3 h3 hm; exact absurd hm (Nat.not_lt_zero _)
  | succ n ih =>
    intro H lo vC vM J hR x3 h3 hm ls hl
    refine lv_iload_n hx hb dL_law_18 rfl (lv_at hl 3 rfl) ?_
    refine lv_aload_n hx hb dL_law_19 rfl (lv_at hl 0 rfl) ?_
    refine va_slen hx hb hX hbl hbA J.2.2.1 dL_law_20 ?_
    refine lv_iconst (v := 5) hx hb dL_law_21 (by decide) ?_
    refine lv_isub hx hb dL_law_22 ?_
    refine lv_topi (fun x1 ex1 => ?_)
    have hx1 : x1.toInt = (L : Int) - 5 := by rw [ex1]; exact sbI (a := (L : Int)) (b := 5) hLi rfl (by omega) (by omega)
    refine bi_gt E (a := x3.toInt) (b := x1.toInt) rfl rfl (tgt := 1286) dL_law_23 (by decide) (fun c1 => ?_) (fun c1 => ?_)
    · refine lv_iconst (v := 1) hx hb dL_law_1286 (by decide) ?_
      refine va_forget J.2.2.1.2.2 ?_
      exact lw_ret hx hb hr hlocks dL_law_1287
    ·
      have BK : ∀ (H : Heap) (lo : List Loc) (vC vM : St), Lw wC wM gC gM s.heap vC vM H lo → Sim vC vM → ∀ (ls : Array Slot), lv_has ls 4 [(0, .ref b), (1, .ref (wq wC 0)), (2, .ref (wq wM 0)), (3, .int x3)] → W p l e room_1 s m #[Value.ref b] below meth c H lo 600000 7302250 (lw_Z below #[Value.ref b] s) (F0 m 1280 ls []) := by
        intro H lo vC vM J hR ls hl
        obtain ⟨x2, ex2⟩ : ∃ z : Int32, z = x3 + 5 := ⟨_, rfl⟩
        have hx2 : x2.toInt = x3.toInt + 5 := by rw [ex2]; exact adI (a := x3.toInt) (b := 5) rfl rfl (by omega) (by omega)
        refine lv_iinc (v := x2) (lv' := [(3, .int x2), (0, .ref b), (1, .ref (wq wC 0)), (2, .ref (wq wM 0))]) hx hb dL_law_1280 hl (k := 3) rfl (by rw [ex2]; rfl) (by decide) rfl (fun ls hl => ?_)
        refine lv_goto (tgt := 18) hx hb dL_law_1283 (by decide) ?_
        exact ih _ _ _ _ J hR x2 (by omega) (by omega) ls (lv_sub hl [1, 2, 3, 0] rfl)
      refine lv_aload_n hx hb dL_law_26 rfl (lv_at hl 0 rfl) ?_
      refine lv_iload_n hx hb dL_law_27 rfl (lv_at hl 3 rfl) ?_
      refine va_sld hx hb hX hbl hbA J.2.2.1 (vp_in_iff.mpr (by omega)) dL_law_28 ?_
      refine lv_bipush (v := 63) hx hb dL_law_29 (by decide) ?_
      refine lv_iand hx hb dL_law_31 ?_
      refine lv_topi (fun x4 ex4 => ?_)
      by_cases k0 : x4.toInt = 0
      ·
        refine lv_tableIn hx hb dL_law_32 (by omega) (by omega) (by rw [k0]; rfl) (tgt := 208) (by decide) ?_
        refine lv_aload_n hx hb dL_law_208 rfl (lv_at hl 1 rfl) ?_
        refine lv_aload_n hx hb dL_law_209 rfl (lv_at hl 0 rfl) ?_
        refine lv_iload_n hx hb dL_law_210 rfl (lv_at hl 3 rfl) ?_
        refine lv_iconst (v := 1) hx hb dL_law_211 (by decide) ?_
        refine lv_iadd hx hb dL_law_212 ?_
        refine lv_topi (fun x11 ex11 => ?_)
        have hx11 : x11.toInt = x3.toInt + 1 := by rw [ex11]; exact adI (a := x3.toInt) (b := 1) rfl rfl (by omega) (by omega)
        refine va_sld hx hb hX hbl hbA J.2.2.1 (vp_in_iff.mpr (by omega)) dL_law_213 ?_
        refine lv_topi (fun x12 ex12 => ?_)
        refine lCi F J (c_X7_feed l wC gC vC 0 x12 F.2.1.2.1 J.2.2.2.1 hoC ) (cwV 1 F.1.2.2.2.2 (gWs (C := "StarWalk") mw_2_102 mw_2_103 mw_2_104 mw_1_1 mw_2_105) rfl rfl rfl (by decide +kernel) ⟨by decide, by decide⟩) hoC.1.1 ((ce_o hoC.1.2).trans rfl) rfl rfl hl.1 rfl (Nat.le_of_ble_eq_true rfl) dL_law_214 ⟨Nat.le_refl _, Nat.le_refl _⟩ (fun r13 u14 H lo hp hJ => ?_)
        obtain ⟨hwC, exC, frC⟩ := hp
        have J : Lw wC wM gC gM s.heap u14 vM H lo := ⟨hJ.1, hJ.2.1, hJ.2.2, hwC.1, J.2.2.2.2⟩
        clear hJ
        refine lv_pop hx hb dL_law_217 rfl ?_
        refine lv_aload_n hx hb dL_law_218 rfl (lv_at hl 2 rfl) ?_
        refine lv_aload_n hx hb dL_law_219 rfl (lv_at hl 0 rfl) ?_
        refine lv_iload_n hx hb dL_law_220 rfl (lv_at hl 3 rfl) ?_
        refine lv_iconst (v := 1) hx hb dL_law_221 (by decide) ?_
        refine lv_iadd hx hb dL_law_222 ?_
        refine lv_topi (fun x15 ex15 => ?_)
        obtain rfl : x11 = x15 := ex11.trans ex15.symm
        refine va_sld hx hb hX hbl hbA J.2.2.1 (vp_in_iff.mpr (by omega)) dL_law_223 ?_
        refine lv_topi (fun x16 ex16 => ?_)
        obtain rfl : x12 = x16 := ex12.trans ex16.symm
        refine lMi F J (c_X8_feed l wM gM vM 0 x12 F.2.2.1.2.1 J.2.2.2.2 hoM ) (cwV 1 F.1.2.2.2.2 (gWs (C := "StarWalkModel") mw_5_24 mw_5_25 mw_5_26 mw_1_9 mw_5_27) rfl rfl rfl (by decide +kernel) ⟨by decide, by decide⟩) hoM.1.1 ((ce_o hoM.1.2).trans rfl) rfl rfl hl.1 rfl (Nat.le_of_ble_eq_true rfl) dL_law_224 ⟨Nat.le_refl _, Nat.le_refl _⟩ (fun r17 u18 H lo hp hJ => ?_)
        obtain ⟨hwM, exM, frM⟩ := hp
        have J : Lw wC wM gC gM s.heap u14 u18 H lo := ⟨hJ.1, hJ.2.1, hJ.2.2, J.2.2.2.1, hwM.1⟩
        clear hJ
        have hS := sim_feed hR exC exM
        have hEq := hS.1
        replace hR := hS.2
        refine lv_pop hx hb dL_law_227 rfl ?_
        refine lv_goto (tgt := 1280) hx hb dL_law_228 (by decide) ?_
        exact BK _ _ _ _ J hR ls (lv_sub hl [0, 1, 2, 3] rfl)
      by_cases k1 : x4.toInt = 1
      ·
        refine lv_tableIn hx hb dL_law_32 (by omega) (by omega) (by rw [k1]; rfl) (tgt := 231) (by decide) ?_
        refine lv_aload_n hx hb dL_law_231 rfl (lv_at hl 1 rfl) ?_
        refine lv_aload_n hx hb dL_law_232 rfl (lv_at hl 0 rfl) ?_
        refine lv_iload_n hx hb dL_law_233 rfl (lv_at hl 3 rfl) ?_
        refine lv_iconst (v := 1) hx hb dL_law_234 (by decide) ?_
        refine lv_iadd hx hb dL_law_235 ?_
        refine lv_topi (fun x19 ex19 => ?_)
        have hx19 : x19.toInt = x3.toInt + 1 := by rw [ex19]; exact adI (a := x3.toInt) (b := 1) rfl rfl (by omega) (by omega)
        refine va_sld hx hb hX hbl hbA J.2.2.1 (vp_in_iff.mpr (by omega)) dL_law_236 ?_
        refine lv_topi (fun x20 ex20 => ?_)
        refine lCi F J (c_X7_end l wC gC vC 0 x20 F.2.1.2.1 J.2.2.2.1 hoC ) (cwV 1 F.1.2.2.2.2 (gWs (C := "StarWalk") mw_2_110 mw_2_111 mw_2_112 mw_1_1 mw_2_113) rfl rfl rfl (by decide +kernel) ⟨by decide, by decide⟩) hoC.1.1 ((ce_o hoC.1.2).trans rfl) rfl rfl hl.1 rfl (Nat.le_of_ble_eq_true rfl) dL_law_237 ⟨Nat.le_refl _, Nat.le_refl _⟩ (fun r21 u22 H lo hp hJ => ?_)
        obtain ⟨hwC, exC, frC⟩ := hp
        have J : Lw wC wM gC gM s.heap u22 vM H lo := ⟨hJ.1, hJ.2.1, hJ.2.2, hwC.1, J.2.2.2.2⟩
        clear hJ
        refine lv_pop hx hb dL_law_240 rfl ?_
        refine lv_aload_n hx hb dL_law_241 rfl (lv_at hl 2 rfl) ?_
        refine lv_aload_n hx hb dL_law_242 rfl (lv_at hl 0 rfl) ?_
        refine lv_iload_n hx hb dL_law_243 rfl (lv_at hl 3 rfl) ?_
        refine lv_iconst (v := 1) hx hb dL_law_244 (by decide) ?_
        refine lv_iadd hx hb dL_law_245 ?_
        refine lv_topi (fun x23 ex23 => ?_)
        obtain rfl : x19 = x23 := ex19.trans ex23.symm
        refine va_sld hx hb hX hbl hbA J.2.2.1 (vp_in_iff.mpr (by omega)) dL_law_246 ?_
        refine lv_topi (fun x24 ex24 => ?_)
        obtain rfl : x20 = x24 := ex20.trans ex24.symm
        refine lMi F J (c_X8_end l wM gM vM 0 x20 F.2.2.1.2.1 J.2.2.2.2 hoM ) (cwV 1 F.1.2.2.2.2 (gWs (C := "StarWalkModel") mw_5_32 mw_5_33 mw_5_34 mw_1_9 mw_5_35) rfl rfl rfl (by decide +kernel) ⟨by decide, by decide⟩) hoM.1.1 ((ce_o hoM.1.2).trans rfl) rfl rfl hl.1 rfl (Nat.le_of_ble_eq_true rfl) dL_law_247 ⟨Nat.le_refl _, Nat.le_refl _⟩ (fun r25 u26 H lo hp hJ => ?_)
        obtain ⟨hwM, exM, frM⟩ := hp
        have J : Lw wC wM gC gM s.heap u22 u26 H lo := ⟨hJ.1, hJ.2.1, hJ.2.2, J.2.2.2.1, hwM.1⟩
        clear hJ
        have hS := sim_end hR exC exM
        have hEq := hS.1
        replace hR := hS.2
        refine lv_pop hx hb dL_law_250 rfl ?_
        refine lv_goto (tgt := 1280) hx hb dL_law_251 (by decide) ?_
        exact BK _ _ _ _ J hR ls (lv_sub hl [0, 1, 2, 3] rfl)
      by_cases k2 : x4.toInt = 2
      ·
        refine lv_tableIn hx hb dL_law_32 (by omega) (by omega) (by rw [k2]; rfl) (tgt := 254) (by decide) ?_
        refine lv_aload_n hx hb dL_law_254 rfl (lv_at hl 1 rfl) ?_
        refine lCi F J (c_X7_text l wC gC vC 0  F.2.1.2.1 J.2.2.2.1 hoC ) (cwV 0 F.1.2.2.2.2 (gWs (C := "StarWalk") mw_2_114 mw_2_115 mw_2_116 mw_1_1 mw_2_117) rfl rfl rfl (by decide +kernel) ⟨by decide, by decide⟩) hoC.1.1 ((ce_o hoC.1.2).trans rfl) rfl rfl hl.1 rfl (Nat.le_of_ble_eq_true rfl) dL_law_255 ⟨Nat.le_refl _, Nat.le_refl _⟩ (fun r27 u28 H lo hp hJ => ?_)
        obtain ⟨hwC, exC, frC⟩ := hp
        have J : Lw wC wM gC gM s.heap u28 vM H lo := ⟨hJ.1, hJ.2.1, hJ.2.2, hwC.1, J.2.2.2.2⟩
        clear hJ
        refine lv_pop hx hb dL_law_258 rfl ?_
        refine lv_aload_n hx hb dL_law_259 rfl (lv_at hl 2 rfl) ?_
        refine lMi F J (c_X8_text l wM gM vM 0  F.2.2.1.2.1 J.2.2.2.2 hoM ) (cwV 0 F.1.2.2.2.2 (gWs (C := "StarWalkModel") mw_5_36 mw_5_37 mw_5_38 mw_1_9 mw_5_39) rfl rfl rfl (by decide +kernel) ⟨by decide, by decide⟩) hoM.1.1 ((ce_o hoM.1.2).trans rfl) rfl rfl hl.1 rfl (Nat.le_of_ble_eq_true rfl) dL_law_260 ⟨Nat.le_refl _, Nat.le_refl _⟩ (fun r29 u30 H lo hp hJ => ?_)
        obtain ⟨hwM, exM, frM⟩ := hp
        have J : Lw wC wM gC gM s.heap u28 u30 H lo := ⟨hJ.1, hJ.2.1, hJ.2.2, J.2.2.2.1, hwM.1⟩
        clear hJ
        have hS := sim_text hR exC exM frC hwC.2 frM hwM.2
        have hEq := hS.1
        replace hR := hS.2
        refine lv_pop hx hb dL_law_263 rfl ?_
        refine lv_goto (tgt := 1280) hx hb dL_law_264 (by decide) ?_
        exact BK _ _ _ _ J hR ls (lv_sub hl [0, 1, 2, 3] rfl)
      by_cases k3 : x4.toInt = 3
      ·
        refine lv_tableIn hx hb dL_law_32 (by omega) (by omega) (by rw [k3]; rfl) (tgt := 267) (by decide) ?_
        refine lv_aload_n hx hb dL_law_267 rfl (lv_at hl 1 rfl) ?_
        refine lCi F J (c_X7_fault l wC gC vC 0  F.2.1.2.1 J.2.2.2.1 hoC ) (cwV 0 F.1.2.2.2.2 (gWs (C := "StarWalk") mw_3_67 mw_3_68 mw_3_69 mw_1_1 mw_3_70) rfl rfl rfl (by decide +kernel) ⟨by decide, by decide⟩) hoC.1.1 ((ce_o hoC.1.2).trans rfl) rfl rfl hl.1 rfl (Nat.le_of_ble_eq_true rfl) dL_law_268 ⟨Nat.le_refl _, Nat.le_refl _⟩ (fun r31 u32 H lo hp hJ => ?_)
        obtain ⟨hwC, exC, frC⟩ := hp
        rw [hwC.1] at hJ
        have J : Lw wC wM gC gM s.heap vC vM H lo := ⟨hJ.1, hJ.2.1, hJ.2.2, J.2.2.2.1, J.2.2.2.2⟩
        clear hJ
        refine lv_pop hx hb dL_law_271 rfl ?_
        refine lv_aload_n hx hb dL_law_272 rfl (lv_at hl 2 rfl) ?_
        refine lMi F J (c_X8_fault l wM gM vM 0  F.2.2.1.2.1 J.2.2.2.2 hoM ) (cwV 0 F.1.2.2.2.2 (gWs (C := "StarWalkModel") mw_5_100 mw_5_101 mw_5_102 mw_1_9 mw_5_103) rfl rfl rfl (by decide +kernel) ⟨by decide, by decide⟩) hoM.1.1 ((ce_o hoM.1.2).trans rfl) rfl rfl hl.1 rfl (Nat.le_of_ble_eq_true rfl) dL_law_273 ⟨Nat.le_refl _, Nat.le_refl _⟩ (fun r33 u34 H lo hp hJ => ?_)
        obtain ⟨hwM, exM, frM⟩ := hp
        rw [hwM.1] at hJ
        have J : Lw wC wM gC gM s.heap vC vM H lo := ⟨hJ.1, hJ.2.1, hJ.2.2, J.2.2.2.1, J.2.2.2.2⟩
        clear hJ
        replace hR := hR.fr (fun _ _ _ => rfl) (fun _ _ _ => rfl)
        refine lv_pop hx hb dL_law_276 rfl ?_
        refine lv_goto (tgt := 1280) hx hb dL_law_277 (by decide) ?_
        exact BK _ _ _ _ J hR ls (lv_sub hl [0, 1, 2, 3] rfl)
      by_cases k4 : x4.toInt = 4
      ·
        refine lv_tableIn hx hb dL_law_32 (by omega) (by omega) (by rw [k4]; rfl) (tgt := 280) (by decide) ?_
        refine lv_aload_n hx hb dL_law_280 rfl (lv_at hl 1 rfl) ?_
        refine lv_aload_n hx hb dL_law_281 rfl (lv_at hl 0 rfl) ?_
        refine lv_iload_n hx hb dL_law_282 rfl (lv_at hl 3 rfl) ?_
        refine lv_iconst (v := 1) hx hb dL_law_283 (by decide) ?_
        refine lv_iadd hx hb dL_law_284 ?_
        refine lv_topi (fun x35 ex35 => ?_)
        have hx35 : x35.toInt = x3.toInt + 1 := by rw [ex35]; exact adI (a := x3.toInt) (b := 1) rfl rfl (by omega) (by omega)
        refine va_sld hx hb hX hbl hbA J.2.2.1 (vp_in_iff.mpr (by omega)) dL_law_285 ?_
        refine lv_topi (fun x36 ex36 => ?_)
        refine lCi F J (c_X7_rule l wC gC vC 0 x36 F.2.1.2.1 J.2.2.2.1 hoC ) (cwV 1 F.1.2.2.2.2 (gWs (C := "StarWalk") mw_3_71 mw_3_72 mw_3_73 mw_1_1 mw_3_74) rfl rfl rfl (by decide +kernel) ⟨by decide, by decide⟩) hoC.1.1 ((ce_o hoC.1.2).trans rfl) rfl rfl hl.1 rfl (Nat.le_of_ble_eq_true rfl) dL_law_286 ⟨Nat.le_refl _, Nat.le_refl _⟩ (fun r37 u38 H lo hp hJ => ?_)
        obtain ⟨hwC, exC, frC⟩ := hp
        rw [hwC.1] at hJ
        have J : Lw wC wM gC gM s.heap vC vM H lo := ⟨hJ.1, hJ.2.1, hJ.2.2, J.2.2.2.1, J.2.2.2.2⟩
        clear hJ
        refine lv_pop hx hb dL_law_289 rfl ?_
        refine lv_aload_n hx hb dL_law_290 rfl (lv_at hl 2 rfl) ?_
        refine lv_aload_n hx hb dL_law_291 rfl (lv_at hl 0 rfl) ?_
        refine lv_iload_n hx hb dL_law_292 rfl (lv_at hl 3 rfl) ?_
        refine lv_iconst (v := 1) hx hb dL_law_293 (by decide) ?_
        refine lv_iadd hx hb dL_law_294 ?_
        refine lv_topi (fun x39 ex39 => ?_)
        obtain rfl : x35 = x39 := ex35.trans ex39.symm
        refine va_sld hx hb hX hbl hbA J.2.2.1 (vp_in_iff.mpr (by omega)) dL_law_295 ?_
        refine lv_topi (fun x40 ex40 => ?_)
        obtain rfl : x36 = x40 := ex36.trans ex40.symm
        refine lMi F J (c_X8_rule l wM gM vM 0 x36 F.2.2.1.2.1 J.2.2.2.2 hoM ) (cwV 1 F.1.2.2.2.2 (gWs (C := "StarWalkModel") mw_5_104 mw_5_105 mw_5_106 mw_1_9 mw_5_107) rfl rfl rfl (by decide +kernel) ⟨by decide, by decide⟩) hoM.1.1 ((ce_o hoM.1.2).trans rfl) rfl rfl hl.1 rfl (Nat.le_of_ble_eq_true rfl) dL_law_296 ⟨Nat.le_refl _, Nat.le_refl _⟩ (fun r41 u42 H lo hp hJ => ?_)
        obtain ⟨hwM, exM, frM⟩ := hp
        have J : Lw wC wM gC gM s.heap vC u42 H lo := ⟨hJ.1, hJ.2.1, hJ.2.2, J.2.2.2.1, hwM.1⟩
        clear hJ
        replace hR := hR.fr (fun _ _ _ => rfl) (fun a b z => frM a b (by omega))
        refine lv_pop hx hb dL_law_299 rfl ?_
        refine lv_goto (tgt := 1280) hx hb dL_law_300 (by decide) ?_
        exact BK _ _ _ _ J hR ls (lv_sub hl [0, 1, 2, 3] rfl)
      by_cases k5 : x4.toInt = 5
      ·
        refine lv_tableIn hx hb dL_law_32 (by omega) (by omega) (by rw [k5]; rfl) (tgt := 303) (by decide) ?_
        refine lv_aload_n hx hb dL_law_303 rfl (lv_at hl 1 rfl) ?_
        refine lv_aload_n hx hb dL_law_304 rfl (lv_at hl 0 rfl) ?_
        refine lv_iload_n hx hb dL_law_305 rfl (lv_at hl 3 rfl) ?_
        refine lv_iconst (v := 1) hx hb dL_law_306 (by decide) ?_
        refine lv_iadd hx hb dL_law_307 ?_
        refine lv_topi (fun x43 ex43 => ?_)
        have hx43 : x43.toInt = x3.toInt + 1 := by rw [ex43]; exact adI (a := x3.toInt) (b := 1) rfl rfl (by omega) (by omega)
        refine va_sld hx hb hX hbl hbA J.2.2.1 (vp_in_iff.mpr (by omega)) dL_law_308 ?_
        refine lv_topi (fun x44 ex44 => ?_)
        refine lv_aload_n hx hb dL_law_309 rfl (lv_at hl 0 rfl) ?_
        refine lv_iload_n hx hb dL_law_310 rfl (lv_at hl 3 rfl) ?_
        refine lv_iconst (v := 2) hx hb dL_law_311 (by decide) ?_
        refine lv_iadd hx hb dL_law_312 ?_
        refine lv_topi (fun x45 ex45 => ?_)
        have hx45 : x45.toInt = x3.toInt + 2 := by rw [ex45]; exact adI (a := x3.toInt) (b := 2) rfl rfl (by omega) (by omega)
        refine va_sld hx hb hX hbl hbA J.2.2.1 (vp_in_iff.mpr (by omega)) dL_law_313 ?_
        refine lv_topi (fun x46 ex46 => ?_)
        refine lCi F J (c_X7_star l wC gC vC 0 x44 x46 F.2.1.2.1 J.2.2.2.1 hoC ) (cwV 2 F.1.2.2.2.2 (gWs (C := "StarWalk") mw_3_89 mw_3_90 mw_3_91 mw_1_1 mw_3_92) rfl rfl rfl (by decide +kernel) ⟨by decide, by decide⟩) hoC.1.1 ((ce_o hoC.1.2).trans rfl) rfl rfl hl.1 rfl (Nat.le_of_ble_eq_true rfl) dL_law_314 ⟨Nat.le_refl _, Nat.le_refl _⟩ (fun r47 u48 H lo hp hJ => ?_)
        obtain ⟨hwC, exC, frC⟩ := hp
        rw [hwC.1] at hJ
        have J : Lw wC wM gC gM s.heap vC vM H lo := ⟨hJ.1, hJ.2.1, hJ.2.2, J.2.2.2.1, J.2.2.2.2⟩
        clear hJ
        refine lv_pop hx hb dL_law_317 rfl ?_
        refine lv_aload_n hx hb dL_law_318 rfl (lv_at hl 2 rfl) ?_
        refine lv_aload_n hx hb dL_law_319 rfl (lv_at hl 0 rfl) ?_
        refine lv_iload_n hx hb dL_law_320 rfl (lv_at hl 3 rfl) ?_
        refine lv_iconst (v := 1) hx hb dL_law_321 (by decide) ?_
        refine lv_iadd hx hb dL_law_322 ?_
        refine lv_topi (fun x49 ex49 => ?_)
        obtain rfl : x43 = x49 := ex43.trans ex49.symm
        refine va_sld hx hb hX hbl hbA J.2.2.1 (vp_in_iff.mpr (by omega)) dL_law_323 ?_
        refine lv_topi (fun x50 ex50 => ?_)
        obtain rfl : x44 = x50 := ex44.trans ex50.symm
        refine lv_aload_n hx hb dL_law_324 rfl (lv_at hl 0 rfl) ?_
        refine lv_iload_n hx hb dL_law_325 rfl (lv_at hl 3 rfl) ?_
        refine lv_iconst (v := 2) hx hb dL_law_326 (by decide) ?_
        refine lv_iadd hx hb dL_law_327 ?_
        refine lv_topi (fun x51 ex51 => ?_)
        obtain rfl : x45 = x51 := ex45.trans ex51.symm
        refine va_sld hx hb hX hbl hbA J.2.2.1 (vp_in_iff.mpr (by omega)) dL_law_328 ?_
        refine lv_topi (fun x52 ex52 => ?_)
        obtain rfl : x46 = x52 := ex46.trans ex52.symm
        refine lMi F J (c_X8_star l wM gM vM 0 x44 x46 F.2.2.1.2.1 J.2.2.2.2 hoM ) (cwV 2 F.1.2.2.2.2 (gWs (C := "StarWalkModel") mw_5_122 mw_5_123 mw_5_124 mw_1_9 mw_5_125) rfl rfl rfl (by decide +kernel) ⟨by decide, by decide⟩) hoM.1.1 ((ce_o hoM.1.2).trans rfl) rfl rfl hl.1 rfl (Nat.le_of_ble_eq_true rfl) dL_law_329 ⟨Nat.le_refl _, Nat.le_refl _⟩ (fun r53 u54 H lo hp hJ => ?_)
        obtain ⟨hwM, exM, frM⟩ := hp
        rw [hwM.1] at hJ
        have J : Lw wC wM gC gM s.heap vC vM H lo := ⟨hJ.1, hJ.2.1, hJ.2.2, J.2.2.2.1, J.2.2.2.2⟩
        clear hJ
        replace hR := hR.fr (fun _ _ _ => rfl) (fun _ _ _ => rfl)
        refine lv_pop hx hb dL_law_332 rfl ?_
        refine lv_goto (tgt := 1280) hx hb dL_law_333 (by decide) ?_
        exact BK _ _ _ _ J hR ls (lv_sub hl [0, 1, 2, 3] rfl)
      by_cases k6 : x4.toInt = 6
      ·
        refine lv_tableIn hx hb dL_law_32 (by omega) (by omega) (by rw [k6]; rfl) (tgt := 336) (by decide) ?_
        refine lv_aload_n hx hb dL_law_336 rfl (lv_at hl 1 rfl) ?_
        refine lv_aload_n hx hb dL_law_337 rfl (lv_at hl 0 rfl) ?_
        refine lv_iload_n hx hb dL_law_338 rfl (lv_at hl 3 rfl) ?_
        refine lv_iconst (v := 1) hx hb dL_law_339 (by decide) ?_
        refine lv_iadd hx hb dL_law_340 ?_
        refine lv_topi (fun x55 ex55 => ?_)
        have hx55 : x55.toInt = x3.toInt + 1 := by rw [ex55]; exact adI (a := x3.toInt) (b := 1) rfl rfl (by omega) (by omega)
        refine va_sld hx hb hX hbl hbA J.2.2.1 (vp_in_iff.mpr (by omega)) dL_law_341 ?_
        refine lv_topi (fun x56 ex56 => ?_)
        refine lCi F J (c_X7_walker l wC gC vC 0 x56 F.2.1.2.1 J.2.2.2.1 hoC ) (cwV 1 F.1.2.2.2.2 (gWs (C := "StarWalk") mw_3_95 mw_3_96 mw_3_97 mw_1_1 mw_3_98) rfl rfl rfl (by decide +kernel) ⟨by decide, by decide⟩) hoC.1.1 ((ce_o hoC.1.2).trans rfl) rfl rfl hl.1 rfl (Nat.le_of_ble_eq_true rfl) dL_law_342 ⟨Nat.le_refl _, Nat.le_refl _⟩ (fun r57 u58 H lo hp hJ => ?_)
        obtain ⟨hwC, exC, frC⟩ := hp
        rw [hwC.1] at hJ
        have J : Lw wC wM gC gM s.heap vC vM H lo := ⟨hJ.1, hJ.2.1, hJ.2.2, J.2.2.2.1, J.2.2.2.2⟩
        clear hJ
        refine lv_pop hx hb dL_law_345 rfl ?_
        refine lv_aload_n hx hb dL_law_346 rfl (lv_at hl 2 rfl) ?_
        refine lv_aload_n hx hb dL_law_347 rfl (lv_at hl 0 rfl) ?_
        refine lv_iload_n hx hb dL_law_348 rfl (lv_at hl 3 rfl) ?_
        refine lv_iconst (v := 1) hx hb dL_law_349 (by decide) ?_
        refine lv_iadd hx hb dL_law_350 ?_
        refine lv_topi (fun x59 ex59 => ?_)
        obtain rfl : x55 = x59 := ex55.trans ex59.symm
        refine va_sld hx hb hX hbl hbA J.2.2.1 (vp_in_iff.mpr (by omega)) dL_law_351 ?_
        refine lv_topi (fun x60 ex60 => ?_)
        obtain rfl : x56 = x60 := ex56.trans ex60.symm
        refine lMi F J (c_X8_walker l wM gM vM 0 x56 F.2.2.1.2.1 J.2.2.2.2 hoM ) (cwV 1 F.1.2.2.2.2 (gWs (C := "StarWalkModel") mw_5_131 mw_5_132 mw_5_133 mw_1_9 mw_5_134) rfl rfl rfl (by decide +kernel) ⟨by decide, by decide⟩) hoM.1.1 ((ce_o hoM.1.2).trans rfl) rfl rfl hl.1 rfl (Nat.le_of_ble_eq_true rfl) dL_law_352 ⟨Nat.le_refl _, Nat.le_refl _⟩ (fun r61 u62 H lo hp hJ => ?_)
        obtain ⟨hwM, exM, frM⟩ := hp
        rw [hwM.1] at hJ
        have J : Lw wC wM gC gM s.heap vC vM H lo := ⟨hJ.1, hJ.2.1, hJ.2.2, J.2.2.2.1, J.2.2.2.2⟩
        clear hJ
        replace hR := hR.fr (fun _ _ _ => rfl) (fun _ _ _ => rfl)
        refine lv_pop hx hb dL_law_355 rfl ?_
        refine lv_goto (tgt := 1280) hx hb dL_law_356 (by decide) ?_
        exact BK _ _ _ _ J hR ls (lv_sub hl [0, 1, 2, 3] rfl)
      by_cases k7 : x4.toInt = 7
      ·
        refine lv_tableIn hx hb dL_law_32 (by omega) (by omega) (by rw [k7]; rfl) (tgt := 359) (by decide) ?_
        refine lv_aload_n hx hb dL_law_359 rfl (lv_at hl 1 rfl) ?_
        refine lv_aload_n hx hb dL_law_360 rfl (lv_at hl 0 rfl) ?_
        refine lv_iload_n hx hb dL_law_361 rfl (lv_at hl 3 rfl) ?_
        refine lv_iconst (v := 1) hx hb dL_law_362 (by decide) ?_
        refine lv_iadd hx hb dL_law_363 ?_
        refine lv_topi (fun x63 ex63 => ?_)
        have hx63 : x63.toInt = x3.toInt + 1 := by rw [ex63]; exact adI (a := x3.toInt) (b := 1) rfl rfl (by omega) (by omega)
        refine va_sld hx hb hX hbl hbA J.2.2.1 (vp_in_iff.mpr (by omega)) dL_law_364 ?_
        refine lv_topi (fun x64 ex64 => ?_)
        refine lCi F J (c_X7_plan l wC gC vC 0 x64 F.2.1.2.1 J.2.2.2.1 hoC ) (cwV 1 F.1.2.2.2.2 (gWs (C := "StarWalk") mw_3_103 mw_3_104 mw_3_105 mw_1_1 mw_3_106) rfl rfl rfl (by decide +kernel) ⟨by decide, by decide⟩) hoC.1.1 ((ce_o hoC.1.2).trans rfl) rfl rfl hl.1 rfl (Nat.le_of_ble_eq_true rfl) dL_law_365 ⟨Nat.le_refl _, Nat.le_refl _⟩ (fun r65 u66 H lo hp hJ => ?_)
        obtain ⟨hwC, exC, frC⟩ := hp
        rw [hwC.1] at hJ
        have J : Lw wC wM gC gM s.heap vC vM H lo := ⟨hJ.1, hJ.2.1, hJ.2.2, J.2.2.2.1, J.2.2.2.2⟩
        clear hJ
        refine lv_pop hx hb dL_law_368 rfl ?_
        refine lv_aload_n hx hb dL_law_369 rfl (lv_at hl 2 rfl) ?_
        refine lv_aload_n hx hb dL_law_370 rfl (lv_at hl 0 rfl) ?_
        refine lv_iload_n hx hb dL_law_371 rfl (lv_at hl 3 rfl) ?_
        refine lv_iconst (v := 1) hx hb dL_law_372 (by decide) ?_
        refine lv_iadd hx hb dL_law_373 ?_
        refine lv_topi (fun x67 ex67 => ?_)
        obtain rfl : x63 = x67 := ex63.trans ex67.symm
        refine va_sld hx hb hX hbl hbA J.2.2.1 (vp_in_iff.mpr (by omega)) dL_law_374 ?_
        refine lv_topi (fun x68 ex68 => ?_)
        obtain rfl : x64 = x68 := ex64.trans ex68.symm
        refine lMi F J (c_X8_plan l wM gM vM 0 x64 F.2.2.1.2.1 J.2.2.2.2 hoM ) (cwV 1 F.1.2.2.2.2 (gWs (C := "StarWalkModel") mw_5_139 mw_5_140 mw_5_141 mw_1_9 mw_5_142) rfl rfl rfl (by decide +kernel) ⟨by decide, by decide⟩) hoM.1.1 ((ce_o hoM.1.2).trans rfl) rfl rfl hl.1 rfl (Nat.le_of_ble_eq_true rfl) dL_law_375 ⟨Nat.le_refl _, Nat.le_refl _⟩ (fun r69 u70 H lo hp hJ => ?_)
        obtain ⟨hwM, exM, frM⟩ := hp
        rw [hwM.1] at hJ
        have J : Lw wC wM gC gM s.heap vC vM H lo := ⟨hJ.1, hJ.2.1, hJ.2.2, J.2.2.2.1, J.2.2.2.2⟩
        clear hJ
        replace hR := hR.fr (fun _ _ _ => rfl) (fun _ _ _ => rfl)
        refine lv_pop hx hb dL_law_378 rfl ?_
        refine lv_goto (tgt := 1280) hx hb dL_law_379 (by decide) ?_
        exact BK _ _ _ _ J hR ls (lv_sub hl [0, 1, 2, 3] rfl)
      by_cases k8 : x4.toInt = 8
      ·
        refine lv_tableIn hx hb dL_law_32 (by omega) (by omega) (by rw [k8]; rfl) (tgt := 382) (by decide) ?_
        refine lv_aload_n hx hb dL_law_382 rfl (lv_at hl 1 rfl) ?_
        refine lv_aload_n hx hb dL_law_383 rfl (lv_at hl 0 rfl) ?_
        refine lv_iload_n hx hb dL_law_384 rfl (lv_at hl 3 rfl) ?_
        refine lv_iconst (v := 1) hx hb dL_law_385 (by decide) ?_
        refine lv_iadd hx hb dL_law_386 ?_
        refine lv_topi (fun x71 ex71 => ?_)
        have hx71 : x71.toInt = x3.toInt + 1 := by rw [ex71]; exact adI (a := x3.toInt) (b := 1) rfl rfl (by omega) (by omega)
        refine va_sld hx hb hX hbl hbA J.2.2.1 (vp_in_iff.mpr (by omega)) dL_law_387 ?_
        refine lv_topi (fun x72 ex72 => ?_)
        refine lv_aload_n hx hb dL_law_388 rfl (lv_at hl 0 rfl) ?_
        refine lv_iload_n hx hb dL_law_389 rfl (lv_at hl 3 rfl) ?_
        refine lv_iconst (v := 2) hx hb dL_law_390 (by decide) ?_
        refine lv_iadd hx hb dL_law_391 ?_
        refine lv_topi (fun x73 ex73 => ?_)
        have hx73 : x73.toInt = x3.toInt + 2 := by rw [ex73]; exact adI (a := x3.toInt) (b := 2) rfl rfl (by omega) (by omega)
        refine va_sld hx hb hX hbl hbA J.2.2.1 (vp_in_iff.mpr (by omega)) dL_law_392 ?_
        refine lv_topi (fun x74 ex74 => ?_)
        refine lCi F J (c_X7_set l wC gC vC 0 x72 x74 F.2.1.2.1 J.2.2.2.1 hoC ) (cwV 2 F.1.2.2.2.2 (gWs (C := "StarWalk") mw_3_108 mw_3_109 mw_3_110 mw_1_1 mw_3_111) rfl rfl rfl (by decide +kernel) ⟨by decide, by decide⟩) hoC.1.1 ((ce_o hoC.1.2).trans rfl) rfl rfl hl.1 rfl (Nat.le_of_ble_eq_true rfl) dL_law_393 ⟨Nat.le_refl _, Nat.le_refl _⟩ (fun r75 u76 H lo hp hJ => ?_)
        obtain ⟨hwC, exC, frC⟩ := hp
        have J : Lw wC wM gC gM s.heap u76 vM H lo := ⟨hJ.1, hJ.2.1, hJ.2.2, hwC.1, J.2.2.2.2⟩
        clear hJ
        refine lv_pop hx hb dL_law_396 rfl ?_
        refine lv_aload_n hx hb dL_law_397 rfl (lv_at hl 2 rfl) ?_
        refine lv_aload_n hx hb dL_law_398 rfl (lv_at hl 0 rfl) ?_
        refine lv_iload_n hx hb dL_law_399 rfl (lv_at hl 3 rfl) ?_
        refine lv_iconst (v := 1) hx hb dL_law_400 (by decide) ?_
        refine lv_iadd hx hb dL_law_401 ?_
        refine lv_topi (fun x77 ex77 => ?_)
        obtain rfl : x71 = x77 := ex71.trans ex77.symm
        refine va_sld hx hb hX hbl hbA J.2.2.1 (vp_in_iff.mpr (by omega)) dL_law_402 ?_
        refine lv_topi (fun x78 ex78 => ?_)
        obtain rfl : x72 = x78 := ex72.trans ex78.symm
        refine lv_aload_n hx hb dL_law_403 rfl (lv_at hl 0 rfl) ?_
        refine lv_iload_n hx hb dL_law_404 rfl (lv_at hl 3 rfl) ?_
        refine lv_iconst (v := 2) hx hb dL_law_405 (by decide) ?_
        refine lv_iadd hx hb dL_law_406 ?_
        refine lv_topi (fun x79 ex79 => ?_)
        obtain rfl : x73 = x79 := ex73.trans ex79.symm
        refine va_sld hx hb hX hbl hbA J.2.2.1 (vp_in_iff.mpr (by omega)) dL_law_407 ?_
        refine lv_topi (fun x80 ex80 => ?_)
        obtain rfl : x74 = x80 := ex74.trans ex80.symm
        refine lMi F J (c_X8_set l wM gM vM 0 x72 x74 F.2.2.1.2.1 J.2.2.2.2 hoM ) (cwV 2 F.1.2.2.2.2 (gWs (C := "StarWalkModel") mw_5_143 mw_5_144 mw_5_145 mw_1_9 mw_5_146) rfl rfl rfl (by decide +kernel) ⟨by decide, by decide⟩) hoM.1.1 ((ce_o hoM.1.2).trans rfl) rfl rfl hl.1 rfl (Nat.le_of_ble_eq_true rfl) dL_law_408 ⟨Nat.le_refl _, Nat.le_refl _⟩ (fun r81 u82 H lo hp hJ => ?_)
        obtain ⟨hwM, exM, frM⟩ := hp
        have J : Lw wC wM gC gM s.heap u76 u82 H lo := ⟨hJ.1, hJ.2.1, hJ.2.2, J.2.2.2.1, hwM.1⟩
        clear hJ
        have hS := sim_set hR exC exM
        have hEq := hS.1
        replace hR := hS.2
        refine lv_pop hx hb dL_law_411 rfl ?_
        refine lv_goto (tgt := 1280) hx hb dL_law_412 (by decide) ?_
        exact BK _ _ _ _ J hR ls (lv_sub hl [0, 1, 2, 3] rfl)
      by_cases k9 : x4.toInt = 9
      ·
        refine lv_tableIn hx hb dL_law_32 (by omega) (by omega) (by rw [k9]; rfl) (tgt := 415) (by decide) ?_
        refine lv_aload_n hx hb dL_law_415 rfl (lv_at hl 1 rfl) ?_
        refine lv_aload_n hx hb dL_law_416 rfl (lv_at hl 0 rfl) ?_
        refine lv_iload_n hx hb dL_law_417 rfl (lv_at hl 3 rfl) ?_
        refine lv_iconst (v := 1) hx hb dL_law_418 (by decide) ?_
        refine lv_iadd hx hb dL_law_419 ?_
        refine lv_topi (fun x83 ex83 => ?_)
        have hx83 : x83.toInt = x3.toInt + 1 := by rw [ex83]; exact adI (a := x3.toInt) (b := 1) rfl rfl (by omega) (by omega)
        refine va_sld hx hb hX hbl hbA J.2.2.1 (vp_in_iff.mpr (by omega)) dL_law_420 ?_
        refine lv_topi (fun x84 ex84 => ?_)
        refine lv_aload_n hx hb dL_law_421 rfl (lv_at hl 0 rfl) ?_
        refine lv_iload_n hx hb dL_law_422 rfl (lv_at hl 3 rfl) ?_
        refine lv_iconst (v := 2) hx hb dL_law_423 (by decide) ?_
        refine lv_iadd hx hb dL_law_424 ?_
        refine lv_topi (fun x85 ex85 => ?_)
        have hx85 : x85.toInt = x3.toInt + 2 := by rw [ex85]; exact adI (a := x3.toInt) (b := 2) rfl rfl (by omega) (by omega)
        refine va_sld hx hb hX hbl hbA J.2.2.1 (vp_in_iff.mpr (by omega)) dL_law_425 ?_
        refine lv_topi (fun x86 ex86 => ?_)
        refine bz_eq E (a := x86.toInt) rfl (tgt := 433) dL_law_426 (by decide) (fun c87 => ?_) (fun c87 => ?_)
        ·
          refine lv_iconst (v := 0) hx hb dL_law_433 (by decide) ?_
          refine lCi F J (c_X7_cloud l wC gC vC 0 x84 (0 : Int32) F.2.1.2.1 J.2.2.2.1 hoC ) (cwV 2 F.1.2.2.2.2 (gWs (C := "StarWalk") mw_3_117 mw_3_118 mw_3_119 mw_1_1 mw_3_120) rfl rfl rfl (by decide +kernel) ⟨by decide, by decide⟩) hoC.1.1 ((ce_o hoC.1.2).trans rfl) rfl rfl hl.1 rfl (Nat.le_of_ble_eq_true rfl) dL_law_434 ⟨Nat.le_refl _, Nat.le_refl _⟩ (fun r88 u89 H lo hp hJ => ?_)
          obtain ⟨hwC, exC, frC⟩ := hp
          have J : Lw wC wM gC gM s.heap u89 vM H lo := ⟨hJ.1, hJ.2.1, hJ.2.2, hwC.1, J.2.2.2.2⟩
          clear hJ
          refine lv_pop hx hb dL_law_437 rfl ?_
          refine lv_aload_n hx hb dL_law_438 rfl (lv_at hl 2 rfl) ?_
          refine lv_aload_n hx hb dL_law_439 rfl (lv_at hl 0 rfl) ?_
          refine lv_iload_n hx hb dL_law_440 rfl (lv_at hl 3 rfl) ?_
          refine lv_iconst (v := 1) hx hb dL_law_441 (by decide) ?_
          refine lv_iadd hx hb dL_law_442 ?_
          refine lv_topi (fun x90 ex90 => ?_)
          obtain rfl : x83 = x90 := ex83.trans ex90.symm
          refine va_sld hx hb hX hbl hbA J.2.2.1 (vp_in_iff.mpr (by omega)) dL_law_443 ?_
          refine lv_topi (fun x91 ex91 => ?_)
          obtain rfl : x84 = x91 := ex84.trans ex91.symm
          refine lv_aload_n hx hb dL_law_444 rfl (lv_at hl 0 rfl) ?_
          refine lv_iload_n hx hb dL_law_445 rfl (lv_at hl 3 rfl) ?_
          refine lv_iconst (v := 2) hx hb dL_law_446 (by decide) ?_
          refine lv_iadd hx hb dL_law_447 ?_
          refine lv_topi (fun x92 ex92 => ?_)
          obtain rfl : x85 = x92 := ex85.trans ex92.symm
          refine va_sld hx hb hX hbl hbA J.2.2.1 (vp_in_iff.mpr (by omega)) dL_law_448 ?_
          refine lv_topi (fun x93 ex93 => ?_)
          obtain rfl : x86 = x93 := ex86.trans ex93.symm
          refine bz_eq E (a := x86.toInt) rfl (tgt := 456) dL_law_449 (by decide) (fun c94 => ?_) (fun c94 => ?_)
          ·
            refine lv_iconst (v := 0) hx hb dL_law_456 (by decide) ?_
            refine lMi F J (c_X8_cloud l wM gM vM 0 x84 (0 : Int32) F.2.2.1.2.1 J.2.2.2.2 hoM ) (cwV 2 F.1.2.2.2.2 (gWs (C := "StarWalkModel") mw_5_159 mw_5_160 mw_5_161 mw_1_9 mw_5_162) rfl rfl rfl (by decide +kernel) ⟨by decide, by decide⟩) hoM.1.1 ((ce_o hoM.1.2).trans rfl) rfl rfl hl.1 rfl (Nat.le_of_ble_eq_true rfl) dL_law_457 ⟨Nat.le_refl _, Nat.le_refl _⟩ (fun r95 u96 H lo hp hJ => ?_)
            obtain ⟨hwM, exM, frM⟩ := hp
            have J : Lw wC wM gC gM s.heap u89 u96 H lo := ⟨hJ.1, hJ.2.1, hJ.2.2, J.2.2.2.1, hwM.1⟩
            clear hJ
            have hS := sim_cloud hR exC exM
            have hEq := hS.1
            replace hR := hS.2
            refine lv_pop hx hb dL_law_460 rfl ?_
            refine lv_goto (tgt := 1280) hx hb dL_law_461 (by decide) ?_
            exact BK _ _ _ _ J hR ls (lv_sub hl [0, 1, 2, 3] rfl)
          ·
            exfalso; omega
        ·
          refine lv_iconst (v := 1) hx hb dL_law_429 (by decide) ?_
          refine lv_goto (tgt := 434) hx hb dL_law_430 (by decide) ?_
          refine lCi F J (c_X7_cloud l wC gC vC 0 x84 (1 : Int32) F.2.1.2.1 J.2.2.2.1 hoC ) (cwV 2 F.1.2.2.2.2 (gWs (C := "StarWalk") mw_3_117 mw_3_118 mw_3_119 mw_1_1 mw_3_120) rfl rfl rfl (by decide +kernel) ⟨by decide, by decide⟩) hoC.1.1 ((ce_o hoC.1.2).trans rfl) rfl rfl hl.1 rfl (Nat.le_of_ble_eq_true rfl) dL_law_434 ⟨Nat.le_refl _, Nat.le_refl _⟩ (fun r97 u98 H lo hp hJ => ?_)
          obtain ⟨hwC, exC, frC⟩ := hp
          have J : Lw wC wM gC gM s.heap u98 vM H lo := ⟨hJ.1, hJ.2.1, hJ.2.2, hwC.1, J.2.2.2.2⟩
          clear hJ
          refine lv_pop hx hb dL_law_437 rfl ?_
          refine lv_aload_n hx hb dL_law_438 rfl (lv_at hl 2 rfl) ?_
          refine lv_aload_n hx hb dL_law_439 rfl (lv_at hl 0 rfl) ?_
          refine lv_iload_n hx hb dL_law_440 rfl (lv_at hl 3 rfl) ?_
          refine lv_iconst (v := 1) hx hb dL_law_441 (by decide) ?_
          refine lv_iadd hx hb dL_law_442 ?_
          refine lv_topi (fun x99 ex99 => ?_)
          obtain rfl : x83 = x99 := ex83.trans ex99.symm
          refine va_sld hx hb hX hbl hbA J.2.2.1 (vp_in_iff.mpr (by omega)) dL_law_443 ?_
          refine lv_topi (fun x100 ex100 => ?_)
          obtain rfl : x84 = x100 := ex84.trans ex100.symm
          refine lv_aload_n hx hb dL_law_444 rfl (lv_at hl 0 rfl) ?_
          refine lv_iload_n hx hb dL_law_445 rfl (lv_at hl 3 rfl) ?_
          refine lv_iconst (v := 2) hx hb dL_law_446 (by decide) ?_
          refine lv_iadd hx hb dL_law_447 ?_
          refine lv_topi (fun x101 ex101 => ?_)
          obtain rfl : x85 = x101 := ex85.trans ex101.symm
          refine va_sld hx hb hX hbl hbA J.2.2.1 (vp_in_iff.mpr (by omega)) dL_law_448 ?_
          refine lv_topi (fun x102 ex102 => ?_)
          obtain rfl : x86 = x102 := ex86.trans ex102.symm
          refine bz_eq E (a := x86.toInt) rfl (tgt := 456) dL_law_449 (by decide) (fun c103 => ?_) (fun c103 => ?_)
          ·
            exfalso; omega
          ·
            refine lv_iconst (v := 1) hx hb dL_law_452 (by decide) ?_
            refine lv_goto (tgt := 457) hx hb dL_law_453 (by decide) ?_
            refine lMi F J (c_X8_cloud l wM gM vM 0 x84 (1 : Int32) F.2.2.1.2.1 J.2.2.2.2 hoM ) (cwV 2 F.1.2.2.2.2 (gWs (C := "StarWalkModel") mw_5_159 mw_5_160 mw_5_161 mw_1_9 mw_5_162) rfl rfl rfl (by decide +kernel) ⟨by decide, by decide⟩) hoM.1.1 ((ce_o hoM.1.2).trans rfl) rfl rfl hl.1 rfl (Nat.le_of_ble_eq_true rfl) dL_law_457 ⟨Nat.le_refl _, Nat.le_refl _⟩ (fun r104 u105 H lo hp hJ => ?_)
            obtain ⟨hwM, exM, frM⟩ := hp
            have J : Lw wC wM gC gM s.heap u98 u105 H lo := ⟨hJ.1, hJ.2.1, hJ.2.2, J.2.2.2.1, hwM.1⟩
            clear hJ
            have hS := sim_cloud hR exC exM
            have hEq := hS.1
            replace hR := hS.2
            refine lv_pop hx hb dL_law_460 rfl ?_
            refine lv_goto (tgt := 1280) hx hb dL_law_461 (by decide) ?_
            exact BK _ _ _ _ J hR ls (lv_sub hl [0, 1, 2, 3] rfl)
      by_cases k10 : x4.toInt = 10
      ·
        refine lv_tableIn hx hb dL_law_32 (by omega) (by omega) (by rw [k10]; rfl) (tgt := 464) (by decide) ?_
        refine lv_aload_n hx hb dL_law_464 rfl (lv_at hl 1 rfl) ?_
        refine lv_aload_n hx hb dL_law_465 rfl (lv_at hl 0 rfl) ?_
        refine lv_iload_n hx hb dL_law_466 rfl (lv_at hl 3 rfl) ?_
        refine lv_iconst (v := 1) hx hb dL_law_467 (by decide) ?_
        refine lv_iadd hx hb dL_law_468 ?_
        refine lv_topi (fun x106 ex106 => ?_)
        have hx106 : x106.toInt = x3.toInt + 1 := by rw [ex106]; exact adI (a := x3.toInt) (b := 1) rfl rfl (by omega) (by omega)
        refine va_sld hx hb hX hbl hbA J.2.2.1 (vp_in_iff.mpr (by omega)) dL_law_469 ?_
        refine lv_topi (fun x107 ex107 => ?_)
        refine lv_aload_n hx hb dL_law_470 rfl (lv_at hl 0 rfl) ?_
        refine lv_iload_n hx hb dL_law_471 rfl (lv_at hl 3 rfl) ?_
        refine lv_iconst (v := 2) hx hb dL_law_472 (by decide) ?_
        refine lv_iadd hx hb dL_law_473 ?_
        refine lv_topi (fun x108 ex108 => ?_)
        have hx108 : x108.toInt = x3.toInt + 2 := by rw [ex108]; exact adI (a := x3.toInt) (b := 2) rfl rfl (by omega) (by omega)
        refine va_sld hx hb hX hbl hbA J.2.2.1 (vp_in_iff.mpr (by omega)) dL_law_474 ?_
        refine lv_topi (fun x109 ex109 => ?_)
        refine bz_eq E (a := x109.toInt) rfl (tgt := 482) dL_law_475 (by decide) (fun c110 => ?_) (fun c110 => ?_)
        ·
          refine lv_iconst (v := 0) hx hb dL_law_482 (by decide) ?_
          refine lCi F J (c_X7_know l wC gC vC 0 x107 (0 : Int32) F.2.1.2.1 J.2.2.2.1 hoC ) (cwV 2 F.1.2.2.2.2 (gWs (C := "StarWalk") mw_3_126 mw_3_127 mw_3_128 mw_1_1 mw_3_129) rfl rfl rfl (by decide +kernel) ⟨by decide, by decide⟩) hoC.1.1 ((ce_o hoC.1.2).trans rfl) rfl rfl hl.1 rfl (Nat.le_of_ble_eq_true rfl) dL_law_483 ⟨Nat.le_refl _, Nat.le_refl _⟩ (fun r111 u112 H lo hp hJ => ?_)
          obtain ⟨hwC, exC, frC⟩ := hp
          have J : Lw wC wM gC gM s.heap u112 vM H lo := ⟨hJ.1, hJ.2.1, hJ.2.2, hwC.1, J.2.2.2.2⟩
          clear hJ
          refine lv_pop hx hb dL_law_486 rfl ?_
          refine lv_aload_n hx hb dL_law_487 rfl (lv_at hl 2 rfl) ?_
          refine lv_aload_n hx hb dL_law_488 rfl (lv_at hl 0 rfl) ?_
          refine lv_iload_n hx hb dL_law_489 rfl (lv_at hl 3 rfl) ?_
          refine lv_iconst (v := 1) hx hb dL_law_490 (by decide) ?_
          refine lv_iadd hx hb dL_law_491 ?_
          refine lv_topi (fun x113 ex113 => ?_)
          obtain rfl : x106 = x113 := ex106.trans ex113.symm
          refine va_sld hx hb hX hbl hbA J.2.2.1 (vp_in_iff.mpr (by omega)) dL_law_492 ?_
          refine lv_topi (fun x114 ex114 => ?_)
          obtain rfl : x107 = x114 := ex107.trans ex114.symm
          refine lv_aload_n hx hb dL_law_493 rfl (lv_at hl 0 rfl) ?_
          refine lv_iload_n hx hb dL_law_494 rfl (lv_at hl 3 rfl) ?_
          refine lv_iconst (v := 2) hx hb dL_law_495 (by decide) ?_
          refine lv_iadd hx hb dL_law_496 ?_
          refine lv_topi (fun x115 ex115 => ?_)
          obtain rfl : x108 = x115 := ex108.trans ex115.symm
          refine va_sld hx hb hX hbl hbA J.2.2.1 (vp_in_iff.mpr (by omega)) dL_law_497 ?_
          refine lv_topi (fun x116 ex116 => ?_)
          obtain rfl : x109 = x116 := ex109.trans ex116.symm
          refine bz_eq E (a := x109.toInt) rfl (tgt := 505) dL_law_498 (by decide) (fun c117 => ?_) (fun c117 => ?_)
          ·
            refine lv_iconst (v := 0) hx hb dL_law_505 (by decide) ?_
            refine lMi F J (c_X8_know l wM gM vM 0 x107 (0 : Int32) F.2.2.1.2.1 J.2.2.2.2 hoM ) (cwV 2 F.1.2.2.2.2 (gWs (C := "StarWalkModel") mw_5_166 mw_5_167 mw_5_168 mw_1_9 mw_5_169) rfl rfl rfl (by decide +kernel) ⟨by decide, by decide⟩) hoM.1.1 ((ce_o hoM.1.2).trans rfl) rfl rfl hl.1 rfl (Nat.le_of_ble_eq_true rfl) dL_law_506 ⟨Nat.le_refl _, Nat.le_refl _⟩ (fun r118 u119 H lo hp hJ => ?_)
            obtain ⟨hwM, exM, frM⟩ := hp
            have J : Lw wC wM gC gM s.heap u112 u119 H lo := ⟨hJ.1, hJ.2.1, hJ.2.2, J.2.2.2.1, hwM.1⟩
            clear hJ
            have hS := sim_know hR exC exM
            have hEq := hS.1
            replace hR := hS.2
            refine lv_pop hx hb dL_law_509 rfl ?_
            refine lv_goto (tgt := 1280) hx hb dL_law_510 (by decide) ?_
            exact BK _ _ _ _ J hR ls (lv_sub hl [0, 1, 2, 3] rfl)
          ·
            exfalso; omega
        ·
          refine lv_iconst (v := 1) hx hb dL_law_478 (by decide) ?_
          refine lv_goto (tgt := 483) hx hb dL_law_479 (by decide) ?_
          refine lCi F J (c_X7_know l wC gC vC 0 x107 (1 : Int32) F.2.1.2.1 J.2.2.2.1 hoC ) (cwV 2 F.1.2.2.2.2 (gWs (C := "StarWalk") mw_3_126 mw_3_127 mw_3_128 mw_1_1 mw_3_129) rfl rfl rfl (by decide +kernel) ⟨by decide, by decide⟩) hoC.1.1 ((ce_o hoC.1.2).trans rfl) rfl rfl hl.1 rfl (Nat.le_of_ble_eq_true rfl) dL_law_483 ⟨Nat.le_refl _, Nat.le_refl _⟩ (fun r120 u121 H lo hp hJ => ?_)
          obtain ⟨hwC, exC, frC⟩ := hp
          have J : Lw wC wM gC gM s.heap u121 vM H lo := ⟨hJ.1, hJ.2.1, hJ.2.2, hwC.1, J.2.2.2.2⟩
          clear hJ
          refine lv_pop hx hb dL_law_486 rfl ?_
          refine lv_aload_n hx hb dL_law_487 rfl (lv_at hl 2 rfl) ?_
          refine lv_aload_n hx hb dL_law_488 rfl (lv_at hl 0 rfl) ?_
          refine lv_iload_n hx hb dL_law_489 rfl (lv_at hl 3 rfl) ?_
          refine lv_iconst (v := 1) hx hb dL_law_490 (by decide) ?_
          refine lv_iadd hx hb dL_law_491 ?_
          refine lv_topi (fun x122 ex122 => ?_)
          obtain rfl : x106 = x122 := ex106.trans ex122.symm
          refine va_sld hx hb hX hbl hbA J.2.2.1 (vp_in_iff.mpr (by omega)) dL_law_492 ?_
          refine lv_topi (fun x123 ex123 => ?_)
          obtain rfl : x107 = x123 := ex107.trans ex123.symm
          refine lv_aload_n hx hb dL_law_493 rfl (lv_at hl 0 rfl) ?_
          refine lv_iload_n hx hb dL_law_494 rfl (lv_at hl 3 rfl) ?_
          refine lv_iconst (v := 2) hx hb dL_law_495 (by decide) ?_
          refine lv_iadd hx hb dL_law_496 ?_
          refine lv_topi (fun x124 ex124 => ?_)
          obtain rfl : x108 = x124 := ex108.trans ex124.symm
          refine va_sld hx hb hX hbl hbA J.2.2.1 (vp_in_iff.mpr (by omega)) dL_law_497 ?_
          refine lv_topi (fun x125 ex125 => ?_)
          obtain rfl : x109 = x125 := ex109.trans ex125.symm
          refine bz_eq E (a := x109.toInt) rfl (tgt := 505) dL_law_498 (by decide) (fun c126 => ?_) (fun c126 => ?_)
          ·
            exfalso; omega
          ·
            refine lv_iconst (v := 1) hx hb dL_law_501 (by decide) ?_
            refine lv_goto (tgt := 506) hx hb dL_law_502 (by decide) ?_
            refine lMi F J (c_X8_know l wM gM vM 0 x107 (1 : Int32) F.2.2.1.2.1 J.2.2.2.2 hoM ) (cwV 2 F.1.2.2.2.2 (gWs (C := "StarWalkModel") mw_5_166 mw_5_167 mw_5_168 mw_1_9 mw_5_169) rfl rfl rfl (by decide +kernel) ⟨by decide, by decide⟩) hoM.1.1 ((ce_o hoM.1.2).trans rfl) rfl rfl hl.1 rfl (Nat.le_of_ble_eq_true rfl) dL_law_506 ⟨Nat.le_refl _, Nat.le_refl _⟩ (fun r127 u128 H lo hp hJ => ?_)
            obtain ⟨hwM, exM, frM⟩ := hp
            have J : Lw wC wM gC gM s.heap u121 u128 H lo := ⟨hJ.1, hJ.2.1, hJ.2.2, J.2.2.2.1, hwM.1⟩
            clear hJ
            have hS := sim_know hR exC exM
            have hEq := hS.1
            replace hR := hS.2
            refine lv_pop hx hb dL_law_509 rfl ?_
            refine lv_goto (tgt := 1280) hx hb dL_law_510 (by decide) ?_
            exact BK _ _ _ _ J hR ls (lv_sub hl [0, 1, 2, 3] rfl)
      by_cases k11 : x4.toInt = 11
      ·
        refine lv_tableIn hx hb dL_law_32 (by omega) (by omega) (by rw [k11]; rfl) (tgt := 513) (by decide) ?_
        refine lv_aload_n hx hb dL_law_513 rfl (lv_at hl 1 rfl) ?_
        refine lv_aload_n hx hb dL_law_514 rfl (lv_at hl 0 rfl) ?_
        refine lv_iload_n hx hb dL_law_515 rfl (lv_at hl 3 rfl) ?_
        refine lv_iconst (v := 1) hx hb dL_law_516 (by decide) ?_
        refine lv_iadd hx hb dL_law_517 ?_
        refine lv_topi (fun x129 ex129 => ?_)
        have hx129 : x129.toInt = x3.toInt + 1 := by rw [ex129]; exact adI (a := x3.toInt) (b := 1) rfl rfl (by omega) (by omega)
        refine va_sld hx hb hX hbl hbA J.2.2.1 (vp_in_iff.mpr (by omega)) dL_law_518 ?_
        refine lv_topi (fun x130 ex130 => ?_)
        refine lv_aload_n hx hb dL_law_519 rfl (lv_at hl 0 rfl) ?_
        refine lv_iload_n hx hb dL_law_520 rfl (lv_at hl 3 rfl) ?_
        refine lv_iconst (v := 2) hx hb dL_law_521 (by decide) ?_
        refine lv_iadd hx hb dL_law_522 ?_
        refine lv_topi (fun x131 ex131 => ?_)
        have hx131 : x131.toInt = x3.toInt + 2 := by rw [ex131]; exact adI (a := x3.toInt) (b := 2) rfl rfl (by omega) (by omega)
        refine va_sld hx hb hX hbl hbA J.2.2.1 (vp_in_iff.mpr (by omega)) dL_law_523 ?_
        refine lv_topi (fun x132 ex132 => ?_)
        refine lCi F J (c_X7_turn l wC gC vC 0 x130 x132 F.2.1.2.1 J.2.2.2.1 hoC ) (cwV 2 F.1.2.2.2.2 (gWs (C := "StarWalk") mw_3_130 mw_3_131 mw_3_132 mw_1_1 mw_3_133) rfl rfl rfl (by decide +kernel) ⟨by decide, by decide⟩) hoC.1.1 ((ce_o hoC.1.2).trans rfl) rfl rfl hl.1 rfl (Nat.le_of_ble_eq_true rfl) dL_law_524 ⟨Nat.le_refl _, Nat.le_refl _⟩ (fun r133 u134 H lo hp hJ => ?_)
        obtain ⟨hwC, exC, frC⟩ := hp
        have J : Lw wC wM gC gM s.heap u134 vM H lo := ⟨hJ.1, hJ.2.1, hJ.2.2, hwC.1, J.2.2.2.2⟩
        clear hJ
        refine lv_pop hx hb dL_law_527 rfl ?_
        refine lv_aload_n hx hb dL_law_528 rfl (lv_at hl 2 rfl) ?_
        refine lv_aload_n hx hb dL_law_529 rfl (lv_at hl 0 rfl) ?_
        refine lv_iload_n hx hb dL_law_530 rfl (lv_at hl 3 rfl) ?_
        refine lv_iconst (v := 1) hx hb dL_law_531 (by decide) ?_
        refine lv_iadd hx hb dL_law_532 ?_
        refine lv_topi (fun x135 ex135 => ?_)
        obtain rfl : x129 = x135 := ex129.trans ex135.symm
        refine va_sld hx hb hX hbl hbA J.2.2.1 (vp_in_iff.mpr (by omega)) dL_law_533 ?_
        refine lv_topi (fun x136 ex136 => ?_)
        obtain rfl : x130 = x136 := ex130.trans ex136.symm
        refine lv_aload_n hx hb dL_law_534 rfl (lv_at hl 0 rfl) ?_
        refine lv_iload_n hx hb dL_law_535 rfl (lv_at hl 3 rfl) ?_
        refine lv_iconst (v := 2) hx hb dL_law_536 (by decide) ?_
        refine lv_iadd hx hb dL_law_537 ?_
        refine lv_topi (fun x137 ex137 => ?_)
        obtain rfl : x131 = x137 := ex131.trans ex137.symm
        refine va_sld hx hb hX hbl hbA J.2.2.1 (vp_in_iff.mpr (by omega)) dL_law_538 ?_
        refine lv_topi (fun x138 ex138 => ?_)
        obtain rfl : x132 = x138 := ex132.trans ex138.symm
        refine lMi F J (c_X8_turn l wM gM vM 0 x130 x132 F.2.2.1.2.1 J.2.2.2.2 hoM ) (cwV 2 F.1.2.2.2.2 (gWs (C := "StarWalkModel") mw_5_170 mw_5_171 mw_5_172 mw_1_9 mw_5_173) rfl rfl rfl (by decide +kernel) ⟨by decide, by decide⟩) hoM.1.1 ((ce_o hoM.1.2).trans rfl) rfl rfl hl.1 rfl (Nat.le_of_ble_eq_true rfl) dL_law_539 ⟨Nat.le_refl _, Nat.le_refl _⟩ (fun r139 u140 H lo hp hJ => ?_)
        obtain ⟨hwM, exM, frM⟩ := hp
        have J : Lw wC wM gC gM s.heap u134 u140 H lo := ⟨hJ.1, hJ.2.1, hJ.2.2, J.2.2.2.1, hwM.1⟩
        clear hJ
        have hS := sim_turn hR exC exM
        have hEq := hS.1
        replace hR := hS.2
        refine lv_pop hx hb dL_law_542 rfl ?_
        refine lv_goto (tgt := 1280) hx hb dL_law_543 (by decide) ?_
        exact BK _ _ _ _ J hR ls (lv_sub hl [0, 1, 2, 3] rfl)
      by_cases k12 : x4.toInt = 12
      ·
        refine lv_tableIn hx hb dL_law_32 (by omega) (by omega) (by rw [k12]; rfl) (tgt := 546) (by decide) ?_
        refine lv_aload_n hx hb dL_law_546 rfl (lv_at hl 1 rfl) ?_
        refine lv_aload_n hx hb dL_law_547 rfl (lv_at hl 0 rfl) ?_
        refine lv_iload_n hx hb dL_law_548 rfl (lv_at hl 3 rfl) ?_
        refine lv_iconst (v := 1) hx hb dL_law_549 (by decide) ?_
        refine lv_iadd hx hb dL_law_550 ?_
        refine lv_topi (fun x141 ex141 => ?_)
        have hx141 : x141.toInt = x3.toInt + 1 := by rw [ex141]; exact adI (a := x3.toInt) (b := 1) rfl rfl (by omega) (by omega)
        refine va_sld hx hb hX hbl hbA J.2.2.1 (vp_in_iff.mpr (by omega)) dL_law_551 ?_
        refine lv_topi (fun x142 ex142 => ?_)
        refine lv_aload_n hx hb dL_law_552 rfl (lv_at hl 0 rfl) ?_
        refine lv_iload_n hx hb dL_law_553 rfl (lv_at hl 3 rfl) ?_
        refine lv_iconst (v := 2) hx hb dL_law_554 (by decide) ?_
        refine lv_iadd hx hb dL_law_555 ?_
        refine lv_topi (fun x143 ex143 => ?_)
        have hx143 : x143.toInt = x3.toInt + 2 := by rw [ex143]; exact adI (a := x3.toInt) (b := 2) rfl rfl (by omega) (by omega)
        refine va_sld hx hb hX hbl hbA J.2.2.1 (vp_in_iff.mpr (by omega)) dL_law_556 ?_
        refine lv_topi (fun x144 ex144 => ?_)
        refine lCi F J (c_X7_teach l wC gC vC 0 x142 x144 F.2.1.2.1 J.2.2.2.1 hoC ) (cwV 2 F.1.2.2.2.2 (gWs (C := "StarWalk") mw_3_134 mw_3_135 mw_3_136 mw_1_1 mw_3_137) rfl rfl rfl (by decide +kernel) ⟨by decide, by decide⟩) hoC.1.1 ((ce_o hoC.1.2).trans rfl) rfl rfl hl.1 rfl (Nat.le_of_ble_eq_true rfl) dL_law_557 ⟨Nat.le_refl _, Nat.le_refl _⟩ (fun r145 u146 H lo hp hJ => ?_)
        obtain ⟨hwC, exC, frC⟩ := hp
        have J : Lw wC wM gC gM s.heap u146 vM H lo := ⟨hJ.1, hJ.2.1, hJ.2.2, hwC.1, J.2.2.2.2⟩
        clear hJ
        refine lv_pop hx hb dL_law_560 rfl ?_
        refine lv_aload_n hx hb dL_law_561 rfl (lv_at hl 2 rfl) ?_
        refine lv_aload_n hx hb dL_law_562 rfl (lv_at hl 0 rfl) ?_
        refine lv_iload_n hx hb dL_law_563 rfl (lv_at hl 3 rfl) ?_
        refine lv_iconst (v := 1) hx hb dL_law_564 (by decide) ?_
        refine lv_iadd hx hb dL_law_565 ?_
        refine lv_topi (fun x147 ex147 => ?_)
        obtain rfl : x141 = x147 := ex141.trans ex147.symm
        refine va_sld hx hb hX hbl hbA J.2.2.1 (vp_in_iff.mpr (by omega)) dL_law_566 ?_
        refine lv_topi (fun x148 ex148 => ?_)
        obtain rfl : x142 = x148 := ex142.trans ex148.symm
        refine lv_aload_n hx hb dL_law_567 rfl (lv_at hl 0 rfl) ?_
        refine lv_iload_n hx hb dL_law_568 rfl (lv_at hl 3 rfl) ?_
        refine lv_iconst (v := 2) hx hb dL_law_569 (by decide) ?_
        refine lv_iadd hx hb dL_law_570 ?_
        refine lv_topi (fun x149 ex149 => ?_)
        obtain rfl : x143 = x149 := ex143.trans ex149.symm
        refine va_sld hx hb hX hbl hbA J.2.2.1 (vp_in_iff.mpr (by omega)) dL_law_571 ?_
        refine lv_topi (fun x150 ex150 => ?_)
        obtain rfl : x144 = x150 := ex144.trans ex150.symm
        refine lMi F J (c_X8_teach l wM gM vM 0 x142 x144 F.2.2.1.2.1 J.2.2.2.2 hoM ) (cwV 2 F.1.2.2.2.2 (gWs (C := "StarWalkModel") mw_5_175 mw_5_176 mw_5_177 mw_1_9 mw_5_178) rfl rfl rfl (by decide +kernel) ⟨by decide, by decide⟩) hoM.1.1 ((ce_o hoM.1.2).trans rfl) rfl rfl hl.1 rfl (Nat.le_of_ble_eq_true rfl) dL_law_572 ⟨Nat.le_refl _, Nat.le_refl _⟩ (fun r151 u152 H lo hp hJ => ?_)
        obtain ⟨hwM, exM, frM⟩ := hp
        have J : Lw wC wM gC gM s.heap u146 u152 H lo := ⟨hJ.1, hJ.2.1, hJ.2.2, J.2.2.2.1, hwM.1⟩
        clear hJ
        have hS := sim_teach hR exC exM
        have hEq := hS.1
        replace hR := hS.2
        refine lv_pop hx hb dL_law_575 rfl ?_
        refine lv_goto (tgt := 1280) hx hb dL_law_576 (by decide) ?_
        exact BK _ _ _ _ J hR ls (lv_sub hl [0, 1, 2, 3] rfl)
      by_cases k13 : x4.toInt = 13
      ·
        refine lv_tableIn hx hb dL_law_32 (by omega) (by omega) (by rw [k13]; rfl) (tgt := 579) (by decide) ?_
        refine lv_aload_n hx hb dL_law_579 rfl (lv_at hl 1 rfl) ?_
        refine lv_aload_n hx hb dL_law_580 rfl (lv_at hl 0 rfl) ?_
        refine lv_iload_n hx hb dL_law_581 rfl (lv_at hl 3 rfl) ?_
        refine lv_iconst (v := 1) hx hb dL_law_582 (by decide) ?_
        refine lv_iadd hx hb dL_law_583 ?_
        refine lv_topi (fun x153 ex153 => ?_)
        have hx153 : x153.toInt = x3.toInt + 1 := by rw [ex153]; exact adI (a := x3.toInt) (b := 1) rfl rfl (by omega) (by omega)
        refine va_sld hx hb hX hbl hbA J.2.2.1 (vp_in_iff.mpr (by omega)) dL_law_584 ?_
        refine lv_topi (fun x154 ex154 => ?_)
        refine lCi F J (c_X7_plans l wC gC vC 0 x154 F.2.1.2.1 J.2.2.2.1 hoC ) (cwV 1 F.1.2.2.2.2 (gWs (C := "StarWalk") mw_3_138 mw_3_139 mw_3_140 mw_1_1 mw_3_141) rfl rfl rfl (by decide +kernel) ⟨by decide, by decide⟩) hoC.1.1 ((ce_o hoC.1.2).trans rfl) rfl rfl hl.1 rfl (Nat.le_of_ble_eq_true rfl) dL_law_585 ⟨Nat.le_refl _, Nat.le_refl _⟩ (fun r155 u156 H lo hp hJ => ?_)
        obtain ⟨hwC, exC, frC⟩ := hp
        have J : Lw wC wM gC gM s.heap u156 vM H lo := ⟨hJ.1, hJ.2.1, hJ.2.2, hwC.1, J.2.2.2.2⟩
        clear hJ
        refine lv_pop hx hb dL_law_588 rfl ?_
        refine lv_aload_n hx hb dL_law_589 rfl (lv_at hl 2 rfl) ?_
        refine lv_aload_n hx hb dL_law_590 rfl (lv_at hl 0 rfl) ?_
        refine lv_iload_n hx hb dL_law_591 rfl (lv_at hl 3 rfl) ?_
        refine lv_iconst (v := 1) hx hb dL_law_592 (by decide) ?_
        refine lv_iadd hx hb dL_law_593 ?_
        refine lv_topi (fun x157 ex157 => ?_)
        obtain rfl : x153 = x157 := ex153.trans ex157.symm
        refine va_sld hx hb hX hbl hbA J.2.2.1 (vp_in_iff.mpr (by omega)) dL_law_594 ?_
        refine lv_topi (fun x158 ex158 => ?_)
        obtain rfl : x154 = x158 := ex154.trans ex158.symm
        refine lMi F J (c_X8_plans l wM gM vM 0 x154 F.2.2.1.2.1 J.2.2.2.2 hoM ) (cwV 1 F.1.2.2.2.2 (gWs (C := "StarWalkModel") mw_5_179 mw_5_180 mw_5_181 mw_1_9 mw_5_182) rfl rfl rfl (by decide +kernel) ⟨by decide, by decide⟩) hoM.1.1 ((ce_o hoM.1.2).trans rfl) rfl rfl hl.1 rfl (Nat.le_of_ble_eq_true rfl) dL_law_595 ⟨Nat.le_refl _, Nat.le_refl _⟩ (fun r159 u160 H lo hp hJ => ?_)
        obtain ⟨hwM, exM, frM⟩ := hp
        have J : Lw wC wM gC gM s.heap u156 u160 H lo := ⟨hJ.1, hJ.2.1, hJ.2.2, J.2.2.2.1, hwM.1⟩
        clear hJ
        have hS := sim_plans hR exC exM
        have hEq := hS.1
        replace hR := hS.2
        refine lv_pop hx hb dL_law_598 rfl ?_
        refine lv_goto (tgt := 1280) hx hb dL_law_599 (by decide) ?_
        exact BK _ _ _ _ J hR ls (lv_sub hl [0, 1, 2, 3] rfl)
      by_cases k14 : x4.toInt = 14
      ·
        refine lv_tableIn hx hb dL_law_32 (by omega) (by omega) (by rw [k14]; rfl) (tgt := 602) (by decide) ?_
        refine lv_aload_n hx hb dL_law_602 rfl (lv_at hl 1 rfl) ?_
        refine lv_aload_n hx hb dL_law_603 rfl (lv_at hl 0 rfl) ?_
        refine lv_iload_n hx hb dL_law_604 rfl (lv_at hl 3 rfl) ?_
        refine lv_iconst (v := 1) hx hb dL_law_605 (by decide) ?_
        refine lv_iadd hx hb dL_law_606 ?_
        refine lv_topi (fun x161 ex161 => ?_)
        have hx161 : x161.toInt = x3.toInt + 1 := by rw [ex161]; exact adI (a := x3.toInt) (b := 1) rfl rfl (by omega) (by omega)
        refine va_sld hx hb hX hbl hbA J.2.2.1 (vp_in_iff.mpr (by omega)) dL_law_607 ?_
        refine lv_topi (fun x162 ex162 => ?_)
        refine lCi F J (c_X7_cut l wC gC vC 0 x162 F.2.1.2.1 J.2.2.2.1 hoC ) (cwV 1 F.1.2.2.2.2 (gWs (C := "StarWalk") mw_3_144 mw_3_145 mw_3_146 mw_1_1 mw_3_147) rfl rfl rfl (by decide +kernel) ⟨by decide, by decide⟩) hoC.1.1 ((ce_o hoC.1.2).trans rfl) rfl rfl hl.1 rfl (Nat.le_of_ble_eq_true rfl) dL_law_608 ⟨Nat.le_refl _, Nat.le_refl _⟩ (fun r163 u164 H lo hp hJ => ?_)
        obtain ⟨hwC, exC, frC⟩ := hp
        have J : Lw wC wM gC gM s.heap u164 vM H lo := ⟨hJ.1, hJ.2.1, hJ.2.2, hwC.1, J.2.2.2.2⟩
        clear hJ
        refine lv_pop hx hb dL_law_611 rfl ?_
        refine lv_aload_n hx hb dL_law_612 rfl (lv_at hl 2 rfl) ?_
        refine lv_aload_n hx hb dL_law_613 rfl (lv_at hl 0 rfl) ?_
        refine lv_iload_n hx hb dL_law_614 rfl (lv_at hl 3 rfl) ?_
        refine lv_iconst (v := 1) hx hb dL_law_615 (by decide) ?_
        refine lv_iadd hx hb dL_law_616 ?_
        refine lv_topi (fun x165 ex165 => ?_)
        obtain rfl : x161 = x165 := ex161.trans ex165.symm
        refine va_sld hx hb hX hbl hbA J.2.2.1 (vp_in_iff.mpr (by omega)) dL_law_617 ?_
        refine lv_topi (fun x166 ex166 => ?_)
        obtain rfl : x162 = x166 := ex162.trans ex166.symm
        refine lMi F J (c_X8_cut l wM gM vM 0 x162 F.2.2.1.2.1 J.2.2.2.2 hoM ) (cwV 1 F.1.2.2.2.2 (gWs (C := "StarWalkModel") mw_5_188 mw_5_189 mw_5_190 mw_1_9 mw_5_191) rfl rfl rfl (by decide +kernel) ⟨by decide, by decide⟩) hoM.1.1 ((ce_o hoM.1.2).trans rfl) rfl rfl hl.1 rfl (Nat.le_of_ble_eq_true rfl) dL_law_618 ⟨Nat.le_refl _, Nat.le_refl _⟩ (fun r167 u168 H lo hp hJ => ?_)
        obtain ⟨hwM, exM, frM⟩ := hp
        have J : Lw wC wM gC gM s.heap u164 u168 H lo := ⟨hJ.1, hJ.2.1, hJ.2.2, J.2.2.2.1, hwM.1⟩
        clear hJ
        have hS := sim_cut hR exC exM
        have hEq := hS.1
        replace hR := hS.2
        refine lv_pop hx hb dL_law_621 rfl ?_
        refine lv_goto (tgt := 1280) hx hb dL_law_622 (by decide) ?_
        exact BK _ _ _ _ J hR ls (lv_sub hl [0, 1, 2, 3] rfl)
      by_cases k15 : x4.toInt = 15
      ·
        refine lv_tableIn hx hb dL_law_32 (by omega) (by omega) (by rw [k15]; rfl) (tgt := 625) (by decide) ?_
        refine lv_aload_n hx hb dL_law_625 rfl (lv_at hl 1 rfl) ?_
        refine lv_aload_n hx hb dL_law_626 rfl (lv_at hl 0 rfl) ?_
        refine lv_iload_n hx hb dL_law_627 rfl (lv_at hl 3 rfl) ?_
        refine lv_iconst (v := 1) hx hb dL_law_628 (by decide) ?_
        refine lv_iadd hx hb dL_law_629 ?_
        refine lv_topi (fun x169 ex169 => ?_)
        have hx169 : x169.toInt = x3.toInt + 1 := by rw [ex169]; exact adI (a := x3.toInt) (b := 1) rfl rfl (by omega) (by omega)
        refine va_sld hx hb hX hbl hbA J.2.2.1 (vp_in_iff.mpr (by omega)) dL_law_630 ?_
        refine lv_topi (fun x170 ex170 => ?_)
        refine lCi F J (c_X7_pull l wC gC vC 0 x170 F.2.1.2.1 J.2.2.2.1 hoC ) (cwV 1 F.1.2.2.2.2 (gWs (C := "StarWalk") mw_3_148 mw_3_149 mw_3_150 mw_1_1 mw_3_151) rfl rfl rfl (by decide +kernel) ⟨by decide, by decide⟩) hoC.1.1 ((ce_o hoC.1.2).trans rfl) rfl rfl hl.1 rfl (Nat.le_of_ble_eq_true rfl) dL_law_631 ⟨Nat.le_refl _, Nat.le_refl _⟩ (fun r171 u172 H lo hp hJ => ?_)
        obtain ⟨hwC, exC, frC⟩ := hp
        rw [hwC.1] at hJ
        have J : Lw wC wM gC gM s.heap vC vM H lo := ⟨hJ.1, hJ.2.1, hJ.2.2, J.2.2.2.1, J.2.2.2.2⟩
        clear hJ
        refine lv_pop hx hb dL_law_634 rfl ?_
        refine lv_aload_n hx hb dL_law_635 rfl (lv_at hl 2 rfl) ?_
        refine lv_aload_n hx hb dL_law_636 rfl (lv_at hl 0 rfl) ?_
        refine lv_iload_n hx hb dL_law_637 rfl (lv_at hl 3 rfl) ?_
        refine lv_iconst (v := 1) hx hb dL_law_638 (by decide) ?_
        refine lv_iadd hx hb dL_law_639 ?_
        refine lv_topi (fun x173 ex173 => ?_)
        obtain rfl : x169 = x173 := ex169.trans ex173.symm
        refine va_sld hx hb hX hbl hbA J.2.2.1 (vp_in_iff.mpr (by omega)) dL_law_640 ?_
        refine lv_topi (fun x174 ex174 => ?_)
        obtain rfl : x170 = x174 := ex170.trans ex174.symm
        refine lMi F J (c_X8_pull l wM gM vM 0 x170 F.2.2.1.2.1 J.2.2.2.2 hoM ) (cwV 1 F.1.2.2.2.2 (gWs (C := "StarWalkModel") mw_5_192 mw_5_193 mw_5_194 mw_1_9 mw_5_195) rfl rfl rfl (by decide +kernel) ⟨by decide, by decide⟩) hoM.1.1 ((ce_o hoM.1.2).trans rfl) rfl rfl hl.1 rfl (Nat.le_of_ble_eq_true rfl) dL_law_641 ⟨Nat.le_refl _, Nat.le_refl _⟩ (fun r175 u176 H lo hp hJ => ?_)
        obtain ⟨hwM, exM, frM⟩ := hp
        have J : Lw wC wM gC gM s.heap vC u176 H lo := ⟨hJ.1, hJ.2.1, hJ.2.2, J.2.2.2.1, hwM.1⟩
        clear hJ
        replace hR := hR.fr (fun _ _ _ => rfl) (fun a b z => frM a b (by omega))
        refine lv_pop hx hb dL_law_644 rfl ?_
        refine lv_goto (tgt := 1280) hx hb dL_law_645 (by decide) ?_
        exact BK _ _ _ _ J hR ls (lv_sub hl [0, 1, 2, 3] rfl)
      by_cases k16 : x4.toInt = 16
      ·
        refine lv_tableIn hx hb dL_law_32 (by omega) (by omega) (by rw [k16]; rfl) (tgt := 648) (by decide) ?_
        refine lv_aload_n hx hb dL_law_648 rfl (lv_at hl 1 rfl) ?_
        refine lv_aload_n hx hb dL_law_649 rfl (lv_at hl 0 rfl) ?_
        refine lv_iload_n hx hb dL_law_650 rfl (lv_at hl 3 rfl) ?_
        refine lv_iconst (v := 1) hx hb dL_law_651 (by decide) ?_
        refine lv_iadd hx hb dL_law_652 ?_
        refine lv_topi (fun x177 ex177 => ?_)
        have hx177 : x177.toInt = x3.toInt + 1 := by rw [ex177]; exact adI (a := x3.toInt) (b := 1) rfl rfl (by omega) (by omega)
        refine va_sld hx hb hX hbl hbA J.2.2.1 (vp_in_iff.mpr (by omega)) dL_law_653 ?_
        refine lv_topi (fun x178 ex178 => ?_)
        refine lCi F J (c_X7_up l wC gC vC 0 x178 F.2.1.2.1 J.2.2.2.1 hoC ) (cwV 1 F.1.2.2.2.2 (gWs (C := "StarWalk") mw_3_163 mw_3_164 mw_3_165 mw_1_1 mw_3_166) rfl rfl rfl (by decide +kernel) ⟨by decide, by decide⟩) hoC.1.1 ((ce_o hoC.1.2).trans rfl) rfl rfl hl.1 rfl (Nat.le_of_ble_eq_true rfl) dL_law_654 ⟨Nat.le_refl _, Nat.le_refl _⟩ (fun r179 u180 H lo hp hJ => ?_)
        obtain ⟨hwC, exC, frC⟩ := hp
        rw [hwC.1] at hJ
        have J : Lw wC wM gC gM s.heap vC vM H lo := ⟨hJ.1, hJ.2.1, hJ.2.2, J.2.2.2.1, J.2.2.2.2⟩
        clear hJ
        refine lv_pop hx hb dL_law_657 rfl ?_
        refine lv_aload_n hx hb dL_law_658 rfl (lv_at hl 2 rfl) ?_
        refine lv_aload_n hx hb dL_law_659 rfl (lv_at hl 0 rfl) ?_
        refine lv_iload_n hx hb dL_law_660 rfl (lv_at hl 3 rfl) ?_
        refine lv_iconst (v := 1) hx hb dL_law_661 (by decide) ?_
        refine lv_iadd hx hb dL_law_662 ?_
        refine lv_topi (fun x181 ex181 => ?_)
        obtain rfl : x177 = x181 := ex177.trans ex181.symm
        refine va_sld hx hb hX hbl hbA J.2.2.1 (vp_in_iff.mpr (by omega)) dL_law_663 ?_
        refine lv_topi (fun x182 ex182 => ?_)
        obtain rfl : x178 = x182 := ex178.trans ex182.symm
        refine lMi F J (c_X8_up l wM gM vM 0 x178 F.2.2.1.2.1 J.2.2.2.2 hoM ) (cwV 1 F.1.2.2.2.2 (gWs (C := "StarWalkModel") mw_5_203 mw_5_204 mw_5_205 mw_1_9 mw_5_206) rfl rfl rfl (by decide +kernel) ⟨by decide, by decide⟩) hoM.1.1 ((ce_o hoM.1.2).trans rfl) rfl rfl hl.1 rfl (Nat.le_of_ble_eq_true rfl) dL_law_664 ⟨Nat.le_refl _, Nat.le_refl _⟩ (fun r183 u184 H lo hp hJ => ?_)
        obtain ⟨hwM, exM, frM⟩ := hp
        have J : Lw wC wM gC gM s.heap vC u184 H lo := ⟨hJ.1, hJ.2.1, hJ.2.2, J.2.2.2.1, hwM.1⟩
        clear hJ
        replace hR := hR.fr (fun _ _ _ => rfl) (fun a b z => frM a b (by omega))
        refine lv_pop hx hb dL_law_667 rfl ?_
        refine lv_goto (tgt := 1280) hx hb dL_law_668 (by decide) ?_
        exact BK _ _ _ _ J hR ls (lv_sub hl [0, 1, 2, 3] rfl)
      by_cases k17 : x4.toInt = 17
      ·
        refine lv_tableIn hx hb dL_law_32 (by omega) (by omega) (by rw [k17]; rfl) (tgt := 671) (by decide) ?_
        refine lv_aload_n hx hb dL_law_671 rfl (lv_at hl 1 rfl) ?_
        refine lv_aload_n hx hb dL_law_672 rfl (lv_at hl 0 rfl) ?_
        refine lv_iload_n hx hb dL_law_673 rfl (lv_at hl 3 rfl) ?_
        refine lv_iconst (v := 1) hx hb dL_law_674 (by decide) ?_
        refine lv_iadd hx hb dL_law_675 ?_
        refine lv_topi (fun x185 ex185 => ?_)
        have hx185 : x185.toInt = x3.toInt + 1 := by rw [ex185]; exact adI (a := x3.toInt) (b := 1) rfl rfl (by omega) (by omega)
        refine va_sld hx hb hX hbl hbA J.2.2.1 (vp_in_iff.mpr (by omega)) dL_law_676 ?_
        refine lv_topi (fun x186 ex186 => ?_)
        refine lCi F J (c_X7_go l wC gC vC 0 x186 F.2.1.2.1 J.2.2.2.1 hoC ) (cwV 1 F.1.2.2.2.2 (gWs (C := "StarWalk") mw_3_172 mw_3_173 mw_3_174 mw_1_1 mw_3_175) rfl rfl rfl (by decide +kernel) ⟨by decide, by decide⟩) hoC.1.1 ((ce_o hoC.1.2).trans rfl) rfl rfl hl.1 rfl (Nat.le_of_ble_eq_true rfl) dL_law_677 ⟨Nat.le_refl _, Nat.le_refl _⟩ (fun r187 u188 H lo hp hJ => ?_)
        obtain ⟨hwC, exC, frC⟩ := hp
        have J : Lw wC wM gC gM s.heap u188 vM H lo := ⟨hJ.1, hJ.2.1, hJ.2.2, hwC.1, J.2.2.2.2⟩
        clear hJ
        refine lv_pop hx hb dL_law_680 rfl ?_
        refine lv_aload_n hx hb dL_law_681 rfl (lv_at hl 2 rfl) ?_
        refine lv_aload_n hx hb dL_law_682 rfl (lv_at hl 0 rfl) ?_
        refine lv_iload_n hx hb dL_law_683 rfl (lv_at hl 3 rfl) ?_
        refine lv_iconst (v := 1) hx hb dL_law_684 (by decide) ?_
        refine lv_iadd hx hb dL_law_685 ?_
        refine lv_topi (fun x189 ex189 => ?_)
        obtain rfl : x185 = x189 := ex185.trans ex189.symm
        refine va_sld hx hb hX hbl hbA J.2.2.1 (vp_in_iff.mpr (by omega)) dL_law_686 ?_
        refine lv_topi (fun x190 ex190 => ?_)
        obtain rfl : x186 = x190 := ex186.trans ex190.symm
        refine lMi F J (c_X8_go l wM gM vM 0 x186 F.2.2.1.2.1 J.2.2.2.2 hoM ) (cwV 1 F.1.2.2.2.2 (gWs (C := "StarWalkModel") mw_5_211 mw_5_212 mw_5_213 mw_1_9 mw_5_214) rfl rfl rfl (by decide +kernel) ⟨by decide, by decide⟩) hoM.1.1 ((ce_o hoM.1.2).trans rfl) rfl rfl hl.1 rfl (Nat.le_of_ble_eq_true rfl) dL_law_687 ⟨Nat.le_refl _, Nat.le_refl _⟩ (fun r191 u192 H lo hp hJ => ?_)
        obtain ⟨hwM, exM, frM⟩ := hp
        have J : Lw wC wM gC gM s.heap u188 u192 H lo := ⟨hJ.1, hJ.2.1, hJ.2.2, J.2.2.2.1, hwM.1⟩
        clear hJ
        have hS := sim_go hR exC exM
        have hEq := hS.1
        replace hR := hS.2
        refine lv_pop hx hb dL_law_690 rfl ?_
        refine lv_goto (tgt := 1280) hx hb dL_law_691 (by decide) ?_
        exact BK _ _ _ _ J hR ls (lv_sub hl [0, 1, 2, 3] rfl)
      by_cases k18 : x4.toInt = 18
      ·
        refine lv_tableIn hx hb dL_law_32 (by omega) (by omega) (by rw [k18]; rfl) (tgt := 694) (by decide) ?_
        refine lv_aload_n hx hb dL_law_694 rfl (lv_at hl 1 rfl) ?_
        refine lv_aload_n hx hb dL_law_695 rfl (lv_at hl 0 rfl) ?_
        refine lv_iload_n hx hb dL_law_696 rfl (lv_at hl 3 rfl) ?_
        refine lv_iconst (v := 1) hx hb dL_law_697 (by decide) ?_
        refine lv_iadd hx hb dL_law_698 ?_
        refine lv_topi (fun x193 ex193 => ?_)
        have hx193 : x193.toInt = x3.toInt + 1 := by rw [ex193]; exact adI (a := x3.toInt) (b := 1) rfl rfl (by omega) (by omega)
        refine va_sld hx hb hX hbl hbA J.2.2.1 (vp_in_iff.mpr (by omega)) dL_law_699 ?_
        refine lv_topi (fun x194 ex194 => ?_)
        refine lCi F J (c_X7_runs l wC gC vC 0 x194 F.2.1.2.1 J.2.2.2.1 hoC ) (cwV 1 F.1.2.2.2.2 (gWs (C := "StarWalk") mw_3_197 mw_3_198 mw_3_199 mw_1_1 mw_3_200) rfl rfl rfl (by decide +kernel) ⟨by decide, by decide⟩) hoC.1.1 ((ce_o hoC.1.2).trans rfl) rfl rfl hl.1 rfl (Nat.le_of_ble_eq_true rfl) dL_law_700 ⟨Nat.le_refl _, Nat.le_refl _⟩ (fun r195 u196 H lo hp hJ => ?_)
        obtain ⟨hwC, exC, frC⟩ := hp
        have J : Lw wC wM gC gM s.heap u196 vM H lo := ⟨hJ.1, hJ.2.1, hJ.2.2, hwC.1, J.2.2.2.2⟩
        clear hJ
        refine lv_pop hx hb dL_law_703 rfl ?_
        refine lv_aload_n hx hb dL_law_704 rfl (lv_at hl 2 rfl) ?_
        refine lv_aload_n hx hb dL_law_705 rfl (lv_at hl 0 rfl) ?_
        refine lv_iload_n hx hb dL_law_706 rfl (lv_at hl 3 rfl) ?_
        refine lv_iconst (v := 1) hx hb dL_law_707 (by decide) ?_
        refine lv_iadd hx hb dL_law_708 ?_
        refine lv_topi (fun x197 ex197 => ?_)
        obtain rfl : x193 = x197 := ex193.trans ex197.symm
        refine va_sld hx hb hX hbl hbA J.2.2.1 (vp_in_iff.mpr (by omega)) dL_law_709 ?_
        refine lv_topi (fun x198 ex198 => ?_)
        obtain rfl : x194 = x198 := ex194.trans ex198.symm
        refine lMi F J (c_X8_runs l wM gM vM 0 x194 F.2.2.1.2.1 J.2.2.2.2 hoM ) (cwV 1 F.1.2.2.2.2 (gWs (C := "StarWalkModel") mw_5_231 mw_5_232 mw_5_233 mw_1_9 mw_5_234) rfl rfl rfl (by decide +kernel) ⟨by decide, by decide⟩) hoM.1.1 ((ce_o hoM.1.2).trans rfl) rfl rfl hl.1 rfl (Nat.le_of_ble_eq_true rfl) dL_law_710 ⟨Nat.le_refl _, Nat.le_refl _⟩ (fun r199 u200 H lo hp hJ => ?_)
        obtain ⟨hwM, exM, frM⟩ := hp
        have J : Lw wC wM gC gM s.heap u196 u200 H lo := ⟨hJ.1, hJ.2.1, hJ.2.2, J.2.2.2.1, hwM.1⟩
        clear hJ
        replace hR := hR.fr (fun a b z => frC a b (by omega)) (fun a b z => frM a b (by omega))
        refine lv_pop hx hb dL_law_713 rfl ?_
        refine lv_goto (tgt := 1280) hx hb dL_law_714 (by decide) ?_
        exact BK _ _ _ _ J hR ls (lv_sub hl [0, 1, 2, 3] rfl)
      by_cases k19 : x4.toInt = 19
      ·
        refine lv_tableIn hx hb dL_law_32 (by omega) (by omega) (by rw [k19]; rfl) (tgt := 717) (by decide) ?_
        refine lv_aload_n hx hb dL_law_717 rfl (lv_at hl 1 rfl) ?_
        refine lCi F J (c_X7_next l wC gC vC 0  F.2.1.2.1 J.2.2.2.1 hoC ) (cwV 0 F.1.2.2.2.2 (gWs (C := "StarWalk") mw_3_213 mw_3_214 mw_3_215 mw_1_1 mw_3_216) rfl rfl rfl (by decide +kernel) ⟨by decide, by decide⟩) hoC.1.1 ((ce_o hoC.1.2).trans rfl) rfl rfl hl.1 rfl (Nat.le_of_ble_eq_true rfl) dL_law_718 ⟨Nat.le_refl _, Nat.le_refl _⟩ (fun r201 u202 H lo hp hJ => ?_)
        obtain ⟨hwC, exC, frC⟩ := hp
        have J : Lw wC wM gC gM s.heap u202 vM H lo := ⟨hJ.1, hJ.2.1, hJ.2.2, hwC.1, J.2.2.2.2⟩
        clear hJ
        refine lv_pop hx hb dL_law_721 rfl ?_
        refine lv_aload_n hx hb dL_law_722 rfl (lv_at hl 2 rfl) ?_
        refine lMi F J (c_X8_next l wM gM vM 0  F.2.2.1.2.1 J.2.2.2.2 hoM ) (cwV 0 F.1.2.2.2.2 (gWs (C := "StarWalkModel") mw_5_239 mw_6_0 mw_6_1 mw_1_9 mw_6_2) rfl rfl rfl (by decide +kernel) ⟨by decide, by decide⟩) hoM.1.1 ((ce_o hoM.1.2).trans rfl) rfl rfl hl.1 rfl (Nat.le_of_ble_eq_true rfl) dL_law_723 ⟨Nat.le_refl _, Nat.le_refl _⟩ (fun r203 u204 H lo hp hJ => ?_)
        obtain ⟨hwM, exM, frM⟩ := hp
        have J : Lw wC wM gC gM s.heap u202 u204 H lo := ⟨hJ.1, hJ.2.1, hJ.2.2, J.2.2.2.1, hwM.1⟩
        clear hJ
        replace hR := hR.fr (fun a b z => frC a b (by omega)) (fun a b z => frM a b (by omega))
        refine lv_pop hx hb dL_law_726 rfl ?_
        refine lv_goto (tgt := 1280) hx hb dL_law_727 (by decide) ?_
        exact BK _ _ _ _ J hR ls (lv_sub hl [0, 1, 2, 3] rfl)
      by_cases k20 : x4.toInt = 20
      ·
        refine lv_tableIn hx hb dL_law_32 (by omega) (by omega) (by rw [k20]; rfl) (tgt := 730) (by decide) ?_
        refine lv_aload_n hx hb dL_law_730 rfl (lv_at hl 1 rfl) ?_
        refine lv_aload_n hx hb dL_law_731 rfl (lv_at hl 0 rfl) ?_
        refine lv_iload_n hx hb dL_law_732 rfl (lv_at hl 3 rfl) ?_
        refine lv_iconst (v := 1) hx hb dL_law_733 (by decide) ?_
        refine lv_iadd hx hb dL_law_734 ?_
        refine lv_topi (fun x205 ex205 => ?_)
        have hx205 : x205.toInt = x3.toInt + 1 := by rw [ex205]; exact adI (a := x3.toInt) (b := 1) rfl rfl (by omega) (by omega)
        refine va_sld hx hb hX hbl hbA J.2.2.1 (vp_in_iff.mpr (by omega)) dL_law_735 ?_
        refine lv_topi (fun x206 ex206 => ?_)
        refine lv_aload_n hx hb dL_law_736 rfl (lv_at hl 0 rfl) ?_
        refine lv_iload_n hx hb dL_law_737 rfl (lv_at hl 3 rfl) ?_
        refine lv_iconst (v := 2) hx hb dL_law_738 (by decide) ?_
        refine lv_iadd hx hb dL_law_739 ?_
        refine lv_topi (fun x207 ex207 => ?_)
        have hx207 : x207.toInt = x3.toInt + 2 := by rw [ex207]; exact adI (a := x3.toInt) (b := 2) rfl rfl (by omega) (by omega)
        refine va_sld hx hb hX hbl hbA J.2.2.1 (vp_in_iff.mpr (by omega)) dL_law_740 ?_
        refine lv_topi (fun x208 ex208 => ?_)
        refine lCi F J (c_X7_best l wC gC vC 0 x206 x208 F.2.1.2.1 J.2.2.2.1 hoC ) (cwV 2 F.1.2.2.2.2 (gWs (C := "StarWalk") mw_3_224 mw_3_225 mw_3_226 mw_1_1 mw_3_227) rfl rfl rfl (by decide +kernel) ⟨by decide, by decide⟩) hoC.1.1 ((ce_o hoC.1.2).trans rfl) rfl rfl hl.1 rfl (Nat.le_of_ble_eq_true rfl) dL_law_741 ⟨Nat.le_refl _, Nat.le_refl _⟩ (fun r209 u210 H lo hp hJ => ?_)
        obtain ⟨hwC, exC, frC⟩ := hp
        have J : Lw wC wM gC gM s.heap u210 vM H lo := ⟨hJ.1, hJ.2.1, hJ.2.2, hwC.1, J.2.2.2.2⟩
        clear hJ
        refine lv_pop hx hb dL_law_744 rfl ?_
        refine lv_aload_n hx hb dL_law_745 rfl (lv_at hl 2 rfl) ?_
        refine lv_aload_n hx hb dL_law_746 rfl (lv_at hl 0 rfl) ?_
        refine lv_iload_n hx hb dL_law_747 rfl (lv_at hl 3 rfl) ?_
        refine lv_iconst (v := 1) hx hb dL_law_748 (by decide) ?_
        refine lv_iadd hx hb dL_law_749 ?_
        refine lv_topi (fun x211 ex211 => ?_)
        obtain rfl : x205 = x211 := ex205.trans ex211.symm
        refine va_sld hx hb hX hbl hbA J.2.2.1 (vp_in_iff.mpr (by omega)) dL_law_750 ?_
        refine lv_topi (fun x212 ex212 => ?_)
        obtain rfl : x206 = x212 := ex206.trans ex212.symm
        refine lv_aload_n hx hb dL_law_751 rfl (lv_at hl 0 rfl) ?_
        refine lv_iload_n hx hb dL_law_752 rfl (lv_at hl 3 rfl) ?_
        refine lv_iconst (v := 2) hx hb dL_law_753 (by decide) ?_
        refine lv_iadd hx hb dL_law_754 ?_
        refine lv_topi (fun x213 ex213 => ?_)
        obtain rfl : x207 = x213 := ex207.trans ex213.symm
        refine va_sld hx hb hX hbl hbA J.2.2.1 (vp_in_iff.mpr (by omega)) dL_law_755 ?_
        refine lv_topi (fun x214 ex214 => ?_)
        obtain rfl : x208 = x214 := ex208.trans ex214.symm
        refine lMi F J (c_X8_best l wM gM vM 0 x206 x208 F.2.2.1.2.1 J.2.2.2.2 hoM ) (cwV 2 F.1.2.2.2.2 (gWs (C := "StarWalkModel") mw_6_8 mw_6_9 mw_6_10 mw_1_9 mw_6_11) rfl rfl rfl (by decide +kernel) ⟨by decide, by decide⟩) hoM.1.1 ((ce_o hoM.1.2).trans rfl) rfl rfl hl.1 rfl (Nat.le_of_ble_eq_true rfl) dL_law_756 ⟨Nat.le_refl _, Nat.le_refl _⟩ (fun r215 u216 H lo hp hJ => ?_)
        obtain ⟨hwM, exM, frM⟩ := hp
        have J : Lw wC wM gC gM s.heap u210 u216 H lo := ⟨hJ.1, hJ.2.1, hJ.2.2, J.2.2.2.1, hwM.1⟩
        clear hJ
        replace hR := hR.fr (fun a b z => frC a b (by omega)) (fun a b z => frM a b (by omega))
        refine lv_pop hx hb dL_law_759 rfl ?_
        refine lv_goto (tgt := 1280) hx hb dL_law_760 (by decide) ?_
        exact BK _ _ _ _ J hR ls (lv_sub hl [0, 1, 2, 3] rfl)
      by_cases k21 : x4.toInt = 21
      ·
        refine lv_tableIn hx hb dL_law_32 (by omega) (by omega) (by rw [k21]; rfl) (tgt := 763) (by decide) ?_
        refine lv_aload_n hx hb dL_law_763 rfl (lv_at hl 1 rfl) ?_
        refine lv_aload_n hx hb dL_law_764 rfl (lv_at hl 0 rfl) ?_
        refine lv_iload_n hx hb dL_law_765 rfl (lv_at hl 3 rfl) ?_
        refine lv_iconst (v := 1) hx hb dL_law_766 (by decide) ?_
        refine lv_iadd hx hb dL_law_767 ?_
        refine lv_topi (fun x217 ex217 => ?_)
        have hx217 : x217.toInt = x3.toInt + 1 := by rw [ex217]; exact adI (a := x3.toInt) (b := 1) rfl rfl (by omega) (by omega)
        refine va_sld hx hb hX hbl hbA J.2.2.1 (vp_in_iff.mpr (by omega)) dL_law_768 ?_
        refine lv_topi (fun x218 ex218 => ?_)
        refine lCi F J (c_X7_front l wC gC vC 0 x218 F.2.1.2.1 J.2.2.2.1 hoC ) (cwV 1 F.1.2.2.2.2 (gWs (C := "StarWalk") mw_4_5 mw_4_6 mw_4_7 mw_1_1 mw_4_8) rfl rfl rfl (by decide +kernel) ⟨by decide, by decide⟩) hoC.1.1 ((ce_o hoC.1.2).trans rfl) rfl rfl hl.1 rfl (Nat.le_of_ble_eq_true rfl) dL_law_769 ⟨Nat.le_refl _, Nat.le_refl _⟩ (fun r219 u220 H lo hp hJ => ?_)
        obtain ⟨hwC, exC, frC⟩ := hp
        have J : Lw wC wM gC gM s.heap u220 vM H lo := ⟨hJ.1, hJ.2.1, hJ.2.2, hwC.1, J.2.2.2.2⟩
        clear hJ
        refine lv_pop hx hb dL_law_772 rfl ?_
        refine lv_aload_n hx hb dL_law_773 rfl (lv_at hl 2 rfl) ?_
        refine lv_aload_n hx hb dL_law_774 rfl (lv_at hl 0 rfl) ?_
        refine lv_iload_n hx hb dL_law_775 rfl (lv_at hl 3 rfl) ?_
        refine lv_iconst (v := 1) hx hb dL_law_776 (by decide) ?_
        refine lv_iadd hx hb dL_law_777 ?_
        refine lv_topi (fun x221 ex221 => ?_)
        obtain rfl : x217 = x221 := ex217.trans ex221.symm
        refine va_sld hx hb hX hbl hbA J.2.2.1 (vp_in_iff.mpr (by omega)) dL_law_778 ?_
        refine lv_topi (fun x222 ex222 => ?_)
        obtain rfl : x218 = x222 := ex218.trans ex222.symm
        refine lMi F J (c_X8_front l wM gM vM 0 x218 F.2.2.1.2.1 J.2.2.2.2 hoM ) (cwV 1 F.1.2.2.2.2 (gWs (C := "StarWalkModel") mw_6_26 mw_6_27 mw_6_28 mw_1_9 mw_6_29) rfl rfl rfl (by decide +kernel) ⟨by decide, by decide⟩) hoM.1.1 ((ce_o hoM.1.2).trans rfl) rfl rfl hl.1 rfl (Nat.le_of_ble_eq_true rfl) dL_law_779 ⟨Nat.le_refl _, Nat.le_refl _⟩ (fun r223 u224 H lo hp hJ => ?_)
        obtain ⟨hwM, exM, frM⟩ := hp
        have J : Lw wC wM gC gM s.heap u220 u224 H lo := ⟨hJ.1, hJ.2.1, hJ.2.2, J.2.2.2.1, hwM.1⟩
        clear hJ
        replace hR := hR.fr (fun a b z => frC a b (by omega)) (fun a b z => frM a b (by omega))
        refine lv_pop hx hb dL_law_782 rfl ?_
        refine lv_goto (tgt := 1280) hx hb dL_law_783 (by decide) ?_
        exact BK _ _ _ _ J hR ls (lv_sub hl [0, 1, 2, 3] rfl)
      by_cases k22 : x4.toInt = 22
      ·
        refine lv_tableIn hx hb dL_law_32 (by omega) (by omega) (by rw [k22]; rfl) (tgt := 786) (by decide) ?_
        refine lv_aload_n hx hb dL_law_786 rfl (lv_at hl 1 rfl) ?_
        refine lv_aload_n hx hb dL_law_787 rfl (lv_at hl 0 rfl) ?_
        refine lv_iload_n hx hb dL_law_788 rfl (lv_at hl 3 rfl) ?_
        refine lv_iconst (v := 1) hx hb dL_law_789 (by decide) ?_
        refine lv_iadd hx hb dL_law_790 ?_
        refine lv_topi (fun x225 ex225 => ?_)
        have hx225 : x225.toInt = x3.toInt + 1 := by rw [ex225]; exact adI (a := x3.toInt) (b := 1) rfl rfl (by omega) (by omega)
        refine va_sld hx hb hX hbl hbA J.2.2.1 (vp_in_iff.mpr (by omega)) dL_law_791 ?_
        refine lv_topi (fun x226 ex226 => ?_)
        refine lCi F J (c_X7_lessons l wC gC vC 0 x226 F.2.1.2.1 J.2.2.2.1 hoC ) (cwV 1 F.1.2.2.2.2 (gWs (C := "StarWalk") mw_4_13 mw_4_14 mw_4_15 mw_1_1 mw_4_16) rfl rfl rfl (by decide +kernel) ⟨by decide, by decide⟩) hoC.1.1 ((ce_o hoC.1.2).trans rfl) rfl rfl hl.1 rfl (Nat.le_of_ble_eq_true rfl) dL_law_792 ⟨Nat.le_refl _, Nat.le_refl _⟩ (fun r227 u228 H lo hp hJ => ?_)
        obtain ⟨hwC, exC, frC⟩ := hp
        have J : Lw wC wM gC gM s.heap u228 vM H lo := ⟨hJ.1, hJ.2.1, hJ.2.2, hwC.1, J.2.2.2.2⟩
        clear hJ
        refine lv_pop hx hb dL_law_795 rfl ?_
        refine lv_aload_n hx hb dL_law_796 rfl (lv_at hl 2 rfl) ?_
        refine lv_aload_n hx hb dL_law_797 rfl (lv_at hl 0 rfl) ?_
        refine lv_iload_n hx hb dL_law_798 rfl (lv_at hl 3 rfl) ?_
        refine lv_iconst (v := 1) hx hb dL_law_799 (by decide) ?_
        refine lv_iadd hx hb dL_law_800 ?_
        refine lv_topi (fun x229 ex229 => ?_)
        obtain rfl : x225 = x229 := ex225.trans ex229.symm
        refine va_sld hx hb hX hbl hbA J.2.2.1 (vp_in_iff.mpr (by omega)) dL_law_801 ?_
        refine lv_topi (fun x230 ex230 => ?_)
        obtain rfl : x226 = x230 := ex226.trans ex230.symm
        refine lMi F J (c_X8_lessons l wM gM vM 0 x226 F.2.2.1.2.1 J.2.2.2.2 hoM ) (cwV 1 F.1.2.2.2.2 (gWs (C := "StarWalkModel") mw_6_30 mw_6_31 mw_6_32 mw_1_9 mw_6_33) rfl rfl rfl (by decide +kernel) ⟨by decide, by decide⟩) hoM.1.1 ((ce_o hoM.1.2).trans rfl) rfl rfl hl.1 rfl (Nat.le_of_ble_eq_true rfl) dL_law_802 ⟨Nat.le_refl _, Nat.le_refl _⟩ (fun r231 u232 H lo hp hJ => ?_)
        obtain ⟨hwM, exM, frM⟩ := hp
        have J : Lw wC wM gC gM s.heap u228 u232 H lo := ⟨hJ.1, hJ.2.1, hJ.2.2, J.2.2.2.1, hwM.1⟩
        clear hJ
        replace hR := hR.fr (fun a b z => frC a b (by omega)) (fun a b z => frM a b (by omega))
        refine lv_pop hx hb dL_law_805 rfl ?_
        refine lv_goto (tgt := 1280) hx hb dL_law_806 (by decide) ?_
        exact BK _ _ _ _ J hR ls (lv_sub hl [0, 1, 2, 3] rfl)
      by_cases k23 : x4.toInt = 23
      ·
        refine lv_tableIn hx hb dL_law_32 (by omega) (by omega) (by rw [k23]; rfl) (tgt := 809) (by decide) ?_
        refine lv_aload_n hx hb dL_law_809 rfl (lv_at hl 1 rfl) ?_
        refine lCi F J (c_X7_thirst l wC gC vC 0  F.2.1.2.1 J.2.2.2.1 hoC ) (cwV 0 F.1.2.2.2.2 (gWs (C := "StarWalk") mw_4_28 mw_4_29 mw_4_30 mw_1_1 mw_4_31) rfl rfl rfl (by decide +kernel) ⟨by decide, by decide⟩) hoC.1.1 ((ce_o hoC.1.2).trans rfl) rfl rfl hl.1 rfl (Nat.le_of_ble_eq_true rfl) dL_law_810 ⟨Nat.le_refl _, Nat.le_refl _⟩ (fun r233 u234 H lo hp hJ => ?_)
        obtain ⟨hwC, exC, frC⟩ := hp
        have J : Lw wC wM gC gM s.heap u234 vM H lo := ⟨hJ.1, hJ.2.1, hJ.2.2, hwC.1, J.2.2.2.2⟩
        clear hJ
        refine lv_pop hx hb dL_law_813 rfl ?_
        refine lv_aload_n hx hb dL_law_814 rfl (lv_at hl 2 rfl) ?_
        refine lMi F J (c_X8_thirst l wM gM vM 0  F.2.2.1.2.1 J.2.2.2.2 hoM ) (cwV 0 F.1.2.2.2.2 (gWs (C := "StarWalkModel") mw_6_45 mw_6_46 mw_6_47 mw_1_9 mw_6_48) rfl rfl rfl (by decide +kernel) ⟨by decide, by decide⟩) hoM.1.1 ((ce_o hoM.1.2).trans rfl) rfl rfl hl.1 rfl (Nat.le_of_ble_eq_true rfl) dL_law_815 ⟨Nat.le_refl _, Nat.le_refl _⟩ (fun r235 u236 H lo hp hJ => ?_)
        obtain ⟨hwM, exM, frM⟩ := hp
        have J : Lw wC wM gC gM s.heap u234 u236 H lo := ⟨hJ.1, hJ.2.1, hJ.2.2, J.2.2.2.1, hwM.1⟩
        clear hJ
        replace hR := hR.fr (fun a b z => frC a b (by omega)) (fun a b z => frM a b (by omega))
        refine lv_pop hx hb dL_law_818 rfl ?_
        refine lv_goto (tgt := 1280) hx hb dL_law_819 (by decide) ?_
        exact BK _ _ _ _ J hR ls (lv_sub hl [0, 1, 2, 3] rfl)
      by_cases k24 : x4.toInt = 24
      ·
        refine lv_tableIn hx hb dL_law_32 (by omega) (by omega) (by rw [k24]; rfl) (tgt := 822) (by decide) ?_
        refine lv_aload_n hx hb dL_law_822 rfl (lv_at hl 1 rfl) ?_
        refine lCi F J (c_X7_weather l wC gC vC 0  F.2.1.2.1 J.2.2.2.1 hoC ) (cwV 0 F.1.2.2.2.2 (gWs (C := "StarWalk") mw_4_32 mw_4_33 mw_4_34 mw_1_1 mw_4_35) rfl rfl rfl (by decide +kernel) ⟨by decide, by decide⟩) hoC.1.1 ((ce_o hoC.1.2).trans rfl) rfl rfl hl.1 rfl (Nat.le_of_ble_eq_true rfl) dL_law_823 ⟨Nat.le_refl _, Nat.le_refl _⟩ (fun r237 u238 H lo hp hJ => ?_)
        obtain ⟨hwC, exC, frC⟩ := hp
        have J : Lw wC wM gC gM s.heap u238 vM H lo := ⟨hJ.1, hJ.2.1, hJ.2.2, hwC.1, J.2.2.2.2⟩
        clear hJ
        refine lv_pop hx hb dL_law_826 rfl ?_
        refine lv_aload_n hx hb dL_law_827 rfl (lv_at hl 2 rfl) ?_
        refine lMi F J (c_X8_weather l wM gM vM 0  F.2.2.1.2.1 J.2.2.2.2 hoM ) (cwV 0 F.1.2.2.2.2 (gWs (C := "StarWalkModel") mw_6_49 mw_6_50 mw_6_51 mw_1_9 mw_6_52) rfl rfl rfl (by decide +kernel) ⟨by decide, by decide⟩) hoM.1.1 ((ce_o hoM.1.2).trans rfl) rfl rfl hl.1 rfl (Nat.le_of_ble_eq_true rfl) dL_law_828 ⟨Nat.le_refl _, Nat.le_refl _⟩ (fun r239 u240 H lo hp hJ => ?_)
        obtain ⟨hwM, exM, frM⟩ := hp
        have J : Lw wC wM gC gM s.heap u238 u240 H lo := ⟨hJ.1, hJ.2.1, hJ.2.2, J.2.2.2.1, hwM.1⟩
        clear hJ
        replace hR := hR.fr (fun a b z => frC a b (by omega)) (fun a b z => frM a b (by omega))
        refine lv_pop hx hb dL_law_831 rfl ?_
        refine lv_goto (tgt := 1280) hx hb dL_law_832 (by decide) ?_
        exact BK _ _ _ _ J hR ls (lv_sub hl [0, 1, 2, 3] rfl)
      by_cases k25 : x4.toInt = 25
      ·
        refine lv_tableIn hx hb dL_law_32 (by omega) (by omega) (by rw [k25]; rfl) (tgt := 835) (by decide) ?_
        refine lv_aload_n hx hb dL_law_835 rfl (lv_at hl 1 rfl) ?_
        refine lv_aload_n hx hb dL_law_836 rfl (lv_at hl 0 rfl) ?_
        refine lv_iload_n hx hb dL_law_837 rfl (lv_at hl 3 rfl) ?_
        refine lv_iconst (v := 1) hx hb dL_law_838 (by decide) ?_
        refine lv_iadd hx hb dL_law_839 ?_
        refine lv_topi (fun x241 ex241 => ?_)
        have hx241 : x241.toInt = x3.toInt + 1 := by rw [ex241]; exact adI (a := x3.toInt) (b := 1) rfl rfl (by omega) (by omega)
        refine va_sld hx hb hX hbl hbA J.2.2.1 (vp_in_iff.mpr (by omega)) dL_law_840 ?_
        refine lv_topi (fun x242 ex242 => ?_)
        refine lv_aload_n hx hb dL_law_841 rfl (lv_at hl 0 rfl) ?_
        refine lv_iload_n hx hb dL_law_842 rfl (lv_at hl 3 rfl) ?_
        refine lv_iconst (v := 2) hx hb dL_law_843 (by decide) ?_
        refine lv_iadd hx hb dL_law_844 ?_
        refine lv_topi (fun x243 ex243 => ?_)
        have hx243 : x243.toInt = x3.toInt + 2 := by rw [ex243]; exact adI (a := x3.toInt) (b := 2) rfl rfl (by omega) (by omega)
        refine va_sld hx hb hX hbl hbA J.2.2.1 (vp_in_iff.mpr (by omega)) dL_law_845 ?_
        refine lv_topi (fun x244 ex244 => ?_)
        refine lCl F J (c_X7_luck l wC gC vC 0 x242 x244 F.2.1.2.1 J.2.2.2.1 hoC ) (cwV 2 F.1.2.2.2.2 (gWs (C := "StarWalk") mw_4_40 mw_4_41 mw_4_42 mw_1_1 mw_4_43) rfl rfl rfl (by decide +kernel) ⟨by decide, by decide⟩) hoC.1.1 ((ce_o hoC.1.2).trans rfl) rfl rfl hl.1 rfl (Nat.le_of_ble_eq_true rfl) dL_law_846 ⟨Nat.le_refl _, Nat.le_refl _⟩ (fun r245 u246 H lo hp hJ => ?_)
        obtain ⟨hwC, exC, frC⟩ := hp
        have J : Lw wC wM gC gM s.heap u246 vM H lo := ⟨hJ.1, hJ.2.1, hJ.2.2, hwC.1, J.2.2.2.2⟩
        clear hJ
        refine lv_pop2_2 hx hb dL_law_849 rfl ?_
        refine lv_aload_n hx hb dL_law_850 rfl (lv_at hl 2 rfl) ?_
        refine lv_aload_n hx hb dL_law_851 rfl (lv_at hl 0 rfl) ?_
        refine lv_iload_n hx hb dL_law_852 rfl (lv_at hl 3 rfl) ?_
        refine lv_iconst (v := 1) hx hb dL_law_853 (by decide) ?_
        refine lv_iadd hx hb dL_law_854 ?_
        refine lv_topi (fun x247 ex247 => ?_)
        obtain rfl : x241 = x247 := ex241.trans ex247.symm
        refine va_sld hx hb hX hbl hbA J.2.2.1 (vp_in_iff.mpr (by omega)) dL_law_855 ?_
        refine lv_topi (fun x248 ex248 => ?_)
        obtain rfl : x242 = x248 := ex242.trans ex248.symm
        refine lv_aload_n hx hb dL_law_856 rfl (lv_at hl 0 rfl) ?_
        refine lv_iload_n hx hb dL_law_857 rfl (lv_at hl 3 rfl) ?_
        refine lv_iconst (v := 2) hx hb dL_law_858 (by decide) ?_
        refine lv_iadd hx hb dL_law_859 ?_
        refine lv_topi (fun x249 ex249 => ?_)
        obtain rfl : x243 = x249 := ex243.trans ex249.symm
        refine va_sld hx hb hX hbl hbA J.2.2.1 (vp_in_iff.mpr (by omega)) dL_law_860 ?_
        refine lv_topi (fun x250 ex250 => ?_)
        obtain rfl : x244 = x250 := ex244.trans ex250.symm
        refine lMl F J (c_X8_luck l wM gM vM 0 x242 x244 F.2.2.1.2.1 J.2.2.2.2 hoM ) (cwV 2 F.1.2.2.2.2 (gWs (C := "StarWalkModel") mw_6_53 mw_6_54 mw_6_55 mw_1_9 mw_6_56) rfl rfl rfl (by decide +kernel) ⟨by decide, by decide⟩) hoM.1.1 ((ce_o hoM.1.2).trans rfl) rfl rfl hl.1 rfl (Nat.le_of_ble_eq_true rfl) dL_law_861 ⟨Nat.le_refl _, Nat.le_refl _⟩ (fun r251 u252 H lo hp hJ => ?_)
        obtain ⟨hwM, exM, frM⟩ := hp
        have J : Lw wC wM gC gM s.heap u246 u252 H lo := ⟨hJ.1, hJ.2.1, hJ.2.2, J.2.2.2.1, hwM.1⟩
        clear hJ
        replace hR := hR.fr (fun a b z => frC a b (by omega)) (fun a b z => frM a b (by omega))
        refine lv_pop2_2 hx hb dL_law_864 rfl ?_
        refine lv_goto (tgt := 1280) hx hb dL_law_865 (by decide) ?_
        exact BK _ _ _ _ J hR ls (lv_sub hl [0, 1, 2, 3] rfl)
      by_cases k26 : x4.toInt = 26
      ·
        refine lv_tableIn hx hb dL_law_32 (by omega) (by omega) (by rw [k26]; rfl) (tgt := 868) (by decide) ?_
        refine lv_aload_n hx hb dL_law_868 rfl (lv_at hl 1 rfl) ?_
        refine lv_aload_n hx hb dL_law_869 rfl (lv_at hl 0 rfl) ?_
        refine lv_iload_n hx hb dL_law_870 rfl (lv_at hl 3 rfl) ?_
        refine lv_iconst (v := 1) hx hb dL_law_871 (by decide) ?_
        refine lv_iadd hx hb dL_law_872 ?_
        refine lv_topi (fun x253 ex253 => ?_)
        have hx253 : x253.toInt = x3.toInt + 1 := by rw [ex253]; exact adI (a := x3.toInt) (b := 1) rfl rfl (by omega) (by omega)
        refine va_sld hx hb hX hbl hbA J.2.2.1 (vp_in_iff.mpr (by omega)) dL_law_873 ?_
        refine lv_topi (fun x254 ex254 => ?_)
        refine lv_aload_n hx hb dL_law_874 rfl (lv_at hl 0 rfl) ?_
        refine lv_iload_n hx hb dL_law_875 rfl (lv_at hl 3 rfl) ?_
        refine lv_iconst (v := 2) hx hb dL_law_876 (by decide) ?_
        refine lv_iadd hx hb dL_law_877 ?_
        refine lv_topi (fun x255 ex255 => ?_)
        have hx255 : x255.toInt = x3.toInt + 2 := by rw [ex255]; exact adI (a := x3.toInt) (b := 2) rfl rfl (by omega) (by omega)
        refine va_sld hx hb hX hbl hbA J.2.2.1 (vp_in_iff.mpr (by omega)) dL_law_878 ?_
        refine lv_topi (fun x256 ex256 => ?_)
        refine lCl F J (c_X7_mean l wC gC vC 0 x254 x256 F.2.1.2.1 J.2.2.2.1 hoC ) (cwV 2 F.1.2.2.2.2 (gWs (C := "StarWalk") mw_4_69 mw_4_70 mw_4_71 mw_1_1 mw_4_72) rfl rfl rfl (by decide +kernel) ⟨by decide, by decide⟩) hoC.1.1 ((ce_o hoC.1.2).trans rfl) rfl rfl hl.1 rfl (Nat.le_of_ble_eq_true rfl) dL_law_879 ⟨Nat.le_refl _, Nat.le_refl _⟩ (fun r257 u258 H lo hp hJ => ?_)
        obtain ⟨hwC, exC, frC⟩ := hp
        have J : Lw wC wM gC gM s.heap u258 vM H lo := ⟨hJ.1, hJ.2.1, hJ.2.2, hwC.1, J.2.2.2.2⟩
        clear hJ
        refine lv_pop2_2 hx hb dL_law_882 rfl ?_
        refine lv_aload_n hx hb dL_law_883 rfl (lv_at hl 2 rfl) ?_
        refine lv_aload_n hx hb dL_law_884 rfl (lv_at hl 0 rfl) ?_
        refine lv_iload_n hx hb dL_law_885 rfl (lv_at hl 3 rfl) ?_
        refine lv_iconst (v := 1) hx hb dL_law_886 (by decide) ?_
        refine lv_iadd hx hb dL_law_887 ?_
        refine lv_topi (fun x259 ex259 => ?_)
        obtain rfl : x253 = x259 := ex253.trans ex259.symm
        refine va_sld hx hb hX hbl hbA J.2.2.1 (vp_in_iff.mpr (by omega)) dL_law_888 ?_
        refine lv_topi (fun x260 ex260 => ?_)
        obtain rfl : x254 = x260 := ex254.trans ex260.symm
        refine lv_aload_n hx hb dL_law_889 rfl (lv_at hl 0 rfl) ?_
        refine lv_iload_n hx hb dL_law_890 rfl (lv_at hl 3 rfl) ?_
        refine lv_iconst (v := 2) hx hb dL_law_891 (by decide) ?_
        refine lv_iadd hx hb dL_law_892 ?_
        refine lv_topi (fun x261 ex261 => ?_)
        obtain rfl : x255 = x261 := ex255.trans ex261.symm
        refine va_sld hx hb hX hbl hbA J.2.2.1 (vp_in_iff.mpr (by omega)) dL_law_893 ?_
        refine lv_topi (fun x262 ex262 => ?_)
        obtain rfl : x256 = x262 := ex256.trans ex262.symm
        refine lMl F J (c_X8_mean l wM gM vM 0 x254 x256 F.2.2.1.2.1 J.2.2.2.2 hoM ) (cwV 2 F.1.2.2.2.2 (gWs (C := "StarWalkModel") mw_6_68 mw_6_69 mw_6_70 mw_1_9 mw_6_71) rfl rfl rfl (by decide +kernel) ⟨by decide, by decide⟩) hoM.1.1 ((ce_o hoM.1.2).trans rfl) rfl rfl hl.1 rfl (Nat.le_of_ble_eq_true rfl) dL_law_894 ⟨Nat.le_refl _, Nat.le_refl _⟩ (fun r263 u264 H lo hp hJ => ?_)
        obtain ⟨hwM, exM, frM⟩ := hp
        have J : Lw wC wM gC gM s.heap u258 u264 H lo := ⟨hJ.1, hJ.2.1, hJ.2.2, J.2.2.2.1, hwM.1⟩
        clear hJ
        replace hR := hR.fr (fun a b z => frC a b (by omega)) (fun a b z => frM a b (by omega))
        refine lv_pop2_2 hx hb dL_law_897 rfl ?_
        refine lv_goto (tgt := 1280) hx hb dL_law_898 (by decide) ?_
        exact BK _ _ _ _ J hR ls (lv_sub hl [0, 1, 2, 3] rfl)
      by_cases k27 : x4.toInt = 27
      ·
        refine lv_tableIn hx hb dL_law_32 (by omega) (by omega) (by rw [k27]; rfl) (tgt := 901) (by decide) ?_
        refine lv_aload_n hx hb dL_law_901 rfl (lv_at hl 1 rfl) ?_
        refine lv_aload_n hx hb dL_law_902 rfl (lv_at hl 0 rfl) ?_
        refine lv_iload_n hx hb dL_law_903 rfl (lv_at hl 3 rfl) ?_
        refine lv_iconst (v := 1) hx hb dL_law_904 (by decide) ?_
        refine lv_iadd hx hb dL_law_905 ?_
        refine lv_topi (fun x265 ex265 => ?_)
        have hx265 : x265.toInt = x3.toInt + 1 := by rw [ex265]; exact adI (a := x3.toInt) (b := 1) rfl rfl (by omega) (by omega)
        refine va_sld hx hb hX hbl hbA J.2.2.1 (vp_in_iff.mpr (by omega)) dL_law_906 ?_
        refine lv_topi (fun x266 ex266 => ?_)
        refine lv_aload_n hx hb dL_law_907 rfl (lv_at hl 0 rfl) ?_
        refine lv_iload_n hx hb dL_law_908 rfl (lv_at hl 3 rfl) ?_
        refine lv_iconst (v := 2) hx hb dL_law_909 (by decide) ?_
        refine lv_iadd hx hb dL_law_910 ?_
        refine lv_topi (fun x267 ex267 => ?_)
        have hx267 : x267.toInt = x3.toInt + 2 := by rw [ex267]; exact adI (a := x3.toInt) (b := 2) rfl rfl (by omega) (by omega)
        refine va_sld hx hb hX hbl hbA J.2.2.1 (vp_in_iff.mpr (by omega)) dL_law_911 ?_
        refine lv_topi (fun x268 ex268 => ?_)
        refine lCi F J (c_X7_see l wC gC vC 0 x266 x268 F.2.1.2.1 J.2.2.2.1 hoC ) (cwV 2 F.1.2.2.2.2 (gWs (C := "StarWalk") mw_4_73 mw_4_74 mw_4_75 mw_1_1 mw_4_76) rfl rfl rfl (by decide +kernel) ⟨by decide, by decide⟩) hoC.1.1 ((ce_o hoC.1.2).trans rfl) rfl rfl hl.1 rfl (Nat.le_of_ble_eq_true rfl) dL_law_912 ⟨Nat.le_refl _, Nat.le_refl _⟩ (fun r269 u270 H lo hp hJ => ?_)
        obtain ⟨hwC, exC, frC⟩ := hp
        have J : Lw wC wM gC gM s.heap u270 vM H lo := ⟨hJ.1, hJ.2.1, hJ.2.2, hwC.1, J.2.2.2.2⟩
        clear hJ
        refine lv_pop hx hb dL_law_915 rfl ?_
        refine lv_aload_n hx hb dL_law_916 rfl (lv_at hl 2 rfl) ?_
        refine lv_aload_n hx hb dL_law_917 rfl (lv_at hl 0 rfl) ?_
        refine lv_iload_n hx hb dL_law_918 rfl (lv_at hl 3 rfl) ?_
        refine lv_iconst (v := 1) hx hb dL_law_919 (by decide) ?_
        refine lv_iadd hx hb dL_law_920 ?_
        refine lv_topi (fun x271 ex271 => ?_)
        obtain rfl : x265 = x271 := ex265.trans ex271.symm
        refine va_sld hx hb hX hbl hbA J.2.2.1 (vp_in_iff.mpr (by omega)) dL_law_921 ?_
        refine lv_topi (fun x272 ex272 => ?_)
        obtain rfl : x266 = x272 := ex266.trans ex272.symm
        refine lv_aload_n hx hb dL_law_922 rfl (lv_at hl 0 rfl) ?_
        refine lv_iload_n hx hb dL_law_923 rfl (lv_at hl 3 rfl) ?_
        refine lv_iconst (v := 2) hx hb dL_law_924 (by decide) ?_
        refine lv_iadd hx hb dL_law_925 ?_
        refine lv_topi (fun x273 ex273 => ?_)
        obtain rfl : x267 = x273 := ex267.trans ex273.symm
        refine va_sld hx hb hX hbl hbA J.2.2.1 (vp_in_iff.mpr (by omega)) dL_law_926 ?_
        refine lv_topi (fun x274 ex274 => ?_)
        obtain rfl : x268 = x274 := ex268.trans ex274.symm
        refine lMi F J (c_X8_see l wM gM vM 0 x266 x268 F.2.2.1.2.1 J.2.2.2.2 hoM ) (cwV 2 F.1.2.2.2.2 (gWs (C := "StarWalkModel") mw_6_72 mw_6_73 mw_6_74 mw_1_9 mw_6_75) rfl rfl rfl (by decide +kernel) ⟨by decide, by decide⟩) hoM.1.1 ((ce_o hoM.1.2).trans rfl) rfl rfl hl.1 rfl (Nat.le_of_ble_eq_true rfl) dL_law_927 ⟨Nat.le_refl _, Nat.le_refl _⟩ (fun r275 u276 H lo hp hJ => ?_)
        obtain ⟨hwM, exM, frM⟩ := hp
        have J : Lw wC wM gC gM s.heap u270 u276 H lo := ⟨hJ.1, hJ.2.1, hJ.2.2, J.2.2.2.1, hwM.1⟩
        clear hJ
        have hS := sim_see hR exC exM
        have hEq := hS.1
        replace hR := hS.2
        refine lv_pop hx hb dL_law_930 rfl ?_
        refine lv_goto (tgt := 1280) hx hb dL_law_931 (by decide) ?_
        exact BK _ _ _ _ J hR ls (lv_sub hl [0, 1, 2, 3] rfl)
      by_cases k28 : x4.toInt = 28
      ·
        refine lv_tableIn hx hb dL_law_32 (by omega) (by omega) (by rw [k28]; rfl) (tgt := 934) (by decide) ?_
        refine lv_aload_n hx hb dL_law_934 rfl (lv_at hl 1 rfl) ?_
        refine lv_aload_n hx hb dL_law_935 rfl (lv_at hl 0 rfl) ?_
        refine lv_iload_n hx hb dL_law_936 rfl (lv_at hl 3 rfl) ?_
        refine lv_iconst (v := 1) hx hb dL_law_937 (by decide) ?_
        refine lv_iadd hx hb dL_law_938 ?_
        refine lv_topi (fun x277 ex277 => ?_)
        have hx277 : x277.toInt = x3.toInt + 1 := by rw [ex277]; exact adI (a := x3.toInt) (b := 1) rfl rfl (by omega) (by omega)
        refine va_sld hx hb hX hbl hbA J.2.2.1 (vp_in_iff.mpr (by omega)) dL_law_939 ?_
        refine lv_topi (fun x278 ex278 => ?_)
        refine lCi F J (c_X7_forget l wC gC vC 0 x278 F.2.1.2.1 J.2.2.2.1 hoC ) (cwV 1 F.1.2.2.2.2 (gWs (C := "StarWalk") mw_4_77 mw_4_78 mw_4_79 mw_1_1 mw_4_80) rfl rfl rfl (by decide +kernel) ⟨by decide, by decide⟩) hoC.1.1 ((ce_o hoC.1.2).trans rfl) rfl rfl hl.1 rfl (Nat.le_of_ble_eq_true rfl) dL_law_940 ⟨Nat.le_refl _, Nat.le_refl _⟩ (fun r279 u280 H lo hp hJ => ?_)
        obtain ⟨hwC, exC, frC⟩ := hp
        have J : Lw wC wM gC gM s.heap u280 vM H lo := ⟨hJ.1, hJ.2.1, hJ.2.2, hwC.1, J.2.2.2.2⟩
        clear hJ
        refine lv_pop hx hb dL_law_943 rfl ?_
        refine lv_aload_n hx hb dL_law_944 rfl (lv_at hl 2 rfl) ?_
        refine lv_aload_n hx hb dL_law_945 rfl (lv_at hl 0 rfl) ?_
        refine lv_iload_n hx hb dL_law_946 rfl (lv_at hl 3 rfl) ?_
        refine lv_iconst (v := 1) hx hb dL_law_947 (by decide) ?_
        refine lv_iadd hx hb dL_law_948 ?_
        refine lv_topi (fun x281 ex281 => ?_)
        obtain rfl : x277 = x281 := ex277.trans ex281.symm
        refine va_sld hx hb hX hbl hbA J.2.2.1 (vp_in_iff.mpr (by omega)) dL_law_949 ?_
        refine lv_topi (fun x282 ex282 => ?_)
        obtain rfl : x278 = x282 := ex278.trans ex282.symm
        refine lMi F J (c_X8_forget l wM gM vM 0 x278 F.2.2.1.2.1 J.2.2.2.2 hoM ) (cwV 1 F.1.2.2.2.2 (gWs (C := "StarWalkModel") mw_6_78 mw_6_79 mw_6_80 mw_1_9 mw_6_81) rfl rfl rfl (by decide +kernel) ⟨by decide, by decide⟩) hoM.1.1 ((ce_o hoM.1.2).trans rfl) rfl rfl hl.1 rfl (Nat.le_of_ble_eq_true rfl) dL_law_950 ⟨Nat.le_refl _, Nat.le_refl _⟩ (fun r283 u284 H lo hp hJ => ?_)
        obtain ⟨hwM, exM, frM⟩ := hp
        have J : Lw wC wM gC gM s.heap u280 u284 H lo := ⟨hJ.1, hJ.2.1, hJ.2.2, J.2.2.2.1, hwM.1⟩
        clear hJ
        have hS := sim_forget hR exC exM
        have hEq := hS.1
        replace hR := hS.2
        refine lv_pop hx hb dL_law_953 rfl ?_
        refine lv_goto (tgt := 1280) hx hb dL_law_954 (by decide) ?_
        exact BK _ _ _ _ J hR ls (lv_sub hl [0, 1, 2, 3] rfl)
      by_cases k29 : x4.toInt = 29
      ·
        refine lv_tableIn hx hb dL_law_32 (by omega) (by omega) (by rw [k29]; rfl) (tgt := 957) (by decide) ?_
        refine lv_aload_n hx hb dL_law_957 rfl (lv_at hl 1 rfl) ?_
        refine lv_aload_n hx hb dL_law_958 rfl (lv_at hl 0 rfl) ?_
        refine lv_iload_n hx hb dL_law_959 rfl (lv_at hl 3 rfl) ?_
        refine lv_iconst (v := 1) hx hb dL_law_960 (by decide) ?_
        refine lv_iadd hx hb dL_law_961 ?_
        refine lv_topi (fun x285 ex285 => ?_)
        have hx285 : x285.toInt = x3.toInt + 1 := by rw [ex285]; exact adI (a := x3.toInt) (b := 1) rfl rfl (by omega) (by omega)
        refine va_sld hx hb hX hbl hbA J.2.2.1 (vp_in_iff.mpr (by omega)) dL_law_962 ?_
        refine lv_topi (fun x286 ex286 => ?_)
        refine lCi F J (c_X7_aims l wC gC vC 0 x286 F.2.1.2.1 J.2.2.2.1 hoC ) (cwV 1 F.1.2.2.2.2 (gWs (C := "StarWalk") mw_4_81 mw_4_82 mw_4_83 mw_1_1 mw_4_84) rfl rfl rfl (by decide +kernel) ⟨by decide, by decide⟩) hoC.1.1 ((ce_o hoC.1.2).trans rfl) rfl rfl hl.1 rfl (Nat.le_of_ble_eq_true rfl) dL_law_963 ⟨Nat.le_refl _, Nat.le_refl _⟩ (fun r287 u288 H lo hp hJ => ?_)
        obtain ⟨hwC, exC, frC⟩ := hp
        have J : Lw wC wM gC gM s.heap u288 vM H lo := ⟨hJ.1, hJ.2.1, hJ.2.2, hwC.1, J.2.2.2.2⟩
        clear hJ
        refine lv_pop hx hb dL_law_966 rfl ?_
        refine lv_aload_n hx hb dL_law_967 rfl (lv_at hl 2 rfl) ?_
        refine lv_aload_n hx hb dL_law_968 rfl (lv_at hl 0 rfl) ?_
        refine lv_iload_n hx hb dL_law_969 rfl (lv_at hl 3 rfl) ?_
        refine lv_iconst (v := 1) hx hb dL_law_970 (by decide) ?_
        refine lv_iadd hx hb dL_law_971 ?_
        refine lv_topi (fun x289 ex289 => ?_)
        obtain rfl : x285 = x289 := ex285.trans ex289.symm
        refine va_sld hx hb hX hbl hbA J.2.2.1 (vp_in_iff.mpr (by omega)) dL_law_972 ?_
        refine lv_topi (fun x290 ex290 => ?_)
        obtain rfl : x286 = x290 := ex286.trans ex290.symm
        refine lMi F J (c_X8_aims l wM gM vM 0 x286 F.2.2.1.2.1 J.2.2.2.2 hoM ) (cwV 1 F.1.2.2.2.2 (gWs (C := "StarWalkModel") mw_6_82 mw_6_83 mw_6_84 mw_1_9 mw_6_85) rfl rfl rfl (by decide +kernel) ⟨by decide, by decide⟩) hoM.1.1 ((ce_o hoM.1.2).trans rfl) rfl rfl hl.1 rfl (Nat.le_of_ble_eq_true rfl) dL_law_973 ⟨Nat.le_refl _, Nat.le_refl _⟩ (fun r291 u292 H lo hp hJ => ?_)
        obtain ⟨hwM, exM, frM⟩ := hp
        have J : Lw wC wM gC gM s.heap u288 u292 H lo := ⟨hJ.1, hJ.2.1, hJ.2.2, J.2.2.2.1, hwM.1⟩
        clear hJ
        replace hR := hR.fr (fun a b z => frC a b (by omega)) (fun a b z => frM a b (by omega))
        refine lv_pop hx hb dL_law_976 rfl ?_
        refine lv_goto (tgt := 1280) hx hb dL_law_977 (by decide) ?_
        exact BK _ _ _ _ J hR ls (lv_sub hl [0, 1, 2, 3] rfl)
      by_cases k30 : x4.toInt = 30
      ·
        refine lv_tableIn hx hb dL_law_32 (by omega) (by omega) (by rw [k30]; rfl) (tgt := 980) (by decide) ?_
        refine lv_aload_n hx hb dL_law_980 rfl (lv_at hl 1 rfl) ?_
        refine lCi F J (c_X7_whose l wC gC vC 0  F.2.1.2.1 J.2.2.2.1 hoC ) (cwV 0 F.1.2.2.2.2 (gWs (C := "StarWalk") mw_4_93 mw_4_94 mw_4_95 mw_1_1 mw_4_96) rfl rfl rfl (by decide +kernel) ⟨by decide, by decide⟩) hoC.1.1 ((ce_o hoC.1.2).trans rfl) rfl rfl hl.1 rfl (Nat.le_of_ble_eq_true rfl) dL_law_981 ⟨Nat.le_refl _, Nat.le_refl _⟩ (fun r293 u294 H lo hp hJ => ?_)
        obtain ⟨hwC, exC, frC⟩ := hp
        have J : Lw wC wM gC gM s.heap u294 vM H lo := ⟨hJ.1, hJ.2.1, hJ.2.2, hwC.1, J.2.2.2.2⟩
        clear hJ
        refine lv_pop hx hb dL_law_984 rfl ?_
        refine lv_aload_n hx hb dL_law_985 rfl (lv_at hl 2 rfl) ?_
        refine lMi F J (c_X8_whose l wM gM vM 0  F.2.2.1.2.1 J.2.2.2.2 hoM ) (cwV 0 F.1.2.2.2.2 (gWs (C := "StarWalkModel") mw_6_90 mw_6_91 mw_6_92 mw_1_9 mw_6_93) rfl rfl rfl (by decide +kernel) ⟨by decide, by decide⟩) hoM.1.1 ((ce_o hoM.1.2).trans rfl) rfl rfl hl.1 rfl (Nat.le_of_ble_eq_true rfl) dL_law_986 ⟨Nat.le_refl _, Nat.le_refl _⟩ (fun r295 u296 H lo hp hJ => ?_)
        obtain ⟨hwM, exM, frM⟩ := hp
        have J : Lw wC wM gC gM s.heap u294 u296 H lo := ⟨hJ.1, hJ.2.1, hJ.2.2, J.2.2.2.1, hwM.1⟩
        clear hJ
        replace hR := hR.fr (fun a b z => frC a b (by omega)) (fun a b z => frM a b (by omega))
        refine lv_pop hx hb dL_law_989 rfl ?_
        refine lv_goto (tgt := 1280) hx hb dL_law_990 (by decide) ?_
        exact BK _ _ _ _ J hR ls (lv_sub hl [0, 1, 2, 3] rfl)
      by_cases k31 : x4.toInt = 31
      ·
        refine lv_tableIn hx hb dL_law_32 (by omega) (by omega) (by rw [k31]; rfl) (tgt := 993) (by decide) ?_
        refine lv_aload_n hx hb dL_law_993 rfl (lv_at hl 1 rfl) ?_
        refine lv_aload_n hx hb dL_law_994 rfl (lv_at hl 0 rfl) ?_
        refine lv_iload_n hx hb dL_law_995 rfl (lv_at hl 3 rfl) ?_
        refine lv_iconst (v := 1) hx hb dL_law_996 (by decide) ?_
        refine lv_iadd hx hb dL_law_997 ?_
        refine lv_topi (fun x297 ex297 => ?_)
        have hx297 : x297.toInt = x3.toInt + 1 := by rw [ex297]; exact adI (a := x3.toInt) (b := 1) rfl rfl (by omega) (by omega)
        refine va_sld hx hb hX hbl hbA J.2.2.1 (vp_in_iff.mpr (by omega)) dL_law_998 ?_
        refine lv_topi (fun x298 ex298 => ?_)
        refine lCi F J (c_X7_fits l wC gC vC 0 x298 F.2.1.2.1 J.2.2.2.1 hoC ) (cwV 1 F.1.2.2.2.2 (gWs (C := "StarWalk") mw_4_97 mw_4_98 mw_4_99 mw_1_1 mw_4_100) rfl rfl rfl (by decide +kernel) ⟨by decide, by decide⟩) hoC.1.1 ((ce_o hoC.1.2).trans rfl) rfl rfl hl.1 rfl (Nat.le_of_ble_eq_true rfl) dL_law_999 ⟨Nat.le_refl _, Nat.le_refl _⟩ (fun r299 u300 H lo hp hJ => ?_)
        obtain ⟨hwC, exC, frC⟩ := hp
        have J : Lw wC wM gC gM s.heap u300 vM H lo := ⟨hJ.1, hJ.2.1, hJ.2.2, hwC.1, J.2.2.2.2⟩
        clear hJ
        refine lv_pop hx hb dL_law_1002 rfl ?_
        refine lv_aload_n hx hb dL_law_1003 rfl (lv_at hl 2 rfl) ?_
        refine lv_aload_n hx hb dL_law_1004 rfl (lv_at hl 0 rfl) ?_
        refine lv_iload_n hx hb dL_law_1005 rfl (lv_at hl 3 rfl) ?_
        refine lv_iconst (v := 1) hx hb dL_law_1006 (by decide) ?_
        refine lv_iadd hx hb dL_law_1007 ?_
        refine lv_topi (fun x301 ex301 => ?_)
        obtain rfl : x297 = x301 := ex297.trans ex301.symm
        refine va_sld hx hb hX hbl hbA J.2.2.1 (vp_in_iff.mpr (by omega)) dL_law_1008 ?_
        refine lv_topi (fun x302 ex302 => ?_)
        obtain rfl : x298 = x302 := ex298.trans ex302.symm
        refine lMi F J (c_X8_fits l wM gM vM 0 x298 F.2.2.1.2.1 J.2.2.2.2 hoM ) (cwV 1 F.1.2.2.2.2 (gWs (C := "StarWalkModel") mw_6_94 mw_6_95 mw_6_96 mw_1_9 mw_6_97) rfl rfl rfl (by decide +kernel) ⟨by decide, by decide⟩) hoM.1.1 ((ce_o hoM.1.2).trans rfl) rfl rfl hl.1 rfl (Nat.le_of_ble_eq_true rfl) dL_law_1009 ⟨Nat.le_refl _, Nat.le_refl _⟩ (fun r303 u304 H lo hp hJ => ?_)
        obtain ⟨hwM, exM, frM⟩ := hp
        have J : Lw wC wM gC gM s.heap u300 u304 H lo := ⟨hJ.1, hJ.2.1, hJ.2.2, J.2.2.2.1, hwM.1⟩
        clear hJ
        replace hR := hR.fr (fun a b z => frC a b (by omega)) (fun a b z => frM a b (by omega))
        refine lv_pop hx hb dL_law_1012 rfl ?_
        refine lv_goto (tgt := 1280) hx hb dL_law_1013 (by decide) ?_
        exact BK _ _ _ _ J hR ls (lv_sub hl [0, 1, 2, 3] rfl)
      by_cases k32 : x4.toInt = 32
      ·
        refine lv_tableIn hx hb dL_law_32 (by omega) (by omega) (by rw [k32]; rfl) (tgt := 1016) (by decide) ?_
        refine lv_aload_n hx hb dL_law_1016 rfl (lv_at hl 1 rfl) ?_
        refine lv_aload_n hx hb dL_law_1017 rfl (lv_at hl 0 rfl) ?_
        refine lv_iload_n hx hb dL_law_1018 rfl (lv_at hl 3 rfl) ?_
        refine lv_iconst (v := 1) hx hb dL_law_1019 (by decide) ?_
        refine lv_iadd hx hb dL_law_1020 ?_
        refine lv_topi (fun x305 ex305 => ?_)
        have hx305 : x305.toInt = x3.toInt + 1 := by rw [ex305]; exact adI (a := x3.toInt) (b := 1) rfl rfl (by omega) (by omega)
        refine va_sld hx hb hX hbl hbA J.2.2.1 (vp_in_iff.mpr (by omega)) dL_law_1021 ?_
        refine lv_topi (fun x306 ex306 => ?_)
        refine lv_aload_n hx hb dL_law_1022 rfl (lv_at hl 0 rfl) ?_
        refine lv_iload_n hx hb dL_law_1023 rfl (lv_at hl 3 rfl) ?_
        refine lv_iconst (v := 2) hx hb dL_law_1024 (by decide) ?_
        refine lv_iadd hx hb dL_law_1025 ?_
        refine lv_topi (fun x307 ex307 => ?_)
        have hx307 : x307.toInt = x3.toInt + 2 := by rw [ex307]; exact adI (a := x3.toInt) (b := 2) rfl rfl (by omega) (by omega)
        refine va_sld hx hb hX hbl hbA J.2.2.1 (vp_in_iff.mpr (by omega)) dL_law_1026 ?_
        refine lv_topi (fun x308 ex308 => ?_)
        refine lv_aload_n hx hb dL_law_1027 rfl (lv_at hl 0 rfl) ?_
        refine lv_iload_n hx hb dL_law_1028 rfl (lv_at hl 3 rfl) ?_
        refine lv_iconst (v := 3) hx hb dL_law_1029 (by decide) ?_
        refine lv_iadd hx hb dL_law_1030 ?_
        refine lv_topi (fun x309 ex309 => ?_)
        have hx309 : x309.toInt = x3.toInt + 3 := by rw [ex309]; exact adI (a := x3.toInt) (b := 3) rfl rfl (by omega) (by omega)
        refine va_sld hx hb hX hbl hbA J.2.2.1 (vp_in_iff.mpr (by omega)) dL_law_1031 ?_
        refine lv_topi (fun x310 ex310 => ?_)
        refine lCi F J (c_X7_drift l wC gC vC 0 x306 x308 x310 F.2.1.2.1 J.2.2.2.1 hoC ) (cwV 3 F.1.2.2.2.2 (gWs (C := "StarWalk") mw_4_101 mw_4_102 mw_4_103 mw_1_1 mw_4_104) rfl rfl rfl (by decide +kernel) ⟨by decide, by decide⟩) hoC.1.1 ((ce_o hoC.1.2).trans rfl) rfl rfl hl.1 rfl (Nat.le_of_ble_eq_true rfl) dL_law_1032 ⟨Nat.le_refl _, Nat.le_refl _⟩ (fun r311 u312 H lo hp hJ => ?_)
        obtain ⟨hwC, exC, frC⟩ := hp
        have J : Lw wC wM gC gM s.heap u312 vM H lo := ⟨hJ.1, hJ.2.1, hJ.2.2, hwC.1, J.2.2.2.2⟩
        clear hJ
        refine lv_pop hx hb dL_law_1035 rfl ?_
        refine lv_aload_n hx hb dL_law_1036 rfl (lv_at hl 2 rfl) ?_
        refine lv_aload_n hx hb dL_law_1037 rfl (lv_at hl 0 rfl) ?_
        refine lv_iload_n hx hb dL_law_1038 rfl (lv_at hl 3 rfl) ?_
        refine lv_iconst (v := 1) hx hb dL_law_1039 (by decide) ?_
        refine lv_iadd hx hb dL_law_1040 ?_
        refine lv_topi (fun x313 ex313 => ?_)
        obtain rfl : x305 = x313 := ex305.trans ex313.symm
        refine va_sld hx hb hX hbl hbA J.2.2.1 (vp_in_iff.mpr (by omega)) dL_law_1041 ?_
        refine lv_topi (fun x314 ex314 => ?_)
        obtain rfl : x306 = x314 := ex306.trans ex314.symm
        refine lv_aload_n hx hb dL_law_1042 rfl (lv_at hl 0 rfl) ?_
        refine lv_iload_n hx hb dL_law_1043 rfl (lv_at hl 3 rfl) ?_
        refine lv_iconst (v := 2) hx hb dL_law_1044 (by decide) ?_
        refine lv_iadd hx hb dL_law_1045 ?_
        refine lv_topi (fun x315 ex315 => ?_)
        obtain rfl : x307 = x315 := ex307.trans ex315.symm
        refine va_sld hx hb hX hbl hbA J.2.2.1 (vp_in_iff.mpr (by omega)) dL_law_1046 ?_
        refine lv_topi (fun x316 ex316 => ?_)
        obtain rfl : x308 = x316 := ex308.trans ex316.symm
        refine lv_aload_n hx hb dL_law_1047 rfl (lv_at hl 0 rfl) ?_
        refine lv_iload_n hx hb dL_law_1048 rfl (lv_at hl 3 rfl) ?_
        refine lv_iconst (v := 3) hx hb dL_law_1049 (by decide) ?_
        refine lv_iadd hx hb dL_law_1050 ?_
        refine lv_topi (fun x317 ex317 => ?_)
        obtain rfl : x309 = x317 := ex309.trans ex317.symm
        refine va_sld hx hb hX hbl hbA J.2.2.1 (vp_in_iff.mpr (by omega)) dL_law_1051 ?_
        refine lv_topi (fun x318 ex318 => ?_)
        obtain rfl : x310 = x318 := ex310.trans ex318.symm
        refine lMi F J (c_X8_drift l wM gM vM 0 x306 x308 x310 F.2.2.1.2.1 J.2.2.2.2 hoM ) (cwV 3 F.1.2.2.2.2 (gWs (C := "StarWalkModel") mw_6_98 mw_6_99 mw_6_100 mw_1_9 mw_6_101) rfl rfl rfl (by decide +kernel) ⟨by decide, by decide⟩) hoM.1.1 ((ce_o hoM.1.2).trans rfl) rfl rfl hl.1 rfl (Nat.le_of_ble_eq_true rfl) dL_law_1052 ⟨Nat.le_refl _, Nat.le_refl _⟩ (fun r319 u320 H lo hp hJ => ?_)
        obtain ⟨hwM, exM, frM⟩ := hp
        have J : Lw wC wM gC gM s.heap u312 u320 H lo := ⟨hJ.1, hJ.2.1, hJ.2.2, J.2.2.2.1, hwM.1⟩
        clear hJ
        replace hR := hR.fr (fun a b z => frC a b (by omega)) (fun a b z => frM a b (by omega))
        refine lv_pop hx hb dL_law_1055 rfl ?_
        refine lv_goto (tgt := 1280) hx hb dL_law_1056 (by decide) ?_
        exact BK _ _ _ _ J hR ls (lv_sub hl [0, 1, 2, 3] rfl)
      by_cases k33 : x4.toInt = 33
      ·
        refine lv_tableIn hx hb dL_law_32 (by omega) (by omega) (by rw [k33]; rfl) (tgt := 1059) (by decide) ?_
        refine lv_aload_n hx hb dL_law_1059 rfl (lv_at hl 1 rfl) ?_
        refine lv_aload_n hx hb dL_law_1060 rfl (lv_at hl 0 rfl) ?_
        refine lv_iload_n hx hb dL_law_1061 rfl (lv_at hl 3 rfl) ?_
        refine lv_iconst (v := 1) hx hb dL_law_1062 (by decide) ?_
        refine lv_iadd hx hb dL_law_1063 ?_
        refine lv_topi (fun x321 ex321 => ?_)
        have hx321 : x321.toInt = x3.toInt + 1 := by rw [ex321]; exact adI (a := x3.toInt) (b := 1) rfl rfl (by omega) (by omega)
        refine va_sld hx hb hX hbl hbA J.2.2.1 (vp_in_iff.mpr (by omega)) dL_law_1064 ?_
        refine lv_topi (fun x322 ex322 => ?_)
        refine lCi F J (c_X7_keep l wC gC vC 0 x322 F.2.1.2.1 J.2.2.2.1 hoC ) (cwV 1 F.1.2.2.2.2 (gWs (C := "StarWalk") mw_4_106 mw_4_107 mw_4_108 mw_1_1 mw_4_109) rfl rfl rfl (by decide +kernel) ⟨by decide, by decide⟩) hoC.1.1 ((ce_o hoC.1.2).trans rfl) rfl rfl hl.1 rfl (Nat.le_of_ble_eq_true rfl) dL_law_1065 ⟨Nat.le_refl _, Nat.le_refl _⟩ (fun r323 u324 H lo hp hJ => ?_)
        obtain ⟨hwC, exC, frC⟩ := hp
        have J : Lw wC wM gC gM s.heap u324 vM H lo := ⟨hJ.1, hJ.2.1, hJ.2.2, hwC.1, J.2.2.2.2⟩
        clear hJ
        refine lv_pop hx hb dL_law_1068 rfl ?_
        refine lv_aload_n hx hb dL_law_1069 rfl (lv_at hl 2 rfl) ?_
        refine lv_aload_n hx hb dL_law_1070 rfl (lv_at hl 0 rfl) ?_
        refine lv_iload_n hx hb dL_law_1071 rfl (lv_at hl 3 rfl) ?_
        refine lv_iconst (v := 1) hx hb dL_law_1072 (by decide) ?_
        refine lv_iadd hx hb dL_law_1073 ?_
        refine lv_topi (fun x325 ex325 => ?_)
        obtain rfl : x321 = x325 := ex321.trans ex325.symm
        refine va_sld hx hb hX hbl hbA J.2.2.1 (vp_in_iff.mpr (by omega)) dL_law_1074 ?_
        refine lv_topi (fun x326 ex326 => ?_)
        obtain rfl : x322 = x326 := ex322.trans ex326.symm
        refine lMi F J (c_X8_keep l wM gM vM 0 x322 F.2.2.1.2.1 J.2.2.2.2 hoM ) (cwV 1 F.1.2.2.2.2 (gWs (C := "StarWalkModel") mw_6_104 mw_6_105 mw_6_106 mw_1_9 mw_6_107) rfl rfl rfl (by decide +kernel) ⟨by decide, by decide⟩) hoM.1.1 ((ce_o hoM.1.2).trans rfl) rfl rfl hl.1 rfl (Nat.le_of_ble_eq_true rfl) dL_law_1075 ⟨Nat.le_refl _, Nat.le_refl _⟩ (fun r327 u328 H lo hp hJ => ?_)
        obtain ⟨hwM, exM, frM⟩ := hp
        have J : Lw wC wM gC gM s.heap u324 u328 H lo := ⟨hJ.1, hJ.2.1, hJ.2.2, J.2.2.2.1, hwM.1⟩
        clear hJ
        have hS := sim_keep hR exC exM
        have hEq := hS.1
        replace hR := hS.2
        refine lv_pop hx hb dL_law_1078 rfl ?_
        refine lv_goto (tgt := 1280) hx hb dL_law_1079 (by decide) ?_
        exact BK _ _ _ _ J hR ls (lv_sub hl [0, 1, 2, 3] rfl)
      by_cases k34 : x4.toInt = 34
      ·
        refine lv_tableIn hx hb dL_law_32 (by omega) (by omega) (by rw [k34]; rfl) (tgt := 1082) (by decide) ?_
        refine lv_aload_n hx hb dL_law_1082 rfl (lv_at hl 1 rfl) ?_
        refine lv_aload_n hx hb dL_law_1083 rfl (lv_at hl 0 rfl) ?_
        refine lv_iload_n hx hb dL_law_1084 rfl (lv_at hl 3 rfl) ?_
        refine lv_iconst (v := 1) hx hb dL_law_1085 (by decide) ?_
        refine lv_iadd hx hb dL_law_1086 ?_
        refine lv_topi (fun x329 ex329 => ?_)
        have hx329 : x329.toInt = x3.toInt + 1 := by rw [ex329]; exact adI (a := x3.toInt) (b := 1) rfl rfl (by omega) (by omega)
        refine va_sld hx hb hX hbl hbA J.2.2.1 (vp_in_iff.mpr (by omega)) dL_law_1087 ?_
        refine lv_topi (fun x330 ex330 => ?_)
        refine lCi F J (c_X7_back l wC gC vC 0 x330 F.2.1.2.1 J.2.2.2.1 hoC ) (cwV 1 F.1.2.2.2.2 (gWs (C := "StarWalk") mw_4_110 mw_4_111 mw_4_112 mw_1_1 mw_4_113) rfl rfl rfl (by decide +kernel) ⟨by decide, by decide⟩) hoC.1.1 ((ce_o hoC.1.2).trans rfl) rfl rfl hl.1 rfl (Nat.le_of_ble_eq_true rfl) dL_law_1088 ⟨Nat.le_refl _, Nat.le_refl _⟩ (fun r331 u332 H lo hp hJ => ?_)
        obtain ⟨hwC, exC, frC⟩ := hp
        have J : Lw wC wM gC gM s.heap u332 vM H lo := ⟨hJ.1, hJ.2.1, hJ.2.2, hwC.1, J.2.2.2.2⟩
        clear hJ
        refine lv_pop hx hb dL_law_1091 rfl ?_
        refine lv_aload_n hx hb dL_law_1092 rfl (lv_at hl 2 rfl) ?_
        refine lv_aload_n hx hb dL_law_1093 rfl (lv_at hl 0 rfl) ?_
        refine lv_iload_n hx hb dL_law_1094 rfl (lv_at hl 3 rfl) ?_
        refine lv_iconst (v := 1) hx hb dL_law_1095 (by decide) ?_
        refine lv_iadd hx hb dL_law_1096 ?_
        refine lv_topi (fun x333 ex333 => ?_)
        obtain rfl : x329 = x333 := ex329.trans ex333.symm
        refine va_sld hx hb hX hbl hbA J.2.2.1 (vp_in_iff.mpr (by omega)) dL_law_1097 ?_
        refine lv_topi (fun x334 ex334 => ?_)
        obtain rfl : x330 = x334 := ex330.trans ex334.symm
        refine lMi F J (c_X8_back l wM gM vM 0 x330 F.2.2.1.2.1 J.2.2.2.2 hoM ) (cwV 1 F.1.2.2.2.2 (gWs (C := "StarWalkModel") mw_6_112 mw_6_113 mw_6_114 mw_1_9 mw_6_115) rfl rfl rfl (by decide +kernel) ⟨by decide, by decide⟩) hoM.1.1 ((ce_o hoM.1.2).trans rfl) rfl rfl hl.1 rfl (Nat.le_of_ble_eq_true rfl) dL_law_1098 ⟨Nat.le_refl _, Nat.le_refl _⟩ (fun r335 u336 H lo hp hJ => ?_)
        obtain ⟨hwM, exM, frM⟩ := hp
        have J : Lw wC wM gC gM s.heap u332 u336 H lo := ⟨hJ.1, hJ.2.1, hJ.2.2, J.2.2.2.1, hwM.1⟩
        clear hJ
        have hS := sim_back hR exC exM
        have hEq := hS.1
        replace hR := hS.2
        refine lv_pop hx hb dL_law_1101 rfl ?_
        refine lv_goto (tgt := 1280) hx hb dL_law_1102 (by decide) ?_
        exact BK _ _ _ _ J hR ls (lv_sub hl [0, 1, 2, 3] rfl)
      by_cases k35 : x4.toInt = 35
      ·
        refine lv_tableIn hx hb dL_law_32 (by omega) (by omega) (by rw [k35]; rfl) (tgt := 1105) (by decide) ?_
        refine lv_aload_n hx hb dL_law_1105 rfl (lv_at hl 1 rfl) ?_
        refine lv_aload_n hx hb dL_law_1106 rfl (lv_at hl 0 rfl) ?_
        refine lv_iload_n hx hb dL_law_1107 rfl (lv_at hl 3 rfl) ?_
        refine lv_iconst (v := 1) hx hb dL_law_1108 (by decide) ?_
        refine lv_iadd hx hb dL_law_1109 ?_
        refine lv_topi (fun x337 ex337 => ?_)
        have hx337 : x337.toInt = x3.toInt + 1 := by rw [ex337]; exact adI (a := x3.toInt) (b := 1) rfl rfl (by omega) (by omega)
        refine va_sld hx hb hX hbl hbA J.2.2.1 (vp_in_iff.mpr (by omega)) dL_law_1110 ?_
        refine lv_topi (fun x338 ex338 => ?_)
        refine lv_aload_n hx hb dL_law_1111 rfl (lv_at hl 0 rfl) ?_
        refine lv_iload_n hx hb dL_law_1112 rfl (lv_at hl 3 rfl) ?_
        refine lv_iconst (v := 2) hx hb dL_law_1113 (by decide) ?_
        refine lv_iadd hx hb dL_law_1114 ?_
        refine lv_topi (fun x339 ex339 => ?_)
        have hx339 : x339.toInt = x3.toInt + 2 := by rw [ex339]; exact adI (a := x3.toInt) (b := 2) rfl rfl (by omega) (by omega)
        refine va_sld hx hb hX hbl hbA J.2.2.1 (vp_in_iff.mpr (by omega)) dL_law_1115 ?_
        refine lv_topi (fun x340 ex340 => ?_)
        refine lv_aload_n hx hb dL_law_1116 rfl (lv_at hl 0 rfl) ?_
        refine lv_iload_n hx hb dL_law_1117 rfl (lv_at hl 3 rfl) ?_
        refine lv_iconst (v := 3) hx hb dL_law_1118 (by decide) ?_
        refine lv_iadd hx hb dL_law_1119 ?_
        refine lv_topi (fun x341 ex341 => ?_)
        have hx341 : x341.toInt = x3.toInt + 3 := by rw [ex341]; exact adI (a := x3.toInt) (b := 3) rfl rfl (by omega) (by omega)
        refine va_sld hx hb hX hbl hbA J.2.2.1 (vp_in_iff.mpr (by omega)) dL_law_1120 ?_
        refine lv_topi (fun x342 ex342 => ?_)
        refine lCi F J (c_X7_sheet l wC gC vC 0 x338 x340 x342 F.2.1.2.1 J.2.2.2.1 hoC ) (cwV 3 F.1.2.2.2.2 (gWs (C := "StarWalk") mw_4_114 mw_4_115 mw_4_116 mw_1_1 mw_4_117) rfl rfl rfl (by decide +kernel) ⟨by decide, by decide⟩) hoC.1.1 ((ce_o hoC.1.2).trans rfl) rfl rfl hl.1 rfl (Nat.le_of_ble_eq_true rfl) dL_law_1121 ⟨Nat.le_refl _, Nat.le_refl _⟩ (fun r343 u344 H lo hp hJ => ?_)
        obtain ⟨hwC, exC, frC⟩ := hp
        have J : Lw wC wM gC gM s.heap u344 vM H lo := ⟨hJ.1, hJ.2.1, hJ.2.2, hwC.1, J.2.2.2.2⟩
        clear hJ
        refine lv_pop hx hb dL_law_1124 rfl ?_
        refine lv_aload_n hx hb dL_law_1125 rfl (lv_at hl 2 rfl) ?_
        refine lv_aload_n hx hb dL_law_1126 rfl (lv_at hl 0 rfl) ?_
        refine lv_iload_n hx hb dL_law_1127 rfl (lv_at hl 3 rfl) ?_
        refine lv_iconst (v := 1) hx hb dL_law_1128 (by decide) ?_
        refine lv_iadd hx hb dL_law_1129 ?_
        refine lv_topi (fun x345 ex345 => ?_)
        obtain rfl : x337 = x345 := ex337.trans ex345.symm
        refine va_sld hx hb hX hbl hbA J.2.2.1 (vp_in_iff.mpr (by omega)) dL_law_1130 ?_
        refine lv_topi (fun x346 ex346 => ?_)
        obtain rfl : x338 = x346 := ex338.trans ex346.symm
        refine lv_aload_n hx hb dL_law_1131 rfl (lv_at hl 0 rfl) ?_
        refine lv_iload_n hx hb dL_law_1132 rfl (lv_at hl 3 rfl) ?_
        refine lv_iconst (v := 2) hx hb dL_law_1133 (by decide) ?_
        refine lv_iadd hx hb dL_law_1134 ?_
        refine lv_topi (fun x347 ex347 => ?_)
        obtain rfl : x339 = x347 := ex339.trans ex347.symm
        refine va_sld hx hb hX hbl hbA J.2.2.1 (vp_in_iff.mpr (by omega)) dL_law_1135 ?_
        refine lv_topi (fun x348 ex348 => ?_)
        obtain rfl : x340 = x348 := ex340.trans ex348.symm
        refine lv_aload_n hx hb dL_law_1136 rfl (lv_at hl 0 rfl) ?_
        refine lv_iload_n hx hb dL_law_1137 rfl (lv_at hl 3 rfl) ?_
        refine lv_iconst (v := 3) hx hb dL_law_1138 (by decide) ?_
        refine lv_iadd hx hb dL_law_1139 ?_
        refine lv_topi (fun x349 ex349 => ?_)
        obtain rfl : x341 = x349 := ex341.trans ex349.symm
        refine va_sld hx hb hX hbl hbA J.2.2.1 (vp_in_iff.mpr (by omega)) dL_law_1140 ?_
        refine lv_topi (fun x350 ex350 => ?_)
        obtain rfl : x342 = x350 := ex342.trans ex350.symm
        refine lMi F J (c_X8_sheet l wM gM vM 0 x338 x340 x342 F.2.2.1.2.1 J.2.2.2.2 hoM ) (cwV 3 F.1.2.2.2.2 (gWs (C := "StarWalkModel") mw_6_116 mw_6_117 mw_6_118 mw_1_9 mw_6_119) rfl rfl rfl (by decide +kernel) ⟨by decide, by decide⟩) hoM.1.1 ((ce_o hoM.1.2).trans rfl) rfl rfl hl.1 rfl (Nat.le_of_ble_eq_true rfl) dL_law_1141 ⟨Nat.le_refl _, Nat.le_refl _⟩ (fun r351 u352 H lo hp hJ => ?_)
        obtain ⟨hwM, exM, frM⟩ := hp
        have J : Lw wC wM gC gM s.heap u344 u352 H lo := ⟨hJ.1, hJ.2.1, hJ.2.2, J.2.2.2.1, hwM.1⟩
        clear hJ
        have hS := sim_sheet hR exC exM
        have hEq := hS.1
        replace hR := hS.2
        refine lv_pop hx hb dL_law_1144 rfl ?_
        refine lv_goto (tgt := 1280) hx hb dL_law_1145 (by decide) ?_
        exact BK _ _ _ _ J hR ls (lv_sub hl [0, 1, 2, 3] rfl)
      by_cases k36 : x4.toInt = 36
      ·
        refine lv_tableIn hx hb dL_law_32 (by omega) (by omega) (by rw [k36]; rfl) (tgt := 1148) (by decide) ?_
        refine lv_aload_n hx hb dL_law_1148 rfl (lv_at hl 1 rfl) ?_
        refine lv_aload_n hx hb dL_law_1149 rfl (lv_at hl 0 rfl) ?_
        refine lv_iload_n hx hb dL_law_1150 rfl (lv_at hl 3 rfl) ?_
        refine lv_iconst (v := 1) hx hb dL_law_1151 (by decide) ?_
        refine lv_iadd hx hb dL_law_1152 ?_
        refine lv_topi (fun x353 ex353 => ?_)
        have hx353 : x353.toInt = x3.toInt + 1 := by rw [ex353]; exact adI (a := x3.toInt) (b := 1) rfl rfl (by omega) (by omega)
        refine va_sld hx hb hX hbl hbA J.2.2.1 (vp_in_iff.mpr (by omega)) dL_law_1153 ?_
        refine lv_topi (fun x354 ex354 => ?_)
        refine lv_aload_n hx hb dL_law_1154 rfl (lv_at hl 0 rfl) ?_
        refine lv_iload_n hx hb dL_law_1155 rfl (lv_at hl 3 rfl) ?_
        refine lv_iconst (v := 2) hx hb dL_law_1156 (by decide) ?_
        refine lv_iadd hx hb dL_law_1157 ?_
        refine lv_topi (fun x355 ex355 => ?_)
        have hx355 : x355.toInt = x3.toInt + 2 := by rw [ex355]; exact adI (a := x3.toInt) (b := 2) rfl rfl (by omega) (by omega)
        refine va_sld hx hb hX hbl hbA J.2.2.1 (vp_in_iff.mpr (by omega)) dL_law_1158 ?_
        refine lv_topi (fun x356 ex356 => ?_)
        refine lv_aload_n hx hb dL_law_1159 rfl (lv_at hl 0 rfl) ?_
        refine lv_iload_n hx hb dL_law_1160 rfl (lv_at hl 3 rfl) ?_
        refine lv_iconst (v := 3) hx hb dL_law_1161 (by decide) ?_
        refine lv_iadd hx hb dL_law_1162 ?_
        refine lv_topi (fun x357 ex357 => ?_)
        have hx357 : x357.toInt = x3.toInt + 3 := by rw [ex357]; exact adI (a := x3.toInt) (b := 3) rfl rfl (by omega) (by omega)
        refine va_sld hx hb hX hbl hbA J.2.2.1 (vp_in_iff.mpr (by omega)) dL_law_1163 ?_
        refine lv_topi (fun x358 ex358 => ?_)
        refine lCi F J (c_X7_lay l wC gC vC 0 x354 x356 x358 F.2.1.2.1 J.2.2.2.1 hoC ) (cwV 3 F.1.2.2.2.2 (gWs (C := "StarWalk") mw_4_128 mw_4_129 mw_4_130 mw_1_1 mw_4_131) rfl rfl rfl (by decide +kernel) ⟨by decide, by decide⟩) hoC.1.1 ((ce_o hoC.1.2).trans rfl) rfl rfl hl.1 rfl (Nat.le_of_ble_eq_true rfl) dL_law_1164 ⟨Nat.le_refl _, Nat.le_refl _⟩ (fun r359 u360 H lo hp hJ => ?_)
        obtain ⟨hwC, exC, frC⟩ := hp
        have J : Lw wC wM gC gM s.heap u360 vM H lo := ⟨hJ.1, hJ.2.1, hJ.2.2, hwC.1, J.2.2.2.2⟩
        clear hJ
        refine lv_pop hx hb dL_law_1167 rfl ?_
        refine lv_aload_n hx hb dL_law_1168 rfl (lv_at hl 2 rfl) ?_
        refine lv_aload_n hx hb dL_law_1169 rfl (lv_at hl 0 rfl) ?_
        refine lv_iload_n hx hb dL_law_1170 rfl (lv_at hl 3 rfl) ?_
        refine lv_iconst (v := 1) hx hb dL_law_1171 (by decide) ?_
        refine lv_iadd hx hb dL_law_1172 ?_
        refine lv_topi (fun x361 ex361 => ?_)
        obtain rfl : x353 = x361 := ex353.trans ex361.symm
        refine va_sld hx hb hX hbl hbA J.2.2.1 (vp_in_iff.mpr (by omega)) dL_law_1173 ?_
        refine lv_topi (fun x362 ex362 => ?_)
        obtain rfl : x354 = x362 := ex354.trans ex362.symm
        refine lv_aload_n hx hb dL_law_1174 rfl (lv_at hl 0 rfl) ?_
        refine lv_iload_n hx hb dL_law_1175 rfl (lv_at hl 3 rfl) ?_
        refine lv_iconst (v := 2) hx hb dL_law_1176 (by decide) ?_
        refine lv_iadd hx hb dL_law_1177 ?_
        refine lv_topi (fun x363 ex363 => ?_)
        obtain rfl : x355 = x363 := ex355.trans ex363.symm
        refine va_sld hx hb hX hbl hbA J.2.2.1 (vp_in_iff.mpr (by omega)) dL_law_1178 ?_
        refine lv_topi (fun x364 ex364 => ?_)
        obtain rfl : x356 = x364 := ex356.trans ex364.symm
        refine lv_aload_n hx hb dL_law_1179 rfl (lv_at hl 0 rfl) ?_
        refine lv_iload_n hx hb dL_law_1180 rfl (lv_at hl 3 rfl) ?_
        refine lv_iconst (v := 3) hx hb dL_law_1181 (by decide) ?_
        refine lv_iadd hx hb dL_law_1182 ?_
        refine lv_topi (fun x365 ex365 => ?_)
        obtain rfl : x357 = x365 := ex357.trans ex365.symm
        refine va_sld hx hb hX hbl hbA J.2.2.1 (vp_in_iff.mpr (by omega)) dL_law_1183 ?_
        refine lv_topi (fun x366 ex366 => ?_)
        obtain rfl : x358 = x366 := ex358.trans ex366.symm
        refine lMi F J (c_X8_lay l wM gM vM 0 x354 x356 x358 F.2.2.1.2.1 J.2.2.2.2 hoM ) (cwV 3 F.1.2.2.2.2 (gWs (C := "StarWalkModel") mw_6_124 mw_6_125 mw_6_126 mw_1_9 mw_6_127) rfl rfl rfl (by decide +kernel) ⟨by decide, by decide⟩) hoM.1.1 ((ce_o hoM.1.2).trans rfl) rfl rfl hl.1 rfl (Nat.le_of_ble_eq_true rfl) dL_law_1184 ⟨Nat.le_refl _, Nat.le_refl _⟩ (fun r367 u368 H lo hp hJ => ?_)
        obtain ⟨hwM, exM, frM⟩ := hp
        have J : Lw wC wM gC gM s.heap u360 u368 H lo := ⟨hJ.1, hJ.2.1, hJ.2.2, J.2.2.2.1, hwM.1⟩
        clear hJ
        have hS := sim_lay hR exC exM
        have hEq := hS.1
        replace hR := hS.2
        refine lv_pop hx hb dL_law_1187 rfl ?_
        refine lv_goto (tgt := 1280) hx hb dL_law_1188 (by decide) ?_
        exact BK _ _ _ _ J hR ls (lv_sub hl [0, 1, 2, 3] rfl)
      by_cases k37 : x4.toInt = 37
      ·
        refine lv_tableIn hx hb dL_law_32 (by omega) (by omega) (by rw [k37]; rfl) (tgt := 1191) (by decide) ?_
        refine lv_aload_n hx hb dL_law_1191 rfl (lv_at hl 1 rfl) ?_
        refine lv_aload_n hx hb dL_law_1192 rfl (lv_at hl 0 rfl) ?_
        refine lv_iload_n hx hb dL_law_1193 rfl (lv_at hl 3 rfl) ?_
        refine lv_iconst (v := 1) hx hb dL_law_1194 (by decide) ?_
        refine lv_iadd hx hb dL_law_1195 ?_
        refine lv_topi (fun x369 ex369 => ?_)
        have hx369 : x369.toInt = x3.toInt + 1 := by rw [ex369]; exact adI (a := x3.toInt) (b := 1) rfl rfl (by omega) (by omega)
        refine va_sld hx hb hX hbl hbA J.2.2.1 (vp_in_iff.mpr (by omega)) dL_law_1196 ?_
        refine lv_topi (fun x370 ex370 => ?_)
        refine lv_aload_n hx hb dL_law_1197 rfl (lv_at hl 0 rfl) ?_
        refine lv_iload_n hx hb dL_law_1198 rfl (lv_at hl 3 rfl) ?_
        refine lv_iconst (v := 2) hx hb dL_law_1199 (by decide) ?_
        refine lv_iadd hx hb dL_law_1200 ?_
        refine lv_topi (fun x371 ex371 => ?_)
        have hx371 : x371.toInt = x3.toInt + 2 := by rw [ex371]; exact adI (a := x3.toInt) (b := 2) rfl rfl (by omega) (by omega)
        refine va_sld hx hb hX hbl hbA J.2.2.1 (vp_in_iff.mpr (by omega)) dL_law_1201 ?_
        refine lv_topi (fun x372 ex372 => ?_)
        refine lv_aload_n hx hb dL_law_1202 rfl (lv_at hl 0 rfl) ?_
        refine lv_iload_n hx hb dL_law_1203 rfl (lv_at hl 3 rfl) ?_
        refine lv_iconst (v := 3) hx hb dL_law_1204 (by decide) ?_
        refine lv_iadd hx hb dL_law_1205 ?_
        refine lv_topi (fun x373 ex373 => ?_)
        have hx373 : x373.toInt = x3.toInt + 3 := by rw [ex373]; exact adI (a := x3.toInt) (b := 3) rfl rfl (by omega) (by omega)
        refine va_sld hx hb hX hbl hbA J.2.2.1 (vp_in_iff.mpr (by omega)) dL_law_1206 ?_
        refine lv_topi (fun x374 ex374 => ?_)
        refine lv_aload_n hx hb dL_law_1207 rfl (lv_at hl 0 rfl) ?_
        refine lv_iload_n hx hb dL_law_1208 rfl (lv_at hl 3 rfl) ?_
        refine lv_iconst (v := 4) hx hb dL_law_1209 (by decide) ?_
        refine lv_iadd hx hb dL_law_1210 ?_
        refine lv_topi (fun x375 ex375 => ?_)
        have hx375 : x375.toInt = x3.toInt + 4 := by rw [ex375]; exact adI (a := x3.toInt) (b := 4) rfl rfl (by omega) (by omega)
        refine va_sld hx hb hX hbl hbA J.2.2.1 (vp_in_iff.mpr (by omega)) dL_law_1211 ?_
        refine lv_topi (fun x376 ex376 => ?_)
        refine lCi F J (c_X7_read l wC gC vC 0 x370 x372 x374 x376 F.2.1.2.1 J.2.2.2.1 hoC ) (cwV 4 F.1.2.2.2.2 (gWs (C := "StarWalk") mw_4_140 mw_4_141 mw_4_142 mw_1_1 mw_4_143) rfl rfl rfl (by decide +kernel) ⟨by decide, by decide⟩) hoC.1.1 ((ce_o hoC.1.2).trans rfl) rfl rfl hl.1 rfl (Nat.le_of_ble_eq_true rfl) dL_law_1212 ⟨Nat.le_refl _, Nat.le_refl _⟩ (fun r377 u378 H lo hp hJ => ?_)
        obtain ⟨hwC, exC, frC⟩ := hp
        have J : Lw wC wM gC gM s.heap u378 vM H lo := ⟨hJ.1, hJ.2.1, hJ.2.2, hwC.1, J.2.2.2.2⟩
        clear hJ
        refine lv_pop hx hb dL_law_1215 rfl ?_
        refine lv_aload_n hx hb dL_law_1216 rfl (lv_at hl 2 rfl) ?_
        refine lv_aload_n hx hb dL_law_1217 rfl (lv_at hl 0 rfl) ?_
        refine lv_iload_n hx hb dL_law_1218 rfl (lv_at hl 3 rfl) ?_
        refine lv_iconst (v := 1) hx hb dL_law_1219 (by decide) ?_
        refine lv_iadd hx hb dL_law_1220 ?_
        refine lv_topi (fun x379 ex379 => ?_)
        obtain rfl : x369 = x379 := ex369.trans ex379.symm
        refine va_sld hx hb hX hbl hbA J.2.2.1 (vp_in_iff.mpr (by omega)) dL_law_1221 ?_
        refine lv_topi (fun x380 ex380 => ?_)
        obtain rfl : x370 = x380 := ex370.trans ex380.symm
        refine lv_aload_n hx hb dL_law_1222 rfl (lv_at hl 0 rfl) ?_
        refine lv_iload_n hx hb dL_law_1223 rfl (lv_at hl 3 rfl) ?_
        refine lv_iconst (v := 2) hx hb dL_law_1224 (by decide) ?_
        refine lv_iadd hx hb dL_law_1225 ?_
        refine lv_topi (fun x381 ex381 => ?_)
        obtain rfl : x371 = x381 := ex371.trans ex381.symm
        refine va_sld hx hb hX hbl hbA J.2.2.1 (vp_in_iff.mpr (by omega)) dL_law_1226 ?_
        refine lv_topi (fun x382 ex382 => ?_)
        obtain rfl : x372 = x382 := ex372.trans ex382.symm
        refine lv_aload_n hx hb dL_law_1227 rfl (lv_at hl 0 rfl) ?_
        refine lv_iload_n hx hb dL_law_1228 rfl (lv_at hl 3 rfl) ?_
        refine lv_iconst (v := 3) hx hb dL_law_1229 (by decide) ?_
        refine lv_iadd hx hb dL_law_1230 ?_
        refine lv_topi (fun x383 ex383 => ?_)
        obtain rfl : x373 = x383 := ex373.trans ex383.symm
        refine va_sld hx hb hX hbl hbA J.2.2.1 (vp_in_iff.mpr (by omega)) dL_law_1231 ?_
        refine lv_topi (fun x384 ex384 => ?_)
        obtain rfl : x374 = x384 := ex374.trans ex384.symm
        refine lv_aload_n hx hb dL_law_1232 rfl (lv_at hl 0 rfl) ?_
        refine lv_iload_n hx hb dL_law_1233 rfl (lv_at hl 3 rfl) ?_
        refine lv_iconst (v := 4) hx hb dL_law_1234 (by decide) ?_
        refine lv_iadd hx hb dL_law_1235 ?_
        refine lv_topi (fun x385 ex385 => ?_)
        obtain rfl : x375 = x385 := ex375.trans ex385.symm
        refine va_sld hx hb hX hbl hbA J.2.2.1 (vp_in_iff.mpr (by omega)) dL_law_1236 ?_
        refine lv_topi (fun x386 ex386 => ?_)
        obtain rfl : x376 = x386 := ex376.trans ex386.symm
        refine lMi F J (c_X8_read l wM gM vM 0 x370 x372 x374 x376 F.2.2.1.2.1 J.2.2.2.2 hoM ) (cwV 4 F.1.2.2.2.2 (gWs (C := "StarWalkModel") mw_6_128 mw_6_129 mw_6_130 mw_1_9 mw_6_131) rfl rfl rfl (by decide +kernel) ⟨by decide, by decide⟩) hoM.1.1 ((ce_o hoM.1.2).trans rfl) rfl rfl hl.1 rfl (Nat.le_of_ble_eq_true rfl) dL_law_1237 ⟨Nat.le_refl _, Nat.le_refl _⟩ (fun r387 u388 H lo hp hJ => ?_)
        obtain ⟨hwM, exM, frM⟩ := hp
        have J : Lw wC wM gC gM s.heap u378 u388 H lo := ⟨hJ.1, hJ.2.1, hJ.2.2, J.2.2.2.1, hwM.1⟩
        clear hJ
        have hS := sim_read hR exC exM
        have hEq := hS.1
        replace hR := hS.2
        refine lv_pop hx hb dL_law_1240 rfl ?_
        refine lv_goto (tgt := 1280) hx hb dL_law_1241 (by decide) ?_
        exact BK _ _ _ _ J hR ls (lv_sub hl [0, 1, 2, 3] rfl)
      by_cases k38 : x4.toInt = 38
      ·
        refine lv_tableIn hx hb dL_law_32 (by omega) (by omega) (by rw [k38]; rfl) (tgt := 1244) (by decide) ?_
        refine lv_aload_n hx hb dL_law_1244 rfl (lv_at hl 1 rfl) ?_
        refine lCi F J (c_X7_torn l wC gC vC 0  F.2.1.2.1 J.2.2.2.1 hoC ) (cwV 0 F.1.2.2.2.2 (gWs (C := "StarWalk") mw_4_148 mw_4_149 mw_4_150 mw_1_1 mw_4_151) rfl rfl rfl (by decide +kernel) ⟨by decide, by decide⟩) hoC.1.1 ((ce_o hoC.1.2).trans rfl) rfl rfl hl.1 rfl (Nat.le_of_ble_eq_true rfl) dL_law_1245 ⟨Nat.le_refl _, Nat.le_refl _⟩ (fun r389 u390 H lo hp hJ => ?_)
        obtain ⟨hwC, exC, frC⟩ := hp
        rw [hwC.1] at hJ
        have J : Lw wC wM gC gM s.heap vC vM H lo := ⟨hJ.1, hJ.2.1, hJ.2.2, J.2.2.2.1, J.2.2.2.2⟩
        clear hJ
        refine lv_pop hx hb dL_law_1248 rfl ?_
        refine lv_aload_n hx hb dL_law_1249 rfl (lv_at hl 2 rfl) ?_
        refine lMi F J (c_X8_torn l wM gM vM 0  F.2.2.1.2.1 J.2.2.2.2 hoM ) (cwV 0 F.1.2.2.2.2 (gWs (C := "StarWalkModel") mw_6_133 mw_6_134 mw_6_135 mw_1_9 mw_6_136) rfl rfl rfl (by decide +kernel) ⟨by decide, by decide⟩) hoM.1.1 ((ce_o hoM.1.2).trans rfl) rfl rfl hl.1 rfl (Nat.le_of_ble_eq_true rfl) dL_law_1250 ⟨Nat.le_refl _, Nat.le_refl _⟩ (fun r391 u392 H lo hp hJ => ?_)
        obtain ⟨hwM, exM, frM⟩ := hp
        rw [hwM.1] at hJ
        have J : Lw wC wM gC gM s.heap vC vM H lo := ⟨hJ.1, hJ.2.1, hJ.2.2, J.2.2.2.1, J.2.2.2.2⟩
        clear hJ
        replace hR := hR.fr (fun _ _ _ => rfl) (fun _ _ _ => rfl)
        refine lv_pop hx hb dL_law_1253 rfl ?_
        refine lv_goto (tgt := 1280) hx hb dL_law_1254 (by decide) ?_
        exact BK _ _ _ _ J hR ls (lv_sub hl [0, 1, 2, 3] rfl)
      by_cases k39 : x4.toInt = 39
      ·
        refine lv_tableIn hx hb dL_law_32 (by omega) (by omega) (by rw [k39]; rfl) (tgt := 1257) (by decide) ?_
        refine lv_aload_n hx hb dL_law_1257 rfl (lv_at hl 1 rfl) ?_
        refine lv_aload_n hx hb dL_law_1258 rfl (lv_at hl 0 rfl) ?_
        refine lv_iload_n hx hb dL_law_1259 rfl (lv_at hl 3 rfl) ?_
        refine lv_iconst (v := 1) hx hb dL_law_1260 (by decide) ?_
        refine lv_iadd hx hb dL_law_1261 ?_
        refine lv_topi (fun x393 ex393 => ?_)
        have hx393 : x393.toInt = x3.toInt + 1 := by rw [ex393]; exact adI (a := x3.toInt) (b := 1) rfl rfl (by omega) (by omega)
        refine va_sld hx hb hX hbl hbA J.2.2.1 (vp_in_iff.mpr (by omega)) dL_law_1262 ?_
        refine lv_topi (fun x394 ex394 => ?_)
        refine lCi F J (c_X7_count l wC gC vC 0 x394 F.2.1.2.1 J.2.2.2.1 hoC ) (cwV 1 F.1.2.2.2.2 (gWs (C := "StarWalk") mw_4_152 mw_4_153 mw_4_154 mw_1_1 mw_4_155) rfl rfl rfl (by decide +kernel) ⟨by decide, by decide⟩) hoC.1.1 ((ce_o hoC.1.2).trans rfl) rfl rfl hl.1 rfl (Nat.le_of_ble_eq_true rfl) dL_law_1263 ⟨Nat.le_refl _, Nat.le_refl _⟩ (fun r395 u396 H lo hp hJ => ?_)
        obtain ⟨hwC, exC, frC⟩ := hp
        rw [hwC.1] at hJ
        have J : Lw wC wM gC gM s.heap vC vM H lo := ⟨hJ.1, hJ.2.1, hJ.2.2, J.2.2.2.1, J.2.2.2.2⟩
        clear hJ
        refine lv_aload_n hx hb dL_law_1266 rfl (lv_at hl 2 rfl) ?_
        refine lv_aload_n hx hb dL_law_1267 rfl (lv_at hl 0 rfl) ?_
        refine lv_iload_n hx hb dL_law_1268 rfl (lv_at hl 3 rfl) ?_
        refine lv_iconst (v := 1) hx hb dL_law_1269 (by decide) ?_
        refine lv_iadd hx hb dL_law_1270 ?_
        refine lv_topi (fun x397 ex397 => ?_)
        obtain rfl : x393 = x397 := ex393.trans ex397.symm
        refine va_sld hx hb hX hbl hbA J.2.2.1 (vp_in_iff.mpr (by omega)) dL_law_1271 ?_
        refine lv_topi (fun x398 ex398 => ?_)
        obtain rfl : x394 = x398 := ex394.trans ex398.symm
        refine lMi F J (c_X8_count l wM gM vM 0 x394 F.2.2.1.2.1 J.2.2.2.2 hoM ) (cwV 1 F.1.2.2.2.2 (gWs (C := "StarWalkModel") mw_6_137 mw_6_138 mw_6_139 mw_1_9 mw_6_140) rfl rfl rfl (by decide +kernel) ⟨by decide, by decide⟩) hoM.1.1 ((ce_o hoM.1.2).trans rfl) rfl rfl hl.1 rfl (Nat.le_of_ble_eq_true rfl) dL_law_1272 ⟨Nat.le_refl _, Nat.le_refl _⟩ (fun r399 u400 H lo hp hJ => ?_)
        obtain ⟨hwM, exM, frM⟩ := hp
        rw [hwM.1] at hJ
        have J : Lw wC wM gC gM s.heap vC vM H lo := ⟨hJ.1, hJ.2.1, hJ.2.2, J.2.2.2.1, J.2.2.2.2⟩
        clear hJ
        have hEq : r395 = r399 := ans_count hR exC exM
        replace hR := hR.fr (fun _ _ _ => rfl) (fun _ _ _ => rfl)
        refine bi_eq E (a := r395.toInt) (b := r399.toInt) rfl rfl (tgt := 1280) dL_law_1275 (by decide) (fun c401 => ?_) (fun c401 => ?_)
        ·
          exact BK _ _ _ _ J hR ls (lv_sub hl [0, 1, 2, 3] rfl)
        ·
          exact absurd (congrArg Int32.toInt hEq) c401
      refine lv_tableOut hx hb dL_law_32 (by omega) (tgt := 1280) (by decide) ?_
      exact BK _ _ _ _ J hR ls (lv_sub hl [0, 1, 2, 3] rfl)
