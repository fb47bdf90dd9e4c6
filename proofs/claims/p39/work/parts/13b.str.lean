set_option maxHeartbeats 4000000 in
set_option maxRecDepth 100000 in
theorem c_J3n (l : Launch) (w : Wp) (g : Nat → Nat → Int32) (v : St) (a0 a1 : Int32) (hq : Inj w) (hw : WF (wk w) g v) (h : 0 ≤ a0.toInt ∧ a0.toInt < a1.toInt) : CTi w l yJ3_checkIndex_8e157 (wsy yJ3_checkIndex_8e157 prog_17_method_11_code 3 (some .int)) (rmL 1) [.int a0, .int a1, .null] v (fun (r : Int32) (u : St) => u = v ∧ True) := by
  generalize hpost : (fun (r : Int32) (u : St) => u = v ∧ True) = post
  refine CTi.of prog_17_method_11_code 3 (some .int) "jdk/internal/util/Preconditions" (by decide +kernel) rfl hq hw (Nat.le_of_ble_eq_true rfl) ?_
  intro pg en s m ar bl me cd ls E I hr hlk hl
  have hx := E.1.1
  have hb := E.1.2.1
  have hl : lv_has ls 3 [(0, .int a0), (1, .int a1), (2, .null)] := hl
  refine lv_iload_n hx hb dJ3_checkIndex_8e157_0 rfl (lv_at hl 0 rfl) ?_
  refine bz_lt E (a := a0.toInt) rfl (tgt := 9) dJ3_checkIndex_8e157_1 (by decide) (fun c => ?_) (fun c => ?_)
  · exfalso; omega
  · refine lv_iload_n hx hb dJ3_checkIndex_8e157_4 rfl (lv_at hl 0 rfl) ?_
    refine lv_iload_n hx hb dJ3_checkIndex_8e157_5 rfl (lv_at hl 1 rfl) ?_
    refine bi_lt E (a := a0.toInt) (b := a1.toInt) rfl rfl (tgt := 16) dJ3_checkIndex_8e157_6 (by decide) (fun c2 => ?_) (fun c2 => ?_)
    · refine lv_iload_n hx hb dJ3_checkIndex_8e157_16 rfl (lv_at hl 0 rfl) ?_
      exact rI E I hr hlk rfl (by rw [← hpost]; exact ⟨rfl, trivial⟩) dJ3_checkIndex_8e157_17
    · exfalso; omega
set_option maxHeartbeats 4000000 in
set_option maxRecDepth 100000 in
theorem c_J3r (l : Launch) (w : Wp) (g : Nat → Nat → Int32) (v : St) (a0 a1 : Int32) (t : Nat) (hq : Inj w) (hw : WF (wk w) g v) (h : 0 ≤ a0.toInt ∧ a0.toInt < a1.toInt) : CTi w l yJ3_checkIndex_8e157 (wsy yJ3_checkIndex_8e157 prog_17_method_11_code 3 (some .int)) (rmL 1) [.int a0, .int a1, .ref t] v (fun (r : Int32) (u : St) => u = v ∧ True) := by
  generalize hpost : (fun (r : Int32) (u : St) => u = v ∧ True) = post
  refine CTi.of prog_17_method_11_code 3 (some .int) "jdk/internal/util/Preconditions" (by decide +kernel) rfl hq hw (Nat.le_of_ble_eq_true rfl) ?_
  intro pg en s m ar bl me cd ls E I hr hlk hl
  have hx := E.1.1
  have hb := E.1.2.1
  have hl : lv_has ls 3 [(0, .int a0), (1, .int a1), (2, .ref t)] := hl
  refine lv_iload_n hx hb dJ3_checkIndex_8e157_0 rfl (lv_at hl 0 rfl) ?_
  refine bz_lt E (a := a0.toInt) rfl (tgt := 9) dJ3_checkIndex_8e157_1 (by decide) (fun c => ?_) (fun c => ?_)
  · exfalso; omega
  · refine lv_iload_n hx hb dJ3_checkIndex_8e157_4 rfl (lv_at hl 0 rfl) ?_
    refine lv_iload_n hx hb dJ3_checkIndex_8e157_5 rfl (lv_at hl 1 rfl) ?_
    refine bi_lt E (a := a0.toInt) (b := a1.toInt) rfl rfl (tgt := 16) dJ3_checkIndex_8e157_6 (by decide) (fun c2 => ?_) (fun c2 => ?_)
    · refine lv_iload_n hx hb dJ3_checkIndex_8e157_16 rfl (lv_at hl 0 rfl) ?_
      exact rI E I hr hlk rfl (by rw [← hpost]; exact ⟨rfl, trivial⟩) dJ3_checkIndex_8e157_17
    · exfalso; omega
set_option maxHeartbeats 4000000 in
set_option maxRecDepth 100000 in
theorem c_J0_checkIndex (l : Launch) (w : Wp) (g : Nat → Nat → Int32) (v : St) (a0 a1 : Int32) (hq : Inj w) (hw : WF (wk w) g v) (h : 0 ≤ a0.toInt ∧ a0.toInt < a1.toInt) : CTv w l yJ0_checkIndex_df160 (wsy yJ0_checkIndex_df160 prog_13_method_155_code 2 none) (rmL 2) [.int a0, .int a1] v (fun (u : St) => u = v ∧ True) := by
  generalize hpost : (fun (u : St) => u = v ∧ True) = post
  refine CTv.of prog_13_method_155_code 2 none "java/lang/String" (by decide +kernel) rfl hq hw (Nat.le_of_ble_eq_true rfl) ?_
  intro pg en s m ar bl me cd ls E I hr hlk hl
  have hx := E.1.1
  have hb := E.1.2.1
  have hl : lv_has ls 2 [(0, .int a0), (1, .int a1)] := hl
  refine lv_iload_n hx hb dJ0_checkIndex_df160_0 rfl (lv_at hl 0 rfl) ?_
  refine lv_iload_n hx hb dJ0_checkIndex_df160_1 rfl (lv_at hl 1 rfl) ?_
  rcases E.2.2.2.2.2.2.2 with hz | ⟨t, hz⟩
  · refine va_gets hx hb hz I.2.1 E.1.2.2.2.1 (Ew E mw_2_171 rfl) (fun _ h => h) dJ0_checkIndex_df160_2 ?_
    refine cSi E I (c_J3n l w g v a0 a1 E.2.2.1 I.2.2 h) (va_cwS 3 E.1.2.2.2.2 (gSs mw_2_173 mw_2_174 mw_1_12 mw_2_175) rfl rfl rfl (by decide +kernel) ⟨by decide, by decide⟩) rfl hl.1 rfl (Nat.le_of_ble_eq_true rfl) dJ0_checkIndex_df160_5 ⟨Nat.le_refl _, Nat.le_refl _⟩ (fun r1 u1 H lo hp hPS => ?_)
    obtain ⟨hu, -⟩ := hp
    rw [hu] at hPS
    have I : Wo w g s.heap v H lo := ⟨hPS.1, hPS.2, I.2.2⟩
    refine lv_pop hx hb dJ0_checkIndex_df160_8 rfl ?_
    exact rV E I hr hlk (by rw [← hpost]; exact ⟨rfl, trivial⟩) dJ0_checkIndex_df160_9
  · refine va_gets hx hb hz I.2.1 E.1.2.2.2.1 (Ew E mw_2_171 rfl) (fun _ h => h) dJ0_checkIndex_df160_2 ?_
    refine cSi E I (c_J3r l w g v a0 a1 t E.2.2.1 I.2.2 h) (va_cwS 3 E.1.2.2.2.2 (gSs mw_2_173 mw_2_174 mw_1_12 mw_2_175) rfl rfl rfl (by decide +kernel) ⟨by decide, by decide⟩) rfl hl.1 rfl (Nat.le_of_ble_eq_true rfl) dJ0_checkIndex_df160_5 ⟨Nat.le_refl _, Nat.le_refl _⟩ (fun r1 u1 H lo hp hPS => ?_)
    obtain ⟨hu, -⟩ := hp
    rw [hu] at hPS
    have I : Wo w g s.heap v H lo := ⟨hPS.1, hPS.2, I.2.2⟩
    refine lv_pop hx hb dJ0_checkIndex_df160_8 rfl ?_
    exact rV E I hr hlk (by rw [← hpost]; exact ⟨rfl, trivial⟩) dJ0_checkIndex_df160_9
def chz (i j : Nat) : Int32 := (((sbt.getD i []).getD j 0 &&& 255).toUInt32 % 65536).toInt32
theorem sl_rng : ∀ i, i < 11 → sln.getD i 0 < 10 := by decide
theorem sl_int : ∀ i, i < 11 → (Int32.ofNat (sln.getD i 0)).toInt = (sln.getD i 0 : Nat) := by decide
theorem sl_shr : ∀ i, i < 11 → ((Int32.ofNat (sln.getD i 0)) >>> ((0 : Int32) &&& 31)).toInt = (sln.getD i 0 : Nat) := by decide
set_option maxHeartbeats 4000000 in
set_option maxRecDepth 100000 in
theorem c_J1_charAt (l : Launch) (w : Wp) (g : Nat → Nat → Int32) (v : St) (i : Nat) (a0 : Int32) (hq : Inj w) (hw : WF (wk w) g v) (hi : i < 11) (h : 0 ≤ a0.toInt ∧ a0.toInt < (sln.getD i 0 : Nat)) : CTi w l yJ1_charAt_3b067 (wsy yJ1_charAt_3b067 prog_14_method_2_code 2 (some .char)) (rmL 3) [.ref (wv w i), .int a0] v (fun (r : Int32) (u : St) => u = v ∧ r = chz i a0.toNatClampNeg) := by
  generalize hpost : (fun (r : Int32) (u : St) => u = v ∧ r = chz i a0.toNatClampNeg) = post
  refine CTi.of prog_14_method_2_code 2 (some .char) "java/lang/StringLatin1" (by decide +kernel) rfl hq hw (Nat.le_of_ble_eq_true rfl) ?_
  intro pg en s m ar bl me cd ls E I hr hlk hl
  have hx := E.1.1
  have hb := E.1.2.1
  have hl : lv_has ls 2 [(0, .ref (wv w i)), (1, .int a0)] := hl
  have hT := (E.2.2.2.2.2.1.1 i hi).2.2.2
  refine lv_iload_n hx hb dJ1_charAt_3b067_0 rfl (lv_at hl 1 rfl) ?_
  refine lv_aload_n hx hb dJ1_charAt_3b067_1 rfl (lv_at hl 0 rfl) ?_
  refine va_tlen hx hb hT I.2.1 rfl dJ1_charAt_3b067_2 ?_
  refine cSv E I (c_J0_checkIndex l w g v a0 (Int32.ofNat (sln.getD i 0)) E.2.2.1 I.2.2 (by rw [sl_int i hi]; exact h)) (va_cwS 2 E.1.2.2.2.2 (gSs mw_2_168 mw_2_169 mw_1_10 mw_2_170) rfl rfl rfl (by decide +kernel) ⟨by decide, by decide⟩) rfl hl.1 rfl (Nat.le_of_ble_eq_true rfl) dJ1_charAt_3b067_3 ⟨Nat.le_refl _, Nat.le_refl _⟩ (fun u1 H lo hp hPS => ?_)
  obtain ⟨hu, -⟩ := hp
  rw [hu] at hPS
  have I : Wo w g s.heap v H lo := ⟨hPS.1, hPS.2, I.2.2⟩
  refine lv_aload_n hx hb dJ1_charAt_3b067_6 rfl (lv_at hl 0 rfl) ?_
  refine lv_iload_n hx hb dJ1_charAt_3b067_7 rfl (lv_at hl 1 rfl) ?_
  refine va_tb hx hb hT I.2.1 (vp_in_iff.mpr h) rfl dJ1_charAt_3b067_8 ?_
  refine lv_sipush (v := 255) hx hb dJ1_charAt_3b067_9 (by decide) ?_
  refine lv_iand hx hb dJ1_charAt_3b067_12 ?_
  refine lv_i2c (v := _) hx hb dJ1_charAt_3b067_13 rfl ?_
  exact rI E I hr hlk (pk_nc _) (by rw [← hpost]; exact ⟨rfl, rfl⟩) dJ1_charAt_3b067_14
set_option maxHeartbeats 4000000 in
set_option maxRecDepth 100000 in
theorem c_J0_coder (l : Launch) (w : Wp) (g : Nat → Nat → Int32) (v : St) (i : Nat) (hq : Inj w) (hw : WF (wk w) g v) (hi : i < 11) : CTi w l yJ0_coder_7d493 (wsy yJ0_coder_7d493 prog_13_method_152_code 1 (some .byte)) (rmL 1) [.ref (wa w i)] v (fun (r : Int32) (u : St) => u = v ∧ r.toInt = 0) := by
  generalize hpost : (fun (r : Int32) (u : St) => u = v ∧ r.toInt = 0) = post
  refine CTi.of prog_13_method_152_code 1 (some .byte) "java/lang/String" (by decide +kernel) rfl hq hw (Nat.le_of_ble_eq_true rfl) ?_
  intro pg en s m ar bl me cd ls E I hr hlk hl
  have hx := E.1.1
  have hb := E.1.2.1
  have hl : lv_has ls 1 [(0, .ref (wa w i))] := hl
  have hO := (E.2.2.2.2.2.1.1 i hi).2.1
  refine va_gets hx hb E.2.2.2.2.2.2.1 I.2.1 E.1.2.2.2.1 (Ew E mw_2_155 rfl) (fun _ h => h) dJ0_coder_7d493_0 ?_
  refine bz_eq E (a := 1) rfl (tgt := 13) dJ0_coder_7d493_3 (by decide) (fun c => ?_) (fun c => ?_)
  · exfalso; omega
  · refine lv_aload_n hx hb dJ0_coder_7d493_6 rfl (lv_at hl 0 rfl) ?_
    refine vk_getf hx hb hO I.2.1 E.1.2.2.2.1 (Ew E mw_6_142 rfl) (fun _ h => h) dJ0_coder_7d493_7 ?_
    refine lv_goto (tgt := 14) hx hb dJ0_coder_7d493_10 (by decide) ?_
    exact rI E I hr hlk rfl (by rw [← hpost]; exact ⟨rfl, rfl⟩) dJ0_coder_7d493_14
set_option maxHeartbeats 4000000 in
set_option maxRecDepth 100000 in
theorem c_J0_isLatin1 (l : Launch) (w : Wp) (g : Nat → Nat → Int32) (v : St) (i : Nat) (hq : Inj w) (hw : WF (wk w) g v) (hi : i < 11) : CTi w l yJ0_isLatin1_aae02 (wsy yJ0_isLatin1_aae02 prog_13_method_154_code 1 (some .boolean)) (rmL 1) [.ref (wa w i)] v (fun (r : Int32) (u : St) => u = v ∧ r.toInt = 1) := by
  generalize hpost : (fun (r : Int32) (u : St) => u = v ∧ r.toInt = 1) = post
  refine CTi.of prog_13_method_154_code 1 (some .boolean) "java/lang/String" (by decide +kernel) rfl hq hw (Nat.le_of_ble_eq_true rfl) ?_
  intro pg en s m ar bl me cd ls E I hr hlk hl
  have hx := E.1.1
  have hb := E.1.2.1
  have hl : lv_has ls 1 [(0, .ref (wa w i))] := hl
  have hO := (E.2.2.2.2.2.1.1 i hi).2.1
  refine va_gets hx hb E.2.2.2.2.2.2.1 I.2.1 E.1.2.2.2.1 (Ew E mw_2_155 rfl) (fun _ h => h) dJ0_isLatin1_aae02_0 ?_
  refine bz_eq E (a := 1) rfl (tgt := 17) dJ0_isLatin1_aae02_3 (by decide) (fun c => ?_) (fun c => ?_)
  · exfalso; omega
  · refine lv_aload_n hx hb dJ0_isLatin1_aae02_6 rfl (lv_at hl 0 rfl) ?_
    refine vk_getf hx hb hO I.2.1 E.1.2.2.2.1 (Ew E mw_6_142 rfl) (fun _ h => h) dJ0_isLatin1_aae02_7 ?_
    refine bz_ne E (a := 0) rfl (tgt := 17) dJ0_isLatin1_aae02_10 (by decide) (fun c2 => ?_) (fun c2 => ?_)
    · exfalso; omega
    · refine lv_iconst (v := 1) hx hb dJ0_isLatin1_aae02_13 (by decide) ?_
      refine lv_goto (tgt := 18) hx hb dJ0_isLatin1_aae02_14 (by decide) ?_
      exact rI E I hr hlk rfl (by rw [← hpost]; exact ⟨rfl, rfl⟩) dJ0_isLatin1_aae02_18
set_option maxHeartbeats 4000000 in
set_option maxRecDepth 100000 in
theorem c_J0_length (l : Launch) (w : Wp) (g : Nat → Nat → Int32) (v : St) (i : Nat) (hq : Inj w) (hw : WF (wk w) g v) (hi : i < 11) : CTi w l yJ0_length_8abf5 (wsy yJ0_length_8abf5 prog_13_method_54_code 1 (some .int)) (rmL 2) [.ref (wa w i)] v (fun (r : Int32) (u : St) => u = v ∧ r.toInt = (sln.getD i 0 : Nat)) := by
  generalize hpost : (fun (r : Int32) (u : St) => u = v ∧ r.toInt = (sln.getD i 0 : Nat)) = post
  refine CTi.of prog_13_method_54_code 1 (some .int) "java/lang/String" (by decide +kernel) rfl hq hw (Nat.le_of_ble_eq_true rfl) ?_
  intro pg en s m ar bl me cd ls E I hr hlk hl
  have hx := E.1.1
  have hb := E.1.2.1
  have hl : lv_has ls 1 [(0, .ref (wa w i))] := hl
  have hS := E.2.2.2.2.2.1
  have hT := (hS.1 i hi).2.2.2
  refine lv_aload_n hx hb dJ0_length_8abf5_0 rfl (lv_at hl 0 rfl) ?_
  refine vk_getf hx hb (hS.1 i hi).2.2.1 I.2.1 E.1.2.2.2.1 (Ew E mw_6_141 rfl) (fun _ h => h) dJ0_length_8abf5_1 ?_
  refine va_tlen hx hb hT I.2.1 rfl dJ0_length_8abf5_4 ?_
  refine lv_aload_n hx hb dJ0_length_8abf5_5 rfl (lv_at hl 0 rfl) ?_
  refine cVxi E I (c_J0_coder l w g v i E.2.2.1 I.2.2 hi) (cwV 0 E.1.2.2.2.2 (gWs (C := "java/lang/String") mw_2_151 mw_2_152 mw_2_153 mw_1_10 mw_2_154) rfl rfl rfl (by decide +kernel) ⟨by decide, by decide⟩) (vk_recv hS hi I.2.1) rfl hl.1 rfl (Nat.le_of_ble_eq_true rfl) dJ0_length_8abf5_6 ⟨Nat.le_refl _, Nat.le_refl _⟩ (fun r1 u1 H lo hp hPS => ?_)
  obtain ⟨hu, h0⟩ := hp
  rw [hu] at hPS
  have I : Wo w g s.heap v H lo := ⟨hPS.1, hPS.2, I.2.2⟩
  have hz : r1 = 0 := Int32.toInt_inj.mp (by rw [h0]; rfl)
  rw [hz]
  refine lv_ishr hx hb dJ0_length_8abf5_9 ?_
  exact rI E I hr hlk rfl (by rw [← hpost]; exact ⟨rfl, sl_shr i hi⟩) dJ0_length_8abf5_10
set_option maxHeartbeats 4000000 in
set_option maxRecDepth 100000 in
theorem c_J0_charAt (l : Launch) (w : Wp) (g : Nat → Nat → Int32) (v : St) (i : Nat) (a0 : Int32) (hq : Inj w) (hw : WF (wk w) g v) (hi : i < 11) (h : 0 ≤ a0.toInt ∧ a0.toInt < (sln.getD i 0 : Nat)) : CTi w l yJ0_charAt_5068e (wsy yJ0_charAt_5068e prog_13_method_56_code 2 (some .char)) (rmL 4) [.ref (wa w i), .int a0] v (fun (r : Int32) (u : St) => u = v ∧ r = chz i a0.toNatClampNeg) := by
  generalize hpost : (fun (r : Int32) (u : St) => u = v ∧ r = chz i a0.toNatClampNeg) = post
  refine CTi.of prog_13_method_56_code 2 (some .char) "java/lang/String" (by decide +kernel) rfl hq hw (Nat.le_of_ble_eq_true rfl) ?_
  intro pg en s m ar bl me cd ls E I hr hlk hl
  have hx := E.1.1
  have hb := E.1.2.1
  have hl : lv_has ls 2 [(0, .ref (wa w i)), (1, .int a0)] := hl
  have hS := E.2.2.2.2.2.1
  refine lv_aload_n hx hb dJ0_charAt_5068e_0 rfl (lv_at hl 0 rfl) ?_
  refine cVxi E I (c_J0_isLatin1 l w g v i E.2.2.1 I.2.2 hi) (cwV 0 E.1.2.2.2.2 (gWs (C := "java/lang/String") mw_2_161 mw_2_162 mw_2_163 mw_1_10 mw_2_164) rfl rfl rfl (by decide +kernel) ⟨by decide, by decide⟩) (vk_recv hS hi I.2.1) rfl hl.1 rfl (Nat.le_of_ble_eq_true rfl) dJ0_charAt_5068e_1 ⟨Nat.le_refl _, Nat.le_refl _⟩ (fun r1 u1 H lo hp hPS => ?_)
  obtain ⟨hu, h0⟩ := hp
  rw [hu] at hPS
  have I : Wo w g s.heap v H lo := ⟨hPS.1, hPS.2, I.2.2⟩
  refine bz_eq E (a := r1.toInt) rfl (tgt := 16) dJ0_charAt_5068e_4 (by decide) (fun c => ?_) (fun c => ?_)
  · exfalso; omega
  · refine lv_aload_n hx hb dJ0_charAt_5068e_7 rfl (lv_at hl 0 rfl) ?_
    refine vk_getf hx hb (hS.1 i hi).2.2.1 I.2.1 E.1.2.2.2.1 (Ew E mw_6_141 rfl) (fun _ h => h) dJ0_charAt_5068e_8 ?_
    refine lv_iload_n hx hb dJ0_charAt_5068e_11 rfl (lv_at hl 1 rfl) ?_
    refine cSi E I (c_J1_charAt l w g v i a0 E.2.2.1 I.2.2 hi h) (va_cwS 2 E.1.2.2.2.2 (gSs mw_2_165 mw_2_166 mw_1_11 mw_2_167) rfl rfl rfl (by decide +kernel) ⟨by decide, by decide⟩) rfl hl.1 rfl (Nat.le_of_ble_eq_true rfl) dJ0_charAt_5068e_12 ⟨Nat.le_refl _, Nat.le_refl _⟩ (fun r2 u2 H lo hp hPS => ?_)
    obtain ⟨hu, hz⟩ := hp
    rw [hu] at hPS
    have I : Wo w g s.heap v H lo := ⟨hPS.1, hPS.2, I.2.2⟩
    rw [hz]
    exact rI E I hr hlk (show narrow .char (.int (chz i a0.toNatClampNeg)) = .int (chz i a0.toNatClampNeg) from pk_nc _) (by rw [← hpost]; exact ⟨rfl, rfl⟩) dJ0_charAt_5068e_15
def F_X5_isName (k0 i : Nat) (v : St) : Int32 :=
  xl (v.1 k0 3) fun x1 =>
  if x1.toInt = 1 then (
  xl (v.1 k0 5) fun x2 =>
  xl (v.1 k0 4) fun x3 =>
  if (x2 - x3).toInt = (sln.getD i 0 : Nat) then (
  xl (fun (self : Int32 → Int32) (y : Int32) => if y.toInt < (sln.getD i 0 : Nat) then (if (F_X5_byteAt k0 (x3 + y) v).toInt = (chz i y.toNatClampNeg).toInt then self (y + 1) else (0 : Int32)) else (1 : Int32)) fun P =>
  lp P (fun _ => (0 : Int32)) ((2147483647 - (0 : Int32).toInt).toNat + 1) (0 : Int32)) else (0 : Int32)) else (0 : Int32)
set_option maxHeartbeats 4000000 in
set_option maxRecDepth 100000 in
theorem c_X5_isName (l : Launch) (w : Wp) (g : Nat → Nat → Int32) (v : St) (k0 : Nat) (i : Nat) (hq : Inj w) (hw : WF (wk w) g v) (h_k0 : oT w k0) (hi : i < 11) : CTi w l yX5_isName (wsy yX5_isName prog_7_method_23_code 3 (some .boolean)) (rmL 5) [.ref (wq w k0), .ref (wa w i)] v (fun (r : Int32) (u : St) => (u = v ∧ 0 ≤ r.toInt ∧ r.toInt ≤ 1) ∧ (r = F_X5_isName k0 i v) ∧ True) := by
  generalize hpost : (fun (r : Int32) (u : St) => (u = v ∧ 0 ≤ r.toInt ∧ r.toInt ≤ 1) ∧ (r = F_X5_isName k0 i v) ∧ True) = post
  refine CTi.of prog_7_method_23_code 3 (some .boolean) "StarWalk$Tape" (by decide +kernel) rfl hq hw (Nat.le_of_ble_eq_true rfl) ?_
  intro pg en s m ar bl me cd ls E I hr hlk hl
  have hx := E.1.1
  have hb := E.1.2.1
  have hl : lv_has ls 3 [(0, .ref (wq w k0)), (1, .ref (wa w i))] := hl
  have hsl := sl_rng i hi
  obtain ⟨res, hres⟩ : ∃ z, z = F_X5_isName k0 i v := ⟨_, rfl⟩
  have hF := hres.symm
  unfold F_X5_isName at hF
  replace hres : res = F_X5_isName k0 i v := hres
  have L_28 : ∀ (P : (Int32 → Int32) → (Int32 → Int32)), P = (fun (self : Int32 → Int32) (y : Int32) => if y.toInt < (sln.getD i 0 : Nat) then (if (F_X5_byteAt k0 (v.1 k0 4 + y) v).toInt = (chz i y.toNatClampNeg).toInt then self (y + 1) else (0 : Int32)) else (1 : Int32)) → ∀ (n : Nat), ∀ (H : Heap) (lo : List Loc), Wo w g s.heap v H lo → ∀ (y : Int32), (0 ≤ y.toInt ∧ y.toInt ≤ 20) → lp P (fun _ => (0 : Int32)) n y = res → (2147483647 - y.toInt).toNat < n → ∀ (ls : Array Slot), lv_has ls 3 [(0, .ref (wq w k0)), (1, .ref (wa w i)), (2, .int y)] → W pg l en (rmL 5) s m ar bl me cd H lo 0 0 (Zi w bl ar s post) (F0 m 28 ls []) := by
    intro P eP n
    induction n with
    | zero => intro H lo I y hy hF hm; exact absurd hm (Nat.not_lt_zero _)
    | succ n ih =>
      intro H lo I y hy hF hm ls hl
      replace hF := lpa1 eP hF
      refine lv_iload_n hx hb dX5_isName_28 rfl (lv_at hl 2 rfl) ?_
      refine lv_aload_n hx hb dX5_isName_29 rfl (lv_at hl 1 rfl) ?_
      refine cVxi E I (c_J0_length l w g v i E.2.2.1 I.2.2 hi) (cwV 0 E.1.2.2.2.2 (gWs (C := "java/lang/String") mw_2_147 mw_2_148 mw_2_149 mw_1_10 mw_2_150) rfl rfl rfl (by decide +kernel) ⟨by decide, by decide⟩) (vk_recv E.2.2.2.2.2.1 hi I.2.1) rfl hl.1 rfl (Nat.le_of_ble_eq_true rfl) dX5_isName_30 ⟨Nat.le_refl _, Nat.le_refl _⟩ (fun r30 u30 H lo hp hPS => ?_)
      obtain ⟨hu, hln⟩ := hp
      rw [hu] at hPS
      have I : Wo w g s.heap v H lo := ⟨hPS.1, hPS.2, I.2.2⟩
      refine bi_ge E (a := y.toInt) (b := r30.toInt) rfl rfl (tgt := 62) dX5_isName_33 (by decide) (fun c1 => ?_) (fun c1 => ?_)
      · replace hF := if_l (by omega) hF
        refine lv_iconst (v := 1) hx hb dX5_isName_62 (by decide) ?_
        exact rI E I hr hlk rfl (by rw [← hpost]; exact ⟨⟨rfl, by decide⟩, hF.trans hres, trivial⟩) dX5_isName_63
      · replace hF := if_t (by omega) hF
        refine lv_aload_n hx hb dX5_isName_36 rfl (lv_at hl 0 rfl) ?_
        refine lv_aload_n hx hb dX5_isName_37 rfl (lv_at hl 0 rfl) ?_
        refine g_Tape_first E I h_k0.1 mw_1_175 dX5_isName_38 ?_
        refine lv_topi (fun x1 ex1 => ?_)
        refine lv_iload_n hx hb dX5_isName_41 rfl (lv_at hl 2 rfl) ?_
        refine lv_iadd hx hb dX5_isName_42 ?_
        refine lv_topi (fun x2 ex2 => ?_)
        refine cVi E I (c_X5_byteAt l w g v k0 x2 E.2.2.1 I.2.2 h_k0) (cwV 1 E.1.2.2.2.2 (gWs (C := "StarWalk$Tape") mw_2_127 mw_2_129 mw_s_1 mw_1_2 mw_2_130) rfl rfl rfl (by decide +kernel) ⟨by decide, by decide⟩) h_k0.1.1 ((ce_o h_k0.1.2).trans rfl) rfl rfl hl.1 rfl (Nat.le_of_ble_eq_true rfl) dX5_isName_43 ⟨Nat.le_refl _, Nat.le_refl _⟩ (fun r43 u43 H lo hp hPS => ?_)
        obtain ⟨⟨hu, -⟩, hex43, -⟩ := hp
        rw [hu] at hPS
        have I : Wo w g s.heap v H lo := ⟨hPS.1, hPS.2, I.2.2⟩
        refine lv_aload_n hx hb dX5_isName_46 rfl (lv_at hl 1 rfl) ?_
        refine lv_iload_n hx hb dX5_isName_47 rfl (lv_at hl 2 rfl) ?_
        refine cVxi E I (c_J0_charAt l w g v i y E.2.2.1 I.2.2 hi (by omega)) (cwV 1 E.1.2.2.2.2 (gWs (C := "java/lang/String") mw_2_157 mw_2_158 mw_2_159 mw_1_10 mw_2_160) rfl rfl rfl (by decide +kernel) ⟨by decide, by decide⟩) (vk_recv E.2.2.2.2.2.1 hi I.2.1) rfl hl.1 rfl (Nat.le_of_ble_eq_true rfl) dX5_isName_48 ⟨Nat.le_refl _, Nat.le_refl _⟩ (fun r48 u48 H lo hp hPS => ?_)
        obtain ⟨hu, hch48⟩ := hp
        rw [hu] at hPS
        have I : Wo w g s.heap v H lo := ⟨hPS.1, hPS.2, I.2.2⟩
        refine bi_eq E (a := r43.toInt) (b := r48.toInt) rfl rfl (tgt := 56) dX5_isName_51 (by decide) (fun c2 => ?_) (fun c2 => ?_)
        · replace hF := if_t (by rw [← ex1, ← ex2, ← hex43, ← hch48]; exact c2) hF
          obtain ⟨y2, ey2⟩ : ∃ z : Int32, z = y + 1 := ⟨_, rfl⟩
          have hy2 : y2.toInt = y.toInt + 1 := by rw [ey2]; exact adI (a := y.toInt) (b := 1) rfl rfl (by omega) (by omega)
          refine lv_iinc (v := y2) (lv' := [(2, .int y2), (0, .ref (wq w k0)), (1, .ref (wa w i))]) hx hb dX5_isName_56 hl (k := 2) rfl (by rw [ey2]; rfl) (by decide) rfl (fun ls hl => ?_)
          refine lv_goto (tgt := 28) hx hb dX5_isName_59 (by decide) ?_
          exact ih _ _ I y2 (by omega) (by rw [ey2]; exact hF) (by omega) ls (lv_sub hl [1, 2, 0] rfl)
        · replace hF := if_f (by rw [← ex1, ← ex2, ← hex43, ← hch48]; exact c2) hF
          refine lv_iconst (v := 0) hx hb dX5_isName_54 (by decide) ?_
          exact rI E I hr hlk rfl (by rw [← hpost]; exact ⟨⟨rfl, by decide⟩, hF.trans hres, trivial⟩) dX5_isName_55
  refine lv_aload_n hx hb dX5_isName_0 rfl (lv_at hl 0 rfl) ?_
  refine g_Tape_kind E I h_k0.1 mw_1_174 dX5_isName_1 ?_
  refine lv_topi (fun x1 ex1 => ?_)
  refine lv_iconst (v := 1) hx hb dX5_isName_4 (by decide) ?_
  refine bi_ne E (a := x1.toInt) (b := 1) rfl rfl (tgt := 24) dX5_isName_5 (by decide) (fun c1 => ?_) (fun c1 => ?_)
  · replace hF := if_f (fun z => c1 (by rw [ex1]; exact z)) hF
    refine lv_iconst (v := 0) hx hb dX5_isName_24 (by decide) ?_
    exact rI E I hr hlk rfl (by rw [← hpost]; exact ⟨⟨rfl, by decide⟩, hF.trans hres, trivial⟩) dX5_isName_25
  · replace hF := if_t (by rw [← ex1]; exact c1) hF
    refine lv_aload_n hx hb dX5_isName_8 rfl (lv_at hl 0 rfl) ?_
    refine g_Tape_behind E I h_k0.1 mw_1_176 dX5_isName_9 ?_
    refine lv_topi (fun x2 ex2 => ?_)
    refine lv_aload_n hx hb dX5_isName_12 rfl (lv_at hl 0 rfl) ?_
    refine g_Tape_first E I h_k0.1 mw_1_175 dX5_isName_13 ?_
    refine lv_topi (fun x3 ex3 => ?_)
    refine lv_isub hx hb dX5_isName_16 ?_
    refine lv_topi (fun x4 ex4 => ?_)
    refine lv_aload_n hx hb dX5_isName_17 rfl (lv_at hl 1 rfl) ?_
    refine cVxi E I (c_J0_length l w g v i E.2.2.1 I.2.2 hi) (cwV 0 E.1.2.2.2.2 (gWs (C := "java/lang/String") mw_2_147 mw_2_148 mw_2_149 mw_1_10 mw_2_150) rfl rfl rfl (by decide +kernel) ⟨by decide, by decide⟩) (vk_recv E.2.2.2.2.2.1 hi I.2.1) rfl hl.1 rfl (Nat.le_of_ble_eq_true rfl) dX5_isName_18 ⟨Nat.le_refl _, Nat.le_refl _⟩ (fun r18 u18 H lo hp hPS => ?_)
    obtain ⟨hu, hln⟩ := hp
    rw [hu] at hPS
    have I : Wo w g s.heap v H lo := ⟨hPS.1, hPS.2, I.2.2⟩
    refine bi_eq E (a := x4.toInt) (b := r18.toInt) rfl rfl (tgt := 26) dX5_isName_21 (by decide) (fun c2 => ?_) (fun c2 => ?_)
    · replace hF := if_t (by rw [← ex2, ← ex3, ← ex4, ← hln]; exact c2) hF
      obtain ⟨P, eP, hF⟩ := xl_e hF
      refine lv_iconst (v := 0) hx hb dX5_isName_26 (by decide) ?_
      refine lv_istore_n (lv' := [(2, .int 0), (0, .ref (wq w k0)), (1, .ref (wa w i))]) hx hb dX5_isName_27 rfl hl (by decide) rfl (fun ls hl => ?_)
      exact L_28 P eP _ _ _ I 0 (by decide) hF (Nat.lt_succ_self _) ls (lv_sub hl [1, 2, 0] rfl)
    · replace hF := if_f (by rw [← ex2, ← ex3, ← ex4, ← hln]; exact c2) hF
      refine lv_iconst (v := 0) hx hb dX5_isName_24 (by decide) ?_
      exact rI E I hr hlk rfl (by rw [← hpost]; exact ⟨⟨rfl, by decide⟩, hF.trans hres, trivial⟩) dX5_isName_25
