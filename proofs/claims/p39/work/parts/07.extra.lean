section CP
variable {p : Program} {l : Launch} {e : Env} {R : Room} {s : State} {m : MethodId} {args : Array Value} {below : List Frame} {meth : Method} {c : Code} {H : Heap} {locs : List Loc} {cells slots : Nat} {Q : State → Prop}
variable {cc : ByteArray} {pc : Nat} {ls : Array Slot} {rest : List Value} {w : Wp} {g : Nat → Nat → Int32} {v : St} {H0 : Heap} {nL : Nat} {own : String} {a b index : Nat}
theorem cp_10 (E : En w p m c cc nL s args own) (I : Wo w g H0 v H locs) (ha : isK w a 10) (hb2 : isK w b 10) (hl : Cond.methodLink own index arraycopyName ∈ lw_tbl) (hml : c.maxLocals = ls.size) (hf : 1 ≤ R.frames) (hlo : (rest.map fun v => v.category).sum + (nativeFrameWords "java/lang/System" "arraycopy" 5 + 11) ≤ R.locals) (hdg : decode cc pc = .ok (.invokestatic index, 3))
    (kk : ∀ (H1 : Heap) (locs1 : List Loc), Wo w g H0 (upR v b (va_cpy (v.1 a) (v.1 b) 0 0 5)) H1 locs1 → W p l e R s m args below meth c H1 locs1 cells slots Q (F0 m (pc + 3) ls rest)) : W p l e R s m args below meth c H locs cells slots Q (F0 m pc ls (.int 5 :: .int 0 :: .ref (wq w b) :: .int 0 :: .ref (wq w a) :: rest)) := by
  have EE := E
  obtain ⟨⟨hx, hb, hml2, hown, hts⟩, hK, hq, -⟩ := E
  refine va_copyi (D := wD w) hx hb hml hown (Ew EE hl rfl) (Ew EE mw_3_66 rfl) (Ew EE mw_3_65 rfl) (Ew EE mw_1_14 rfl) hK I.1 (wd_D hq) I.2.1 a b 1 1 (n0 := 5) (n1 := 5) (f := v.1 a) (g := v.1 b) (ty := .int) (by rw [wd_get ha.1]; exact congrArg some (congrArg (Prod.mk _) ((ce_o ha.2).trans rfl))) (by rw [wd_get hb2.1]; exact congrArg some (congrArg (Prod.mk _) ((ce_o hb2.2).trans rfl))) rfl rfl rfl (by decide) (by decide) (by decide) (by decide) (by decide) (fun _ _ => rfl) hf hlo hdg (fun H1 locs1 hP _ hS => ?_)
  have e0 : (0 : Int32).toNatClampNeg = 0 := rfl
  have en : (5 : Int32).toNatClampNeg = 5 := rfl
  rw [e0, en, wd_set (v' := upR v b (va_cpy (v.1 a) (v.1 b) 0 0 5)) hb2.1 (by rw [ce_o hb2.2, upR_k]; rfl) (upR_o _ _ _) (fun _ _ => rfl)] at hP
  refine kk H1 locs1 ⟨hP, hS, I.2.2.row hb2.2 (fun j => ?_) (fun _ => rfl)⟩
  have h1 := (I.2.2 a (0 + (j - 0))).1
  have h2 := (I.2.2 b j).1
  rw [ha.2] at h1
  rw [hb2.2] at h2
  unfold va_cpy
  split
  · first | exact h1 | simp [okk]
  · exact h2
theorem cp_11 (E : En w p m c cc nL s args own) (I : Wo w g H0 v H locs) (ha : isK w a 11) (hb2 : isK w b 11) (hl : Cond.methodLink own index arraycopyName ∈ lw_tbl) (hml : c.maxLocals = ls.size) (hf : 1 ≤ R.frames) (hlo : (rest.map fun v => v.category).sum + (nativeFrameWords "java/lang/System" "arraycopy" 5 + 11) ≤ R.locals) (hdg : decode cc pc = .ok (.invokestatic index, 3))
    (kk : ∀ (H1 : Heap) (locs1 : List Loc), Wo w g H0 (upR v b (va_cpy (v.1 a) (v.1 b) 0 0 3)) H1 locs1 → W p l e R s m args below meth c H1 locs1 cells slots Q (F0 m (pc + 3) ls rest)) : W p l e R s m args below meth c H locs cells slots Q (F0 m pc ls (.int 3 :: .int 0 :: .ref (wq w b) :: .int 0 :: .ref (wq w a) :: rest)) := by
  have EE := E
  obtain ⟨⟨hx, hb, hml2, hown, hts⟩, hK, hq, -⟩ := E
  refine va_copyi (D := wD w) hx hb hml hown (Ew EE hl rfl) (Ew EE mw_3_66 rfl) (Ew EE mw_3_65 rfl) (Ew EE mw_1_14 rfl) hK I.1 (wd_D hq) I.2.1 a b 1 1 (n0 := 3) (n1 := 3) (f := v.1 a) (g := v.1 b) (ty := .int) (by rw [wd_get ha.1]; exact congrArg some (congrArg (Prod.mk _) ((ce_o ha.2).trans rfl))) (by rw [wd_get hb2.1]; exact congrArg some (congrArg (Prod.mk _) ((ce_o hb2.2).trans rfl))) rfl rfl rfl (by decide) (by decide) (by decide) (by decide) (by decide) (fun _ _ => rfl) hf hlo hdg (fun H1 locs1 hP _ hS => ?_)
  have e0 : (0 : Int32).toNatClampNeg = 0 := rfl
  have en : (3 : Int32).toNatClampNeg = 3 := rfl
  rw [e0, en, wd_set (v' := upR v b (va_cpy (v.1 a) (v.1 b) 0 0 3)) hb2.1 (by rw [ce_o hb2.2, upR_k]; rfl) (upR_o _ _ _) (fun _ _ => rfl)] at hP
  refine kk H1 locs1 ⟨hP, hS, I.2.2.row hb2.2 (fun j => ?_) (fun _ => rfl)⟩
  have h1 := (I.2.2 a (0 + (j - 0))).1
  have h2 := (I.2.2 b j).1
  rw [ha.2] at h1
  rw [hb2.2] at h2
  unfold va_cpy
  split
  · first | exact h1 | simp [okk]
  · exact h2
theorem cp_12 (E : En w p m c cc nL s args own) (I : Wo w g H0 v H locs) (ha : isK w a 12) (hb2 : isK w b 12) (hl : Cond.methodLink own index arraycopyName ∈ lw_tbl) (hml : c.maxLocals = ls.size) (hf : 1 ≤ R.frames) (hlo : (rest.map fun v => v.category).sum + (nativeFrameWords "java/lang/System" "arraycopy" 5 + 11) ≤ R.locals) (hdg : decode cc pc = .ok (.invokestatic index, 3))
    (kk : ∀ (H1 : Heap) (locs1 : List Loc), Wo w g H0 (upR v b (va_cpy (v.1 a) (v.1 b) 0 0 8)) H1 locs1 → W p l e R s m args below meth c H1 locs1 cells slots Q (F0 m (pc + 3) ls rest)) : W p l e R s m args below meth c H locs cells slots Q (F0 m pc ls (.int 8 :: .int 0 :: .ref (wq w b) :: .int 0 :: .ref (wq w a) :: rest)) := by
  have EE := E
  obtain ⟨⟨hx, hb, hml2, hown, hts⟩, hK, hq, -⟩ := E
  refine va_copyi (D := wD w) hx hb hml hown (Ew EE hl rfl) (Ew EE mw_3_66 rfl) (Ew EE mw_3_65 rfl) (Ew EE mw_1_14 rfl) hK I.1 (wd_D hq) I.2.1 a b 1 1 (n0 := 8) (n1 := 8) (f := v.1 a) (g := v.1 b) (ty := .int) (by rw [wd_get ha.1]; exact congrArg some (congrArg (Prod.mk _) ((ce_o ha.2).trans rfl))) (by rw [wd_get hb2.1]; exact congrArg some (congrArg (Prod.mk _) ((ce_o hb2.2).trans rfl))) rfl rfl rfl (by decide) (by decide) (by decide) (by decide) (by decide) (fun _ _ => rfl) hf hlo hdg (fun H1 locs1 hP _ hS => ?_)
  have e0 : (0 : Int32).toNatClampNeg = 0 := rfl
  have en : (8 : Int32).toNatClampNeg = 8 := rfl
  rw [e0, en, wd_set (v' := upR v b (va_cpy (v.1 a) (v.1 b) 0 0 8)) hb2.1 (by rw [ce_o hb2.2, upR_k]; rfl) (upR_o _ _ _) (fun _ _ => rfl)] at hP
  refine kk H1 locs1 ⟨hP, hS, I.2.2.row hb2.2 (fun j => ?_) (fun _ => rfl)⟩
  have h1 := (I.2.2 a (0 + (j - 0))).1
  have h2 := (I.2.2 b j).1
  rw [ha.2] at h1
  rw [hb2.2] at h2
  unfold va_cpy
  split
  · first | exact h1 | simp [okk]
  · exact h2
theorem cp_13 (E : En w p m c cc nL s args own) (I : Wo w g H0 v H locs) (ha : isK w a 13) (hb2 : isK w b 13) (hl : Cond.methodLink own index arraycopyName ∈ lw_tbl) (hml : c.maxLocals = ls.size) (hf : 1 ≤ R.frames) (hlo : (rest.map fun v => v.category).sum + (nativeFrameWords "java/lang/System" "arraycopy" 5 + 11) ≤ R.locals) (hdg : decode cc pc = .ok (.invokestatic index, 3))
    (kk : ∀ (H1 : Heap) (locs1 : List Loc), Wo w g H0 (upR v b (va_cpy (v.1 a) (v.1 b) 0 0 6)) H1 locs1 → W p l e R s m args below meth c H1 locs1 cells slots Q (F0 m (pc + 3) ls rest)) : W p l e R s m args below meth c H locs cells slots Q (F0 m pc ls (.int 6 :: .int 0 :: .ref (wq w b) :: .int 0 :: .ref (wq w a) :: rest)) := by
  have EE := E
  obtain ⟨⟨hx, hb, hml2, hown, hts⟩, hK, hq, -⟩ := E
  refine va_copyi (D := wD w) hx hb hml hown (Ew EE hl rfl) (Ew EE mw_3_66 rfl) (Ew EE mw_3_65 rfl) (Ew EE mw_1_14 rfl) hK I.1 (wd_D hq) I.2.1 a b 1 1 (n0 := 6) (n1 := 6) (f := v.1 a) (g := v.1 b) (ty := .int) (by rw [wd_get ha.1]; exact congrArg some (congrArg (Prod.mk _) ((ce_o ha.2).trans rfl))) (by rw [wd_get hb2.1]; exact congrArg some (congrArg (Prod.mk _) ((ce_o hb2.2).trans rfl))) rfl rfl rfl (by decide) (by decide) (by decide) (by decide) (by decide) (fun _ _ => rfl) hf hlo hdg (fun H1 locs1 hP _ hS => ?_)
  have e0 : (0 : Int32).toNatClampNeg = 0 := rfl
  have en : (6 : Int32).toNatClampNeg = 6 := rfl
  rw [e0, en, wd_set (v' := upR v b (va_cpy (v.1 a) (v.1 b) 0 0 6)) hb2.1 (by rw [ce_o hb2.2, upR_k]; rfl) (upR_o _ _ _) (fun _ _ => rfl)] at hP
  refine kk H1 locs1 ⟨hP, hS, I.2.2.row hb2.2 (fun j => ?_) (fun _ => rfl)⟩
  have h1 := (I.2.2 a (0 + (j - 0))).1
  have h2 := (I.2.2 b j).1
  rw [ha.2] at h1
  rw [hb2.2] at h2
  unfold va_cpy
  split
  · first | exact h1 | simp [okk]
  · exact h2
theorem cp_14 (E : En w p m c cc nL s args own) (I : Wo w g H0 v H locs) (ha : isK w a 14) (hb2 : isK w b 14) (hl : Cond.methodLink own index arraycopyName ∈ lw_tbl) (hml : c.maxLocals = ls.size) (hf : 1 ≤ R.frames) (hlo : (rest.map fun v => v.category).sum + (nativeFrameWords "java/lang/System" "arraycopy" 5 + 11) ≤ R.locals) (hdg : decode cc pc = .ok (.invokestatic index, 3))
    (kk : ∀ (H1 : Heap) (locs1 : List Loc), Wo w g H0 (upR v b (va_cpy (v.1 a) (v.1 b) 0 0 6)) H1 locs1 → W p l e R s m args below meth c H1 locs1 cells slots Q (F0 m (pc + 3) ls rest)) : W p l e R s m args below meth c H locs cells slots Q (F0 m pc ls (.int 6 :: .int 0 :: .ref (wq w b) :: .int 0 :: .ref (wq w a) :: rest)) := by
  have EE := E
  obtain ⟨⟨hx, hb, hml2, hown, hts⟩, hK, hq, -⟩ := E
  refine va_copyi (D := wD w) hx hb hml hown (Ew EE hl rfl) (Ew EE mw_3_66 rfl) (Ew EE mw_3_65 rfl) (Ew EE mw_1_14 rfl) hK I.1 (wd_D hq) I.2.1 a b 1 1 (n0 := 6) (n1 := 6) (f := v.1 a) (g := v.1 b) (ty := .int) (by rw [wd_get ha.1]; exact congrArg some (congrArg (Prod.mk _) ((ce_o ha.2).trans rfl))) (by rw [wd_get hb2.1]; exact congrArg some (congrArg (Prod.mk _) ((ce_o hb2.2).trans rfl))) rfl rfl rfl (by decide) (by decide) (by decide) (by decide) (by decide) (fun _ _ => rfl) hf hlo hdg (fun H1 locs1 hP _ hS => ?_)
  have e0 : (0 : Int32).toNatClampNeg = 0 := rfl
  have en : (6 : Int32).toNatClampNeg = 6 := rfl
  rw [e0, en, wd_set (v' := upR v b (va_cpy (v.1 a) (v.1 b) 0 0 6)) hb2.1 (by rw [ce_o hb2.2, upR_k]; rfl) (upR_o _ _ _) (fun _ _ => rfl)] at hP
  refine kk H1 locs1 ⟨hP, hS, I.2.2.row hb2.2 (fun j => ?_) (fun _ => rfl)⟩
  have h1 := (I.2.2 a (0 + (j - 0))).1
  have h2 := (I.2.2 b j).1
  rw [ha.2] at h1
  rw [hb2.2] at h2
  unfold va_cpy
  split
  · first | exact h1 | simp [okk]
  · exact h2
theorem cp_16 (E : En w p m c cc nL s args own) (I : Wo w g H0 v H locs) (ha : isK w a 16) (hb2 : isK w b 16) (hl : Cond.methodLink own index arraycopyName ∈ lw_tbl) (hml : c.maxLocals = ls.size) (hf : 1 ≤ R.frames) (hlo : (rest.map fun v => v.category).sum + (nativeFrameWords "java/lang/System" "arraycopy" 5 + 11) ≤ R.locals) (hdg : decode cc pc = .ok (.invokestatic index, 3))
    (kk : ∀ (H1 : Heap) (locs1 : List Loc), Wo w g H0 (upR v b (va_cpy (v.1 a) (v.1 b) 0 0 4)) H1 locs1 → W p l e R s m args below meth c H1 locs1 cells slots Q (F0 m (pc + 3) ls rest)) : W p l e R s m args below meth c H locs cells slots Q (F0 m pc ls (.int 4 :: .int 0 :: .ref (wq w b) :: .int 0 :: .ref (wq w a) :: rest)) := by
  have EE := E
  obtain ⟨⟨hx, hb, hml2, hown, hts⟩, hK, hq, -⟩ := E
  refine va_copyi (D := wD w) hx hb hml hown (Ew EE hl rfl) (Ew EE mw_3_66 rfl) (Ew EE mw_3_65 rfl) (Ew EE mw_1_14 rfl) hK I.1 (wd_D hq) I.2.1 a b 1 1 (n0 := 4) (n1 := 4) (f := v.1 a) (g := v.1 b) (ty := .int) (by rw [wd_get ha.1]; exact congrArg some (congrArg (Prod.mk _) ((ce_o ha.2).trans rfl))) (by rw [wd_get hb2.1]; exact congrArg some (congrArg (Prod.mk _) ((ce_o hb2.2).trans rfl))) rfl rfl rfl (by decide) (by decide) (by decide) (by decide) (by decide) (fun _ _ => rfl) hf hlo hdg (fun H1 locs1 hP _ hS => ?_)
  have e0 : (0 : Int32).toNatClampNeg = 0 := rfl
  have en : (4 : Int32).toNatClampNeg = 4 := rfl
  rw [e0, en, wd_set (v' := upR v b (va_cpy (v.1 a) (v.1 b) 0 0 4)) hb2.1 (by rw [ce_o hb2.2, upR_k]; rfl) (upR_o _ _ _) (fun _ _ => rfl)] at hP
  refine kk H1 locs1 ⟨hP, hS, I.2.2.row hb2.2 (fun j => ?_) (fun _ => rfl)⟩
  have h1 := (I.2.2 a (0 + (j - 0))).1
  have h2 := (I.2.2 b j).1
  rw [ha.2] at h1
  rw [hb2.2] at h2
  unfold va_cpy
  split
  · first | exact h1 | simp [okk]
  · exact h2
theorem cVxi (E : En w p m c cc nL s args own) (I : Wo w g s.heap v H locs) {y : MethodName} {bytes : ByteArray} {maxL n index : Nat} {ret : Option FieldType} {ws : List Cond} {rm : Room} {As : List Value} {post : Int32 → St → Prop} {C : String} {b : Nat} (hM : CTi w l y ws rm (.ref b :: As) v post) (cw : CallW R s args own C index y bytes maxL ret ws rm 0 0 n) (hrec : ∃ cell : Cell, H[b]? = some cell ∧ cell.vm.isStatics = false ∧ s.vm.findClass C = some cell.cls) {st0 : List Value} (hn : As.length = n) (hsize : ls.size = nL) (hstack : st0 = As.reverse ++ .ref b :: rest) (hW : (rest.map fun v => v.category).sum ≤ 8) (hdg : decode cc pc = .ok (.invokevirtual index, 3)) (hf : cells ≤ R.cells ∧ slots ≤ R.slots)
    (kk : ∀ (r : Int32) (u : St) (H1 : Heap) (locs1 : List Loc), post r u → (va_P (wD w) vwCl (wd w u) H1 ∧ va_S (Aw w) s.heap H1 locs1) → W p l e R s m args below meth c H1 locs1 cells slots Q (F0 m (pc + 3) ls (.int r :: rest))) : W p l e R s m args below meth c H locs cells slots Q (F0 m pc ls st0) := by
  obtain ⟨S, hK, hq, hX⟩ := E
  subst hstack
  refine va_calli (A0 := Aw w) (va_runV (As := As) (rest := rest) S hM cw ⟨Pw.blind, hrec, fun U hU hW => ⟨rfl, by rw [hU]; exact I.1, va_K.moved hW.alike hK, by rw [hU]; exact (hX.warm hW).kept I.2.1.2.1⟩⟩ rfl hn hsize rfl (lv_room hW) hdg hf) I.2.1 (fun _ _ h => h) (fun _ h => h) (fun r u t H1 locs1 ht hvm hw hB hz1 hk1 hS => ?_)
  exact kk r u H1 locs1 hw ⟨by rw [← ht]; exact hB, hS⟩
end CP
theorem lcB (x y : Int64) : ((lg_cmp x y).toInt < 0 ↔ x.toInt < y.toInt) ∧ (0 < (lg_cmp x y).toInt ↔ y.toInt < x.toInt) := by
  have c1 : (-1 : Int32).toInt = -1 := rfl
  have c2 : (1 : Int32).toInt = 1 := rfl
  have c0 : (0 : Int32).toInt = 0 := rfl
  unfold lg_cmp
  simp only [gt_iff_lt, Int64.lt_iff_toInt_lt, ← Int64.toInt_inj]
  by_cases h : y.toInt < x.toInt
  · rw [if_pos h]; omega
  · rw [if_neg h]
    by_cases h2 : x.toInt = y.toInt
    · rw [if_pos h2]; omega
    · rw [if_neg h2]; omega
theorem bm64 {z : Int} (h1 : -9223372036854775808 ≤ z) (h2 : z < 9223372036854775808) : z.bmod (2 ^ 64) = z := Int.bmod_eq_of_le (by omega) (by omega)
theorem i64_rng (x : Int64) : -9223372036854775808 ≤ x.toInt ∧ x.toInt ≤ 9223372036854775807 := by
  have h1 := Int64.le_toInt x
  have h2 := Int64.toInt_lt x
  omega
theorem mlL {x y : Int64} {a b : Int} (hx : x.toInt = a) (hy : y.toInt = b) (h1 : -9223372036854775808 ≤ a * b) (h2 : a * b < 9223372036854775808) : (x * y).toInt = a * b := by
  rw [Int64.toInt_mul, hx, hy]; exact bm64 h1 h2
theorem adL {x y : Int64} {a b : Int} (hx : x.toInt = a) (hy : y.toInt = b) (h1 : -9223372036854775808 ≤ a + b) (h2 : a + b < 9223372036854775808) : (x + y).toInt = a + b := by
  rw [Int64.toInt_add, hx, hy]; exact bm64 h1 h2
theorem lrB (x y : Int64) (hy : ¬ y = 0) : (x - x / y * y).toInt.natAbs < y.toInt.natAbs := by
  have hy0 : ¬ y.toInt = 0 := fun z => hy (Int64.toInt_inj.mp (by rw [z]; rfl))
  have e : (x - x / y * y).toInt = (x.toInt - (x.toInt.tdiv y.toInt) * y.toInt).bmod (2 ^ 64) := by
    rw [Int64.toInt_sub, Int64.toInt_mul, Int64.toInt_div, Int.bmod_mul_bmod, Int.sub_bmod_bmod]
  have m1 : x.toInt - (x.toInt.tdiv y.toInt) * y.toInt = x.toInt.tmod y.toInt := by
    have := Int.tdiv_mul_add_tmod x.toInt y.toInt
    omega
  have m2 : (x.toInt.tmod y.toInt).natAbs < y.toInt.natAbs := by
    rw [Int.natAbs_tmod]
    exact Nat.mod_lt _ (by omega)
  have ry := i64_rng y
  rw [e, m1, bm64 (by omega) (by omega)]
  exact m2
theorem upL_n (v : St) {k j k2 j2 : Nat} (x : Int64) (h : k2 ≠ k ∨ j2 ≠ j) : (upL v k j x).2 k2 j2 = v.2 k2 j2 := by
  unfold upL va_up vp_updL
  by_cases h1 : k2 = k
  · subst h1
    have h2 : j2 ≠ j := h.resolve_left (fun z => z rfl)
    simp [h2]
  · simp [h1]
theorem lz2 {x : Int64} (h : ¬ x.toInt = 0) : ¬ x = 0 := fun z => h (by rw [z]; rfl)
/-- all stays but the slots lo to hi of the role k0 -/
def Fr (k0 lo hi : Nat) (v u : St) : Prop := ∀ k j, ¬ (k = k0 ∧ lo ≤ j ∧ j ≤ hi) → u.1 k j = v.1 k j
theorem Fr.refl (k0 lo hi : Nat) (v : St) : Fr k0 lo hi v v := fun _ _ _ => rfl
theorem Fr.put {k0 lo hi : Nat} {v c c' : St} {j : Nat} {x : Int32} (h : Fr k0 lo hi v c) (e : up1 c k0 j x = c') (hj : lo ≤ j ∧ j ≤ hi) : Fr k0 lo hi v c' := fun k i hk => by
  rw [← e, up1_n _ _ (by omega)]
  exact h k i hk
theorem Fr.tr {k0 lo hi lo2 hi2 : Nat} {v c u : St} (h : Fr k0 lo hi v c) (h2 : Fr k0 lo2 hi2 c u) (hj : lo ≤ lo2 ∧ hi2 ≤ hi) : Fr k0 lo hi v u := fun k i hk => by
  rw [h2 k i (by omega)]
  exact h k i hk
def tm (p f s : Int) : Nat := (2 * (160 - p) + (if f = 0 ∧ ¬ s = 0 then 1 else 0)).toNat
theorem tm_lt {p f s p2 f2 s2 : Int} (h0 : f = 0) (h1 : ¬ s = 0) (hp : p ≤ p2) (hb : p2 ≤ 160) (h : f2 = 0 → ¬ s2 = 0 → p < p2) : tm p2 f2 s2 < tm p f s := by
  unfold tm
  rw [if_pos (⟨h0, h1⟩ : f = 0 ∧ ¬ s = 0)]
  by_cases c : f2 = 0 ∧ ¬ s2 = 0
  · rw [if_pos c]
    have := h c.1 c.2
    omega
  · rw [if_neg c]
    omega
theorem lz_of {x : Int64} (h : ¬ x.toInt = (0 : Int64).toInt) : ¬ x = 0 := fun z => h (by rw [z])
theorem gup_s (g : Nat → Nat → Int32) (k j : Nat) (x : Int32) : gup g k j x k j = x := by simp [gup, va_up, upd]
theorem gup_n (g : Nat → Nat → Int32) {k j k2 j2 : Nat} (x : Int32) (h : k2 ≠ k ∨ j2 ≠ j) : gup g k j x k2 j2 = g k2 j2 := by
  unfold gup va_up upd
  by_cases h1 : k2 = k
  · subst h1
    have h2 : j2 ≠ j := h.resolve_left (fun z => z rfl)
    simp [h2]
  · simp [h1]
theorem i64_of (x : Int32) : x.toInt64.toInt = x.toInt := Int32.toInt_toInt64 x
