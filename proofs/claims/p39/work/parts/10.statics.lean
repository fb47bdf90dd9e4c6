def F_X7_oneIf (a0 : Int32) (v : St) : Int32 :=
if a0.toInt = 0 then (
(0 : Int32)) else (
(1 : Int32))
set_option maxHeartbeats 4000000 in
set_option maxRecDepth 100000 in
theorem c_X7_oneIf (l : Launch) (w : Wp) (g : Nat → Nat → Int32) (v : St) (a0 : Int32) (hq : Inj w) (hw : WF (wk w) g v) : CTi w l yX7_oneIf (wsy yX7_oneIf prog_1_method_46_code 1 (some .int)) (rmL 1) [.int a0] v (fun (r : Int32) (u : St) => (u = v ∧ 0 ≤ r.toInt ∧ r.toInt ≤ 1) ∧ (r = F_X7_oneIf a0 v) ∧ True) := by
  generalize hpost : (fun (r : Int32) (u : St) => (u = v ∧ 0 ≤ r.toInt ∧ r.toInt ≤ 1) ∧ (r = F_X7_oneIf a0 v) ∧ True) = post
  refine CTi.of prog_1_method_46_code 1 (some .int) "StarWalk" (by decide +kernel) rfl hq hw (Nat.le_of_ble_eq_true rfl) ?_
  intro pg en s m ar bl me cd ls E I hr hlk hl
  have hx := E.1.1
  have hb := E.1.2.1
  have hl : lv_has ls 1 [(0, .int a0)] := hl
  obtain ⟨res, hres⟩ : ∃ z, z = F_X7_oneIf a0 v := ⟨_, rfl⟩
  have hF := hres.symm
  unfold F_X7_oneIf at hF
  replace hres : res = F_X7_oneIf a0 v := hres
  refine lv_iload_n hx hb dX7_oneIf_0 rfl (lv_at hl 0 rfl) ?_
  refine bz_eq E (a := a0.toInt) rfl (tgt := 8) dX7_oneIf_1 (by decide) (fun c1 => ?_) (fun c1 => ?_)
  ·
    replace hF := if_t c1 hF
    refine lv_iconst (v := 0) hx hb dX7_oneIf_8 (by decide) ?_
    exact rI E I hr hlk rfl (by rw [← hpost]; exact ⟨⟨rfl, by have eL : (0 : Int32).toInt = 0 := rfl; omega⟩, hF.trans hres, trivial⟩) dX7_oneIf_9
  ·
    replace hF := if_f c1 hF
    refine lv_iconst (v := 1) hx hb dX7_oneIf_4 (by decide) ?_
    refine lv_goto (tgt := 9) hx hb dX7_oneIf_5 (by decide) ?_
    exact rI E I hr hlk rfl (by rw [← hpost]; exact ⟨⟨rfl, by have eL : (1 : Int32).toInt = 1 := rfl; omega⟩, hF.trans hres, trivial⟩) dX7_oneIf_9
def F_X7_withBit (a0 : Int32) (a1 : Int32) (a2 : Int32) (v : St) : Int32 :=
if a2.toInt = 0 then (
xl ((1 : Int32) <<< (a1 &&& 31)) fun x2 =>
xl (x2 ^^^ (-1 : Int32)) fun x3 =>
xl (a0 &&& x3) fun x4 =>
x4) else (
xl ((1 : Int32) <<< (a1 &&& 31)) fun x5 =>
xl (a0 ||| x5) fun x6 =>
x6)
set_option maxHeartbeats 4000000 in
set_option maxRecDepth 100000 in
theorem c_X7_withBit (l : Launch) (w : Wp) (g : Nat → Nat → Int32) (v : St) (a0 : Int32) (a1 : Int32) (a2 : Int32) (hq : Inj w) (hw : WF (wk w) g v) : CTi w l yX7_withBit (wsy yX7_withBit prog_1_method_47_code 3 (some .int)) (rmL 1) [.int a0, .int a1, .int a2] v (fun (r : Int32) (u : St) => (u = v ∧ True) ∧ (r = F_X7_withBit a0 a1 a2 v) ∧ True) := by
  generalize hpost : (fun (r : Int32) (u : St) => (u = v ∧ True) ∧ (r = F_X7_withBit a0 a1 a2 v) ∧ True) = post
  refine CTi.of prog_1_method_47_code 3 (some .int) "StarWalk" (by decide +kernel) rfl hq hw (Nat.le_of_ble_eq_true rfl) ?_
  intro pg en s m ar bl me cd ls E I hr hlk hl
  have hx := E.1.1
  have hb := E.1.2.1
  have hl : lv_has ls 3 [(0, .int a0), (1, .int a1), (2, .int a2)] := hl
  obtain ⟨res, hres⟩ : ∃ z, z = F_X7_withBit a0 a1 a2 v := ⟨_, rfl⟩
  have hF := hres.symm
  unfold F_X7_withBit at hF
  replace hres : res = F_X7_withBit a0 a1 a2 v := hres
  refine lv_iload_n hx hb dX7_withBit_0 rfl (lv_at hl 2 rfl) ?_
  refine bz_eq E (a := a2.toInt) rfl (tgt := 12) dX7_withBit_1 (by decide) (fun c1 => ?_) (fun c1 => ?_)
  ·
    replace hF := if_t c1 hF
    refine lv_iload_n hx hb dX7_withBit_12 rfl (lv_at hl 0 rfl) ?_
    refine lv_iconst (v := 1) hx hb dX7_withBit_13 (by decide) ?_
    refine lv_iload_n hx hb dX7_withBit_14 rfl (lv_at hl 1 rfl) ?_
    refine lv_ishl hx hb dX7_withBit_15 ?_
    refine lv_topi (fun x2 ex2 => ?_)
    replace hF := xl_i (ex2) hF
    refine lv_iconst (v := (-1)) hx hb dX7_withBit_16 (by decide) ?_
    refine lv_ixor hx hb dX7_withBit_17 ?_
    refine lv_topi (fun x3 ex3 => ?_)
    replace hF := xl_i (ex3) hF
    refine lv_iand hx hb dX7_withBit_18 ?_
    refine lv_topi (fun x4 ex4 => ?_)
    replace hF := xl_i (ex4) hF
    exact rI E I hr hlk rfl (by rw [← hpost]; exact ⟨⟨rfl, trivial⟩, hF.trans hres, trivial⟩) dX7_withBit_19
  ·
    replace hF := if_f c1 hF
    refine lv_iload_n hx hb dX7_withBit_4 rfl (lv_at hl 0 rfl) ?_
    refine lv_iconst (v := 1) hx hb dX7_withBit_5 (by decide) ?_
    refine lv_iload_n hx hb dX7_withBit_6 rfl (lv_at hl 1 rfl) ?_
    refine lv_ishl hx hb dX7_withBit_7 ?_
    refine lv_topi (fun x5 ex5 => ?_)
    replace hF := xl_i (ex5) hF
    refine lv_ior hx hb dX7_withBit_8 ?_
    refine lv_topi (fun x6 ex6 => ?_)
    replace hF := xl_i (ex6) hF
    refine lv_goto (tgt := 19) hx hb dX7_withBit_9 (by decide) ?_
    exact rI E I hr hlk rfl (by rw [← hpost]; exact ⟨⟨rfl, trivial⟩, hF.trans hres, trivial⟩) dX7_withBit_19
def F_X7_isZeroOrOne (a0 : Int32) (v : St) : Int32 :=
if a0.toInt = 0 then (
(1 : Int32)) else (
if a0.toInt = 1 then (
(1 : Int32)) else (
(0 : Int32)))
set_option maxHeartbeats 4000000 in
set_option maxRecDepth 100000 in
theorem c_X7_isZeroOrOne (l : Launch) (w : Wp) (g : Nat → Nat → Int32) (v : St) (a0 : Int32) (hq : Inj w) (hw : WF (wk w) g v) : CTi w l yX7_isZeroOrOne (wsy yX7_isZeroOrOne prog_1_method_48_code 1 (some .boolean)) (rmL 1) [.int a0] v (fun (r : Int32) (u : St) => (u = v ∧ 0 ≤ r.toInt ∧ r.toInt ≤ 1 ∧ (¬ r.toInt = 0 ↔ 0 ≤ a0.toInt ∧ a0.toInt ≤ 1)) ∧ (r = F_X7_isZeroOrOne a0 v) ∧ True) := by
  generalize hpost : (fun (r : Int32) (u : St) => (u = v ∧ 0 ≤ r.toInt ∧ r.toInt ≤ 1 ∧ (¬ r.toInt = 0 ↔ 0 ≤ a0.toInt ∧ a0.toInt ≤ 1)) ∧ (r = F_X7_isZeroOrOne a0 v) ∧ True) = post
  refine CTi.of prog_1_method_48_code 1 (some .boolean) "StarWalk" (by decide +kernel) rfl hq hw (Nat.le_of_ble_eq_true rfl) ?_
  intro pg en s m ar bl me cd ls E I hr hlk hl
  have hx := E.1.1
  have hb := E.1.2.1
  have hl : lv_has ls 1 [(0, .int a0)] := hl
  obtain ⟨res, hres⟩ : ∃ z, z = F_X7_isZeroOrOne a0 v := ⟨_, rfl⟩
  have hF := hres.symm
  unfold F_X7_isZeroOrOne at hF
  replace hres : res = F_X7_isZeroOrOne a0 v := hres
  refine lv_iload_n hx hb dX7_isZeroOrOne_0 rfl (lv_at hl 0 rfl) ?_
  refine bz_eq E (a := a0.toInt) rfl (tgt := 9) dX7_isZeroOrOne_1 (by decide) (fun c1 => ?_) (fun c1 => ?_)
  ·
    replace hF := if_t c1 hF
    refine lv_iconst (v := 1) hx hb dX7_isZeroOrOne_9 (by decide) ?_
    refine lv_goto (tgt := 14) hx hb dX7_isZeroOrOne_10 (by decide) ?_
    exact rI E I hr hlk rfl (by rw [← hpost]; exact ⟨⟨rfl, by have eL : (1 : Int32).toInt = 1 := rfl; omega⟩, hF.trans hres, trivial⟩) dX7_isZeroOrOne_14
  ·
    replace hF := if_f c1 hF
    refine lv_iload_n hx hb dX7_isZeroOrOne_4 rfl (lv_at hl 0 rfl) ?_
    refine lv_iconst (v := 1) hx hb dX7_isZeroOrOne_5 (by decide) ?_
    refine bi_ne E (a := a0.toInt) (b := 1) rfl rfl (tgt := 13) dX7_isZeroOrOne_6 (by decide) (fun c2 => ?_) (fun c2 => ?_)
    ·
      replace hF := if_f c2 hF
      refine lv_iconst (v := 0) hx hb dX7_isZeroOrOne_13 (by decide) ?_
      exact rI E I hr hlk rfl (by rw [← hpost]; exact ⟨⟨rfl, by have eL : (0 : Int32).toInt = 0 := rfl; omega⟩, hF.trans hres, trivial⟩) dX7_isZeroOrOne_14
    ·
      replace hF := if_t c2 hF
      refine lv_iconst (v := 1) hx hb dX7_isZeroOrOne_9 (by decide) ?_
      refine lv_goto (tgt := 14) hx hb dX7_isZeroOrOne_10 (by decide) ?_
      exact rI E I hr hlk rfl (by rw [← hpost]; exact ⟨⟨rfl, by have eL : (1 : Int32).toInt = 1 := rfl; omega⟩, hF.trans hres, trivial⟩) dX7_isZeroOrOne_14
def F_X7_isHour (a0 : Int32) (v : St) : Int32 :=
if a0.toInt < 0 then (
(0 : Int32)) else (
if a0.toInt < 10 then (
(1 : Int32)) else (
(0 : Int32)))
set_option maxHeartbeats 4000000 in
set_option maxRecDepth 100000 in
theorem c_X7_isHour (l : Launch) (w : Wp) (g : Nat → Nat → Int32) (v : St) (a0 : Int32) (hq : Inj w) (hw : WF (wk w) g v) : CTi w l yX7_isHour (wsy yX7_isHour prog_1_method_49_code 1 (some .boolean)) (rmL 1) [.int a0] v (fun (r : Int32) (u : St) => (u = v ∧ 0 ≤ r.toInt ∧ r.toInt ≤ 1 ∧ (¬ r.toInt = 0 ↔ 0 ≤ a0.toInt ∧ a0.toInt ≤ 9)) ∧ (r = F_X7_isHour a0 v) ∧ True) := by
  generalize hpost : (fun (r : Int32) (u : St) => (u = v ∧ 0 ≤ r.toInt ∧ r.toInt ≤ 1 ∧ (¬ r.toInt = 0 ↔ 0 ≤ a0.toInt ∧ a0.toInt ≤ 9)) ∧ (r = F_X7_isHour a0 v) ∧ True) = post
  refine CTi.of prog_1_method_49_code 1 (some .boolean) "StarWalk" (by decide +kernel) rfl hq hw (Nat.le_of_ble_eq_true rfl) ?_
  intro pg en s m ar bl me cd ls E I hr hlk hl
  have hx := E.1.1
  have hb := E.1.2.1
  have hl : lv_has ls 1 [(0, .int a0)] := hl
  obtain ⟨res, hres⟩ : ∃ z, z = F_X7_isHour a0 v := ⟨_, rfl⟩
  have hF := hres.symm
  unfold F_X7_isHour at hF
  replace hres : res = F_X7_isHour a0 v := hres
  refine lv_iload_n hx hb dX7_isHour_0 rfl (lv_at hl 0 rfl) ?_
  refine bz_lt E (a := a0.toInt) rfl (tgt := 14) dX7_isHour_1 (by decide) (fun c1 => ?_) (fun c1 => ?_)
  ·
    replace hF := if_t c1 hF
    refine lv_iconst (v := 0) hx hb dX7_isHour_14 (by decide) ?_
    exact rI E I hr hlk rfl (by rw [← hpost]; exact ⟨⟨rfl, by have eL : (0 : Int32).toInt = 0 := rfl; omega⟩, hF.trans hres, trivial⟩) dX7_isHour_15
  ·
    replace hF := if_l c1 hF
    refine lv_iload_n hx hb dX7_isHour_4 rfl (lv_at hl 0 rfl) ?_
    refine lv_bipush (v := 10) hx hb dX7_isHour_5 (by decide) ?_
    refine bi_ge E (a := a0.toInt) (b := 10) rfl rfl (tgt := 14) dX7_isHour_7 (by decide) (fun c2 => ?_) (fun c2 => ?_)
    ·
      replace hF := if_l c2 hF
      refine lv_iconst (v := 0) hx hb dX7_isHour_14 (by decide) ?_
      exact rI E I hr hlk rfl (by rw [← hpost]; exact ⟨⟨rfl, by have eL : (0 : Int32).toInt = 0 := rfl; omega⟩, hF.trans hres, trivial⟩) dX7_isHour_15
    ·
      replace hF := if_t c2 hF
      refine lv_iconst (v := 1) hx hb dX7_isHour_10 (by decide) ?_
      refine lv_goto (tgt := 15) hx hb dX7_isHour_11 (by decide) ?_
      exact rI E I hr hlk rfl (by rw [← hpost]; exact ⟨⟨rfl, by have eL : (1 : Int32).toInt = 1 := rfl; omega⟩, hF.trans hres, trivial⟩) dX7_isHour_15
def F_X7_isSheet (a0 : Int32) (v : St) : Int32 :=
if a0.toInt < 0 then (
(0 : Int32)) else (
if a0.toInt < 4 then (
(1 : Int32)) else (
(0 : Int32)))
set_option maxHeartbeats 4000000 in
set_option maxRecDepth 100000 in
theorem c_X7_isSheet (l : Launch) (w : Wp) (g : Nat → Nat → Int32) (v : St) (a0 : Int32) (hq : Inj w) (hw : WF (wk w) g v) : CTi w l yX7_isSheet (wsy yX7_isSheet prog_1_method_50_code 1 (some .boolean)) (rmL 1) [.int a0] v (fun (r : Int32) (u : St) => (u = v ∧ 0 ≤ r.toInt ∧ r.toInt ≤ 1 ∧ (¬ r.toInt = 0 ↔ 0 ≤ a0.toInt ∧ a0.toInt ≤ 3)) ∧ (r = F_X7_isSheet a0 v) ∧ True) := by
  generalize hpost : (fun (r : Int32) (u : St) => (u = v ∧ 0 ≤ r.toInt ∧ r.toInt ≤ 1 ∧ (¬ r.toInt = 0 ↔ 0 ≤ a0.toInt ∧ a0.toInt ≤ 3)) ∧ (r = F_X7_isSheet a0 v) ∧ True) = post
  refine CTi.of prog_1_method_50_code 1 (some .boolean) "StarWalk" (by decide +kernel) rfl hq hw (Nat.le_of_ble_eq_true rfl) ?_
  intro pg en s m ar bl me cd ls E I hr hlk hl
  have hx := E.1.1
  have hb := E.1.2.1
  have hl : lv_has ls 1 [(0, .int a0)] := hl
  obtain ⟨res, hres⟩ : ∃ z, z = F_X7_isSheet a0 v := ⟨_, rfl⟩
  have hF := hres.symm
  unfold F_X7_isSheet at hF
  replace hres : res = F_X7_isSheet a0 v := hres
  refine lv_iload_n hx hb dX7_isSheet_0 rfl (lv_at hl 0 rfl) ?_
  refine bz_lt E (a := a0.toInt) rfl (tgt := 13) dX7_isSheet_1 (by decide) (fun c1 => ?_) (fun c1 => ?_)
  ·
    replace hF := if_t c1 hF
    refine lv_iconst (v := 0) hx hb dX7_isSheet_13 (by decide) ?_
    exact rI E I hr hlk rfl (by rw [← hpost]; exact ⟨⟨rfl, by have eL : (0 : Int32).toInt = 0 := rfl; omega⟩, hF.trans hres, trivial⟩) dX7_isSheet_14
  ·
    replace hF := if_l c1 hF
    refine lv_iload_n hx hb dX7_isSheet_4 rfl (lv_at hl 0 rfl) ?_
    refine lv_iconst (v := 4) hx hb dX7_isSheet_5 (by decide) ?_
    refine bi_ge E (a := a0.toInt) (b := 4) rfl rfl (tgt := 13) dX7_isSheet_6 (by decide) (fun c2 => ?_) (fun c2 => ?_)
    ·
      replace hF := if_l c2 hF
      refine lv_iconst (v := 0) hx hb dX7_isSheet_13 (by decide) ?_
      exact rI E I hr hlk rfl (by rw [← hpost]; exact ⟨⟨rfl, by have eL : (0 : Int32).toInt = 0 := rfl; omega⟩, hF.trans hres, trivial⟩) dX7_isSheet_14
    ·
      replace hF := if_t c2 hF
      refine lv_iconst (v := 1) hx hb dX7_isSheet_9 (by decide) ?_
      refine lv_goto (tgt := 14) hx hb dX7_isSheet_10 (by decide) ?_
      exact rI E I hr hlk rfl (by rw [← hpost]; exact ⟨⟨rfl, by have eL : (1 : Int32).toInt = 1 := rfl; omega⟩, hF.trans hres, trivial⟩) dX7_isSheet_14
def F_X7_isLane (a0 : Int32) (v : St) : Int32 :=
if a0.toInt < 0 then (
(0 : Int32)) else (
if a0.toInt < 3 then (
(1 : Int32)) else (
(0 : Int32)))
set_option maxHeartbeats 4000000 in
set_option maxRecDepth 100000 in
theorem c_X7_isLane (l : Launch) (w : Wp) (g : Nat → Nat → Int32) (v : St) (a0 : Int32) (hq : Inj w) (hw : WF (wk w) g v) : CTi w l yX7_isLane (wsy yX7_isLane prog_1_method_51_code 1 (some .boolean)) (rmL 1) [.int a0] v (fun (r : Int32) (u : St) => (u = v ∧ 0 ≤ r.toInt ∧ r.toInt ≤ 1 ∧ (¬ r.toInt = 0 ↔ 0 ≤ a0.toInt ∧ a0.toInt ≤ 2)) ∧ (r = F_X7_isLane a0 v) ∧ True) := by
  generalize hpost : (fun (r : Int32) (u : St) => (u = v ∧ 0 ≤ r.toInt ∧ r.toInt ≤ 1 ∧ (¬ r.toInt = 0 ↔ 0 ≤ a0.toInt ∧ a0.toInt ≤ 2)) ∧ (r = F_X7_isLane a0 v) ∧ True) = post
  refine CTi.of prog_1_method_51_code 1 (some .boolean) "StarWalk" (by decide +kernel) rfl hq hw (Nat.le_of_ble_eq_true rfl) ?_
  intro pg en s m ar bl me cd ls E I hr hlk hl
  have hx := E.1.1
  have hb := E.1.2.1
  have hl : lv_has ls 1 [(0, .int a0)] := hl
  obtain ⟨res, hres⟩ : ∃ z, z = F_X7_isLane a0 v := ⟨_, rfl⟩
  have hF := hres.symm
  unfold F_X7_isLane at hF
  replace hres : res = F_X7_isLane a0 v := hres
  refine lv_iload_n hx hb dX7_isLane_0 rfl (lv_at hl 0 rfl) ?_
  refine bz_lt E (a := a0.toInt) rfl (tgt := 13) dX7_isLane_1 (by decide) (fun c1 => ?_) (fun c1 => ?_)
  ·
    replace hF := if_t c1 hF
    refine lv_iconst (v := 0) hx hb dX7_isLane_13 (by decide) ?_
    exact rI E I hr hlk rfl (by rw [← hpost]; exact ⟨⟨rfl, by have eL : (0 : Int32).toInt = 0 := rfl; omega⟩, hF.trans hres, trivial⟩) dX7_isLane_14
  ·
    replace hF := if_l c1 hF
    refine lv_iload_n hx hb dX7_isLane_4 rfl (lv_at hl 0 rfl) ?_
    refine lv_iconst (v := 3) hx hb dX7_isLane_5 (by decide) ?_
    refine bi_ge E (a := a0.toInt) (b := 3) rfl rfl (tgt := 13) dX7_isLane_6 (by decide) (fun c2 => ?_) (fun c2 => ?_)
    ·
      replace hF := if_l c2 hF
      refine lv_iconst (v := 0) hx hb dX7_isLane_13 (by decide) ?_
      exact rI E I hr hlk rfl (by rw [← hpost]; exact ⟨⟨rfl, by have eL : (0 : Int32).toInt = 0 := rfl; omega⟩, hF.trans hres, trivial⟩) dX7_isLane_14
    ·
      replace hF := if_t c2 hF
      refine lv_iconst (v := 1) hx hb dX7_isLane_9 (by decide) ?_
      refine lv_goto (tgt := 14) hx hb dX7_isLane_10 (by decide) ?_
      exact rI E I hr hlk rfl (by rw [← hpost]; exact ⟨⟨rfl, by have eL : (1 : Int32).toInt = 1 := rfl; omega⟩, hF.trans hres, trivial⟩) dX7_isLane_14
def F_J6_bitCount_0f7a4 (a0 : Int32) (v : St) : Int32 :=
xl ((a0.toUInt32 >>> ((1 : Int32).toUInt32 &&& Int32.toUInt32 31)).toInt32) fun x1 =>
xl (x1 &&& (1431655765 : Int32)) fun x2 =>
xl (a0 - x2) fun x3 =>
xl (x3 &&& (858993459 : Int32)) fun x4 =>
xl ((x3.toUInt32 >>> ((2 : Int32).toUInt32 &&& Int32.toUInt32 31)).toInt32) fun x5 =>
xl (x5 &&& (858993459 : Int32)) fun x6 =>
xl (x4 + x6) fun x7 =>
xl ((x7.toUInt32 >>> ((4 : Int32).toUInt32 &&& Int32.toUInt32 31)).toInt32) fun x8 =>
xl (x7 + x8) fun x9 =>
xl (x9 &&& (252645135 : Int32)) fun x10 =>
xl ((x10.toUInt32 >>> ((8 : Int32).toUInt32 &&& Int32.toUInt32 31)).toInt32) fun x11 =>
xl (x10 + x11) fun x12 =>
xl ((x12.toUInt32 >>> ((16 : Int32).toUInt32 &&& Int32.toUInt32 31)).toInt32) fun x13 =>
xl (x12 + x13) fun x14 =>
xl (x14 &&& (63 : Int32)) fun x15 =>
x15
set_option maxHeartbeats 4000000 in
set_option maxRecDepth 100000 in
theorem c_J6_bitCount_0f7a4 (l : Launch) (w : Wp) (g : Nat → Nat → Int32) (v : St) (a0 : Int32) (hq : Inj w) (hw : WF (wk w) g v) : CTi w l yJ6_bitCount_0f7a4 (wsy yJ6_bitCount_0f7a4 prog_11_method_49_code 1 (some .int)) (rmL 1) [.int a0] v (fun (r : Int32) (u : St) => (u = v ∧ True) ∧ (r = F_J6_bitCount_0f7a4 a0 v) ∧ True) := by
  generalize hpost : (fun (r : Int32) (u : St) => (u = v ∧ True) ∧ (r = F_J6_bitCount_0f7a4 a0 v) ∧ True) = post
  refine CTi.of prog_11_method_49_code 1 (some .int) "java/lang/Integer" (by decide +kernel) rfl hq hw (Nat.le_of_ble_eq_true rfl) ?_
  intro pg en s m ar bl me cd ls E I hr hlk hl
  have hx := E.1.1
  have hb := E.1.2.1
  have hl : lv_has ls 1 [(0, .int a0)] := hl
  obtain ⟨res, hres⟩ : ∃ z, z = F_J6_bitCount_0f7a4 a0 v := ⟨_, rfl⟩
  have hF := hres.symm
  unfold F_J6_bitCount_0f7a4 at hF
  replace hres : res = F_J6_bitCount_0f7a4 a0 v := hres
  refine lv_iload_n hx hb dJ6_bitCount_0f7a4_0 rfl (lv_at hl 0 rfl) ?_
  refine lv_iload_n hx hb dJ6_bitCount_0f7a4_1 rfl (lv_at hl 0 rfl) ?_
  refine lv_iconst (v := 1) hx hb dJ6_bitCount_0f7a4_2 (by decide) ?_
  refine lv_iushr (v := _) hx hb dJ6_bitCount_0f7a4_3 rfl ?_
  refine lv_topi (fun x1 ex1 => ?_)
  replace hF := xl_i (ex1) hF
  refine lv_ldcw (own := "java/lang/Integer") hx hb E.1.2.2.2.1 (Ew E mw_4_20 rfl) dJ6_bitCount_0f7a4_4 ?_
  refine lv_iand hx hb dJ6_bitCount_0f7a4_7 ?_
  refine lv_topi (fun x2 ex2 => ?_)
  replace hF := xl_i (ex2) hF
  have hx2 := anI (x := x1) (y := (1431655765 : Int32)) (b := 1431655765) rfl (by decide)
  rw [← ex2] at hx2
  refine lv_isub hx hb dJ6_bitCount_0f7a4_8 ?_
  refine lv_topi (fun x3 ex3 => ?_)
  replace hF := xl_i (ex3) hF
  refine lv_istore_n (lv' := [(0, .int x3)]) hx hb dJ6_bitCount_0f7a4_9 rfl hl (by decide) rfl (fun ls hl => ?_)
  refine lv_iload_n hx hb dJ6_bitCount_0f7a4_10 rfl (lv_at hl 0 rfl) ?_
  refine lv_ldcw (own := "java/lang/Integer") hx hb E.1.2.2.2.1 (Ew E mw_4_21 rfl) dJ6_bitCount_0f7a4_11 ?_
  refine lv_iand hx hb dJ6_bitCount_0f7a4_14 ?_
  refine lv_topi (fun x4 ex4 => ?_)
  replace hF := xl_i (ex4) hF
  have hx4 := anI (x := x3) (y := (858993459 : Int32)) (b := 858993459) rfl (by decide)
  rw [← ex4] at hx4
  refine lv_iload_n hx hb dJ6_bitCount_0f7a4_15 rfl (lv_at hl 0 rfl) ?_
  refine lv_iconst (v := 2) hx hb dJ6_bitCount_0f7a4_16 (by decide) ?_
  refine lv_iushr (v := _) hx hb dJ6_bitCount_0f7a4_17 rfl ?_
  refine lv_topi (fun x5 ex5 => ?_)
  replace hF := xl_i (ex5) hF
  refine lv_ldcw (own := "java/lang/Integer") hx hb E.1.2.2.2.1 (Ew E mw_4_21 rfl) dJ6_bitCount_0f7a4_18 ?_
  refine lv_iand hx hb dJ6_bitCount_0f7a4_21 ?_
  refine lv_topi (fun x6 ex6 => ?_)
  replace hF := xl_i (ex6) hF
  have hx6 := anI (x := x5) (y := (858993459 : Int32)) (b := 858993459) rfl (by decide)
  rw [← ex6] at hx6
  refine lv_iadd hx hb dJ6_bitCount_0f7a4_22 ?_
  refine lv_topi (fun x7 ex7 => ?_)
  replace hF := xl_i (ex7) hF
  have hx7 : x7.toInt = x4.toInt + x6.toInt := by rw [ex7]; exact adI (a := x4.toInt) (b := x6.toInt) rfl rfl (by omega) (by omega)
  refine lv_istore_n (lv' := [(0, .int x7)]) hx hb dJ6_bitCount_0f7a4_23 rfl hl (by decide) rfl (fun ls hl => ?_)
  refine lv_iload_n hx hb dJ6_bitCount_0f7a4_24 rfl (lv_at hl 0 rfl) ?_
  refine lv_iload_n hx hb dJ6_bitCount_0f7a4_25 rfl (lv_at hl 0 rfl) ?_
  refine lv_iconst (v := 4) hx hb dJ6_bitCount_0f7a4_26 (by decide) ?_
  refine lv_iushr (v := _) hx hb dJ6_bitCount_0f7a4_27 rfl ?_
  refine lv_topi (fun x8 ex8 => ?_)
  replace hF := xl_i (ex8) hF
  refine lv_iadd hx hb dJ6_bitCount_0f7a4_28 ?_
  refine lv_topi (fun x9 ex9 => ?_)
  replace hF := xl_i (ex9) hF
  refine lv_ldcw (own := "java/lang/Integer") hx hb E.1.2.2.2.1 (Ew E mw_4_22 rfl) dJ6_bitCount_0f7a4_29 ?_
  refine lv_iand hx hb dJ6_bitCount_0f7a4_32 ?_
  refine lv_topi (fun x10 ex10 => ?_)
  replace hF := xl_i (ex10) hF
  have hx10 := anI (x := x9) (y := (252645135 : Int32)) (b := 252645135) rfl (by decide)
  rw [← ex10] at hx10
  refine lv_istore_n (lv' := [(0, .int x10)]) hx hb dJ6_bitCount_0f7a4_33 rfl hl (by decide) rfl (fun ls hl => ?_)
  refine lv_iload_n hx hb dJ6_bitCount_0f7a4_34 rfl (lv_at hl 0 rfl) ?_
  refine lv_iload_n hx hb dJ6_bitCount_0f7a4_35 rfl (lv_at hl 0 rfl) ?_
  refine lv_bipush (v := 8) hx hb dJ6_bitCount_0f7a4_36 (by decide) ?_
  refine lv_iushr (v := _) hx hb dJ6_bitCount_0f7a4_38 rfl ?_
  refine lv_topi (fun x11 ex11 => ?_)
  replace hF := xl_i (ex11) hF
  refine lv_iadd hx hb dJ6_bitCount_0f7a4_39 ?_
  refine lv_topi (fun x12 ex12 => ?_)
  replace hF := xl_i (ex12) hF
  refine lv_istore_n (lv' := [(0, .int x12)]) hx hb dJ6_bitCount_0f7a4_40 rfl hl (by decide) rfl (fun ls hl => ?_)
  refine lv_iload_n hx hb dJ6_bitCount_0f7a4_41 rfl (lv_at hl 0 rfl) ?_
  refine lv_iload_n hx hb dJ6_bitCount_0f7a4_42 rfl (lv_at hl 0 rfl) ?_
  refine lv_bipush (v := 16) hx hb dJ6_bitCount_0f7a4_43 (by decide) ?_
  refine lv_iushr (v := _) hx hb dJ6_bitCount_0f7a4_45 rfl ?_
  refine lv_topi (fun x13 ex13 => ?_)
  replace hF := xl_i (ex13) hF
  refine lv_iadd hx hb dJ6_bitCount_0f7a4_46 ?_
  refine lv_topi (fun x14 ex14 => ?_)
  replace hF := xl_i (ex14) hF
  refine lv_istore_n (lv' := [(0, .int x14)]) hx hb dJ6_bitCount_0f7a4_47 rfl hl (by decide) rfl (fun ls hl => ?_)
  refine lv_iload_n hx hb dJ6_bitCount_0f7a4_48 rfl (lv_at hl 0 rfl) ?_
  refine lv_bipush (v := 63) hx hb dJ6_bitCount_0f7a4_49 (by decide) ?_
  refine lv_iand hx hb dJ6_bitCount_0f7a4_51 ?_
  refine lv_topi (fun x15 ex15 => ?_)
  replace hF := xl_i (ex15) hF
  have hx15 := anI (x := x14) (y := (63 : Int32)) (b := 63) rfl (by decide)
  rw [← ex15] at hx15
  exact rI E I hr hlk rfl (by rw [← hpost]; exact ⟨⟨rfl, trivial⟩, hF.trans hres, trivial⟩) dJ6_bitCount_0f7a4_52
def F_X4_renew (k0 : Nat) (a0 : Int32) (a1 : Int32) (v : St) : St :=
xl (fun (self_12 : Int32 → St → St) (y12_3 : Int32) (v_12 : St) =>
if y12_3.toInt < 40 then (
xl (up1 v_12 (k0 + 1) y12_3.toNatClampNeg (0 : Int32)) fun v2 =>
xl (y12_3 + 1) fun x3 =>
(self_12 x3 v2)) else (
v_12)) fun P_12 =>
xl (up1 v k0 0 a0) fun v4 =>
xl (up1 v4 k0 1 a1) fun v5 =>
(lp P_12 (fun _ _ => v) ((2147483647 - (0 : Int32).toInt).toNat + 1) (0 : Int32) v5)
set_option maxHeartbeats 4000000 in
set_option maxRecDepth 100000 in
theorem c_X4_renew (l : Launch) (w : Wp) (g : Nat → Nat → Int32) (v : St) (k0 : Nat) (a0 : Int32) (a1 : Int32) (hq : Inj w) (hw : WF (wk w) g v) (h_k0 : oS w k0) (h_a1 : 0 ≤ a1.toInt ∧ a1.toInt ≤ 40) : CTv w l yX4_renew (wsy yX4_renew prog_6_method_2_code 4 none) (rmL 1) [.ref (wq w k0), .int a0, .int a1] v (fun (u : St) => (WF (wk w) g u ∧ True) ∧ (u = F_X4_renew k0 a0 a1 v) ∧ (∀ k j : Nat, ¬ (k0 ≤ k ∧ k < k0 + 2) → u.1 k j = v.1 k j)) := by
  generalize hpost : (fun (u : St) => (WF (wk w) g u ∧ True) ∧ (u = F_X4_renew k0 a0 a1 v) ∧ (∀ k j : Nat, ¬ (k0 ≤ k ∧ k < k0 + 2) → u.1 k j = v.1 k j)) = post
  refine CTv.of prog_6_method_2_code 4 none "StarWalk$Sheet" (by decide +kernel) rfl hq hw (Nat.le_of_ble_eq_true rfl) ?_
  intro pg en s m ar bl me cd ls E I hr hlk hl
  have hx := E.1.1
  have hb := E.1.2.1
  have hl : lv_has ls 4 [(0, .ref (wq w k0)), (1, .int a0), (2, .int a1)] := hl
  obtain ⟨res, hres⟩ : ∃ z, z = F_X4_renew k0 a0 a1 v := ⟨_, rfl⟩
  have hF := hres.symm
  unfold F_X4_renew at hF
  replace hres : res = F_X4_renew k0 a0 a1 v := hres
  have rz0 : ∀ k j : Nat, ¬ (k0 ≤ k ∧ k < k0 + 2) → v.1 k j = v.1 k j := fun _ _ _ => rfl
  obtain ⟨P_12, eP_12, hF⟩ := xl_e hF
  have L_12 : ∀ (n : Nat), ∀ (H : Heap) (lo : List Loc) (v_12 : St), Wo w g s.heap v_12 H lo → ∀ (y12_3 : Int32), (0 ≤ y12_3.toInt ∧ y12_3.toInt ≤ 40) → (∀ k j : Nat, ¬ (k0 ≤ k ∧ k < k0 + 2) → v_12.1 k j = v.1 k j) → (lp P_12 (fun _ _ => v) n y12_3 v_12 = res) → (2147483647 - y12_3.toInt).toNat < n → ∀ (ls : Array Slot), lv_has ls 4 [(0, .ref (wq w k0)), (3, .int y12_3)] → W pg l en (rmL 1) s m ar bl me cd H lo 0 0 (Zv w bl ar s post) (F0 m 12 ls []) := by
    intro n
    induction n with
    | zero => intro H lo v_12 I y12_3 hy12_3 rB12_Z hF hm; exact absurd hm (Nat.not_lt_zero _)
    | succ n ih_12 =>
      intro H lo v_12 I y12_3 hy12_3 rB12_Z hF hm ls hl
      replace hF := lpa2 eP_12 hF
      refine lv_iload_n hx hb dX4_renew_12 rfl (lv_at hl 1 rfl) ?_
      refine lv_bipush (v := 40) hx hb dX4_renew_13 (by decide) ?_
      refine bi_ge E (a := y12_3.toInt) (b := 40) rfl rfl (tgt := 31) dX4_renew_15 (by decide) (fun c1 => ?_) (fun c1 => ?_)
      ·
        replace hF := if_l c1 hF
        exact rV E I hr hlk (by rw [← hpost]; exact ⟨⟨I.2.2, trivial⟩, hF.trans hres, rB12_Z⟩) dX4_renew_31
      ·
        replace hF := if_t c1 hF
        refine lv_aload_n hx hb dX4_renew_18 rfl (lv_at hl 0 rfl) ?_
        refine g_Sheet_cells E I h_k0.1 mw_2_58 dX4_renew_19 ?_
        refine lv_iload_n hx hb dX4_renew_22 rfl (lv_at hl 1 rfl) ?_
        refine lv_iconst (v := 0) hx hb dX4_renew_23 (by decide) ?_
        refine pa_18 E I h_k0.2 (by omega) dX4_renew_24 (fun H lo I => ?_)
        generalize ev2 : up1 v_12 (k0 + 1) y12_3.toNatClampNeg (0 : Int32) = v2 at I
        replace hF := xl_i (ev2.symm) hF
        have rzv2 : ∀ k j : Nat, ¬ (k0 ≤ k ∧ k < k0 + 2) → v2.1 k j = v.1 k j := fun k j h => fz_u ev2 (by have czy12_3 := cnI (x := y12_3) (by omega); omega) (rB12_Z k j h)
        obtain ⟨x3, ex3⟩ : ∃ z : Int32, z = y12_3 + 1 := ⟨_, rfl⟩
        replace hF := xl_i (ex3) hF
        have hx3 : x3.toInt = y12_3.toInt + (1) := by rw [ex3]; exact adI (a := y12_3.toInt) (b := 1) rfl rfl (by omega) (by omega)
        refine lv_iinc (v := x3) (lv' := [(3, .int x3), (0, .ref (wq w k0))]) hx hb dX4_renew_25 hl (k := 1) rfl (by rw [ex3]; rfl) (by decide) rfl (fun ls hl => ?_)
        refine lv_goto (tgt := 12) hx hb dX4_renew_28 (by decide) ?_
        exact ih_12 _ _ v2 I x3 (by omega) rzv2 hF (by omega) ls (lv_sub hl [1, 0] rfl)
  refine lv_aload_n hx hb dX4_renew_0 rfl (lv_at hl 0 rfl) ?_
  refine lv_iload_n hx hb dX4_renew_1 rfl (lv_at hl 1 rfl) ?_
  refine p_Sheet_lane E I h_k0.1 mw_2_54 dX4_renew_2 (fun H lo I => ?_)
  generalize ev4 : up1 v k0 0 a0 = v4 at I
  replace hF := xl_i (ev4.symm) hF
  have rzv4 : ∀ k j : Nat, ¬ (k0 ≤ k ∧ k < k0 + 2) → v4.1 k j = v.1 k j := fun k j h => fz_u ev4 (by omega) (rz0 k j h)
  refine lv_aload_n hx hb dX4_renew_5 rfl (lv_at hl 0 rfl) ?_
  refine lv_iload_n hx hb dX4_renew_6 rfl (lv_at hl 2 rfl) ?_
  refine p_Sheet_size E I h_k0.1 mw_2_56 (by omega) dX4_renew_7 (fun H lo I => ?_)
  generalize ev5 : up1 v4 k0 1 a1 = v5 at I
  replace hF := xl_i (ev5.symm) hF
  have rzv5 : ∀ k j : Nat, ¬ (k0 ≤ k ∧ k < k0 + 2) → v5.1 k j = v.1 k j := fun k j h => fz_u ev5 (by omega) (rzv4 k j h)
  refine lv_iconst (v := 0) hx hb dX4_renew_10 (by decide) ?_
  refine lv_istore_n (lv' := [(3, .int 0), (0, .ref (wq w k0)), (1, .int a0), (2, .int a1)]) hx hb dX4_renew_11 rfl hl (by decide) rfl (fun ls hl => ?_)
  exact L_12 ((2147483647 - (0 : Int32).toInt).toNat + 1) _ _ v5 I (0 : Int32) (by decide) rzv5 hF (Nat.lt_succ_self _) ls (lv_sub hl [1, 0] rfl)
def F_X4_tearAt (k0 : Nat) (a0 : Int32) (a1 : Int32) (v : St) : Int32 :=
xl (v.1 k0 0) fun x1 =>
if x1.toInt = (-1) then (
(1 : Int32)) else (
xl (v.1 k0 0) fun x3 =>
if x3.toInt = a0.toInt then (
if a1.toInt < 0 then (
(2 : Int32)) else (
xl (v.1 k0 1) fun x6 =>
if a1.toInt < x6.toInt then (
(0 : Int32)) else (
(2 : Int32)))) else (
(3 : Int32)))
set_option maxHeartbeats 4000000 in
set_option maxRecDepth 100000 in
theorem c_X4_tearAt (l : Launch) (w : Wp) (g : Nat → Nat → Int32) (v : St) (k0 : Nat) (a0 : Int32) (a1 : Int32) (hq : Inj w) (hw : WF (wk w) g v) (h_k0 : oS w k0) : CTi w l yX4_tearAt (wsy yX4_tearAt prog_6_method_3_code 3 (some .int)) (rmL 1) [.ref (wq w k0), .int a0, .int a1] v (fun (r : Int32) (u : St) => (u = v ∧ 0 ≤ r.toInt ∧ r.toInt ≤ 3 ∧ (r.toInt = 0 → 0 ≤ a1.toInt ∧ a1.toInt ≤ 39)) ∧ (r = F_X4_tearAt k0 a0 a1 v) ∧ True) := by
  generalize hpost : (fun (r : Int32) (u : St) => (u = v ∧ 0 ≤ r.toInt ∧ r.toInt ≤ 3 ∧ (r.toInt = 0 → 0 ≤ a1.toInt ∧ a1.toInt ≤ 39)) ∧ (r = F_X4_tearAt k0 a0 a1 v) ∧ True) = post
  refine CTi.of prog_6_method_3_code 3 (some .int) "StarWalk$Sheet" (by decide +kernel) rfl hq hw (Nat.le_of_ble_eq_true rfl) ?_
  intro pg en s m ar bl me cd ls E I hr hlk hl
  have hx := E.1.1
  have hb := E.1.2.1
  have hl : lv_has ls 3 [(0, .ref (wq w k0)), (1, .int a0), (2, .int a1)] := hl
  obtain ⟨res, hres⟩ : ∃ z, z = F_X4_tearAt k0 a0 a1 v := ⟨_, rfl⟩
  have hF := hres.symm
  unfold F_X4_tearAt at hF
  replace hres : res = F_X4_tearAt k0 a0 a1 v := hres
  refine lv_aload_n hx hb dX4_tearAt_0 rfl (lv_at hl 0 rfl) ?_
  refine g_Sheet_lane E I h_k0.1 mw_2_54 dX4_tearAt_1 ?_
  refine lv_topi (fun x1 ex1 => ?_)
  replace hF := xl_i (ex1) hF
  refine lv_iconst (v := (-1)) hx hb dX4_tearAt_4 (by decide) ?_
  refine bi_ne E (a := x1.toInt) (b := (-1)) rfl rfl (tgt := 10) dX4_tearAt_5 (by decide) (fun c2 => ?_) (fun c2 => ?_)
  ·
    replace hF := if_f c2 hF
    refine lv_aload_n hx hb dX4_tearAt_10 rfl (lv_at hl 0 rfl) ?_
    refine g_Sheet_lane E I h_k0.1 mw_2_54 dX4_tearAt_11 ?_
    refine lv_topi (fun x3 ex3 => ?_)
    replace hF := xl_i (ex3) hF
    refine lv_iload_n hx hb dX4_tearAt_14 rfl (lv_at hl 1 rfl) ?_
    refine bi_eq E (a := x3.toInt) (b := a0.toInt) rfl rfl (tgt := 20) dX4_tearAt_15 (by decide) (fun c4 => ?_) (fun c4 => ?_)
    ·
      replace hF := if_t c4 hF
      refine lv_iload_n hx hb dX4_tearAt_20 rfl (lv_at hl 2 rfl) ?_
      refine bz_lt E (a := a1.toInt) rfl (tgt := 38) dX4_tearAt_21 (by decide) (fun c5 => ?_) (fun c5 => ?_)
      ·
        replace hF := if_t c5 hF
        refine lv_iconst (v := 2) hx hb dX4_tearAt_38 (by decide) ?_
        refine lv_goto (tgt := 43) hx hb dX4_tearAt_39 (by decide) ?_
        exact rI E I hr hlk rfl (by rw [← hpost]; exact ⟨⟨rfl, by have eL : (2 : Int32).toInt = 2 := rfl; omega⟩, hF.trans hres, trivial⟩) dX4_tearAt_43
      ·
        replace hF := if_l c5 hF
        refine lv_iload_n hx hb dX4_tearAt_24 rfl (lv_at hl 2 rfl) ?_
        refine lv_aload_n hx hb dX4_tearAt_25 rfl (lv_at hl 0 rfl) ?_
        refine g_Sheet_size E I h_k0.1 mw_2_56 dX4_tearAt_26 ?_
        refine lv_topi (fun x6 ex6 => ?_)
        replace hF := xl_i (ex6) hF
        have hx6 := r_Sheet_size I h_k0.1
        rw [← ex6] at hx6
        refine bi_ge E (a := a1.toInt) (b := x6.toInt) rfl rfl (tgt := 38) dX4_tearAt_29 (by decide) (fun c7 => ?_) (fun c7 => ?_)
        ·
          have rga1 := i32_rng a1
          replace hF := if_l c7 hF
          refine lv_iconst (v := 2) hx hb dX4_tearAt_38 (by decide) ?_
          refine lv_goto (tgt := 43) hx hb dX4_tearAt_39 (by decide) ?_
          exact rI E I hr hlk rfl (by rw [← hpost]; exact ⟨⟨rfl, by have eL : (2 : Int32).toInt = 2 := rfl; omega⟩, hF.trans hres, trivial⟩) dX4_tearAt_43
        ·
          have rga1 := i32_rng a1
          replace hF := if_t c7 hF
          refine lv_iload_n hx hb dX4_tearAt_32 rfl (lv_at hl 2 rfl) ?_
          refine lv_bipush (v := 40) hx hb dX4_tearAt_33 (by decide) ?_
          refine bi_lt E (a := a1.toInt) (b := 40) rfl rfl (tgt := 42) dX4_tearAt_35 (by decide) (fun c8 => ?_) (fun c8 => ?_)
          ·
            refine lv_iconst (v := 0) hx hb dX4_tearAt_42 (by decide) ?_
            exact rI E I hr hlk rfl (by rw [← hpost]; exact ⟨⟨rfl, by have eL : (0 : Int32).toInt = 0 := rfl; omega⟩, hF.trans hres, trivial⟩) dX4_tearAt_43
          ·
            exfalso; omega
    ·
      replace hF := if_f c4 hF
      refine lv_iconst (v := 3) hx hb dX4_tearAt_18 (by decide) ?_
      exact rI E I hr hlk rfl (by rw [← hpost]; exact ⟨⟨rfl, by have eL : (3 : Int32).toInt = 3 := rfl; omega⟩, hF.trans hres, trivial⟩) dX4_tearAt_19
  ·
    replace hF := if_t c2 hF
    refine lv_iconst (v := 1) hx hb dX4_tearAt_8 (by decide) ?_
    exact rI E I hr hlk rfl (by rw [← hpost]; exact ⟨⟨rfl, by have eL : (1 : Int32).toInt = 1 := rfl; omega⟩, hF.trans hres, trivial⟩) dX4_tearAt_9
def F_X4_lowest (k0 : Nat) (a0 : Int32) (v : St) : Int32 :=
xl (v.1 k0 0) fun x1 =>
if x1.toInt = 0 then (
xl (a0.toInt8.toInt32) fun x3 =>
x3) else (
if x1.toInt = 1 then (
xl (a0.toInt16.toInt32) fun x5 =>
x5) else (
a0))
set_option maxHeartbeats 4000000 in
set_option maxRecDepth 100000 in
theorem c_X4_lowest (l : Launch) (w : Wp) (g : Nat → Nat → Int32) (v : St) (k0 : Nat) (a0 : Int32) (hq : Inj w) (hw : WF (wk w) g v) (h_k0 : oS w k0) : CTi w l yX4_lowest (wsy yX4_lowest prog_6_method_4_code 2 (some .int)) (rmL 1) [.ref (wq w k0), .int a0] v (fun (r : Int32) (u : St) => (u = v ∧ True) ∧ (r = F_X4_lowest k0 a0 v) ∧ True) := by
  generalize hpost : (fun (r : Int32) (u : St) => (u = v ∧ True) ∧ (r = F_X4_lowest k0 a0 v) ∧ True) = post
  refine CTi.of prog_6_method_4_code 2 (some .int) "StarWalk$Sheet" (by decide +kernel) rfl hq hw (Nat.le_of_ble_eq_true rfl) ?_
  intro pg en s m ar bl me cd ls E I hr hlk hl
  have hx := E.1.1
  have hb := E.1.2.1
  have hl : lv_has ls 2 [(0, .ref (wq w k0)), (1, .int a0)] := hl
  obtain ⟨res, hres⟩ : ∃ z, z = F_X4_lowest k0 a0 v := ⟨_, rfl⟩
  have hF := hres.symm
  unfold F_X4_lowest at hF
  replace hres : res = F_X4_lowest k0 a0 v := hres
  refine lv_aload_n hx hb dX4_lowest_0 rfl (lv_at hl 0 rfl) ?_
  refine g_Sheet_lane E I h_k0.1 mw_2_54 dX4_lowest_1 ?_
  refine lv_topi (fun x1 ex1 => ?_)
  replace hF := xl_i (ex1) hF
  by_cases c2 : x1.toInt = 0
  ·
    replace hF := if_t c2 hF
    refine lv_lookup hx hb dX4_lowest_4 (by decide) (by rw [c2] <;> rfl) (tgt := 32) (by decide) ?_
    refine lv_iload_n hx hb dX4_lowest_32 rfl (lv_at hl 1 rfl) ?_
    refine lv_i2b (v := _) hx hb dX4_lowest_33 rfl ?_
    refine lv_topi (fun x3 ex3 => ?_)
    replace hF := xl_i (ex3) hF
    exact rI E I hr hlk rfl (by rw [← hpost]; exact ⟨⟨rfl, trivial⟩, hF.trans hres, trivial⟩) dX4_lowest_34
  replace hF := if_f c2 hF
  by_cases c4 : x1.toInt = 1
  ·
    replace hF := if_t c4 hF
    refine lv_lookup hx hb dX4_lowest_4 (by decide) (by rw [c4] <;> rfl) (tgt := 35) (by decide) ?_
    refine lv_iload_n hx hb dX4_lowest_35 rfl (lv_at hl 1 rfl) ?_
    refine lv_i2s (v := _) hx hb dX4_lowest_36 rfl ?_
    refine lv_topi (fun x5 ex5 => ?_)
    replace hF := xl_i (ex5) hF
    exact rI E I hr hlk rfl (by rw [← hpost]; exact ⟨⟨rfl, trivial⟩, hF.trans hres, trivial⟩) dX4_lowest_37
  replace hF := if_f c4 hF
  refine lv_lookup hx hb dX4_lowest_4 (by decide) (by simp only [Op.lookupswitch.offset_cons, Op.lookupswitch.offset_nil]; rw [if_neg (by omega), if_neg (by omega)] <;> rfl) (tgt := 38) (by decide) ?_
  refine lv_iload_n hx hb dX4_lowest_38 rfl (lv_at hl 1 rfl) ?_
  exact rI E I hr hlk rfl (by rw [← hpost]; exact ⟨⟨rfl, trivial⟩, hF.trans hres, trivial⟩) dX4_lowest_39
