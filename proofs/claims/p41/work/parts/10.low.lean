def F_X7_oneIf (a0 : Int32) (v : St) : Int32 :=
if a0.toInt = 0 then (
(0 : Int32)) else (
(1 : Int32))
set_option maxHeartbeats 4000000 in
set_option maxRecDepth 100000 in
theorem c_X7_oneIf (l : Launch) (w : Wp) (g : Nat → Nat → Int32) (v : St) (a0 : Int32) (hq : Inj w) (hw : WF (wk w) g v) : CTi w l yX7_oneIf (wsy yX7_oneIf prog_1_method_46_code 1 (some .int)) (rmL 1) [.int a0] v (fun (r : Int32) (u : St) => (u = v ∧ 0 ≤ r.toInt ∧ r.toInt ≤ 1) ∧ (r = F_X7_oneIf a0 v) ∧ True) := by
  generalize hpost : (fun (r : Int32) (u : St) => (u = v ∧ 0 ≤ r.toInt ∧ r.toInt ≤ 1) ∧ (r = F_X7_oneIf a0 v) ∧ True) = post
  refine CTi.of prog_1_method_46_code 1 (some .int) "StarWalk" (by decide +kernel) rfl hq hw (Nat.le_of_ble_eq_true rfl) ?_
  intro pg en s m ar bl me cd ls E I hr hlk hl
  have hx := E.1.1
  have hb := E.1.2.1
  have hl : lv_has ls 1 [(0, .int a0)] := hl
  obtain ⟨res, hres⟩ : ∃ z, z = F_X7_oneIf a0 v := ⟨_, rfl⟩
  have hF := hres.symm
  unfold F_X7_oneIf at hF
  replace hres : res = F_X7_oneIf a0 v := hres
  refine lv_iload_n hx hb dX7_oneIf_0 rfl (lv_at hl 0 rfl) ?_
  refine bz_eq E (a := a0.toInt) rfl (tgt := 8) dX7_oneIf_1 (by decide) (fun c1 => ?_) (fun c1 => ?_)
  ·
    replace hF := if_t c1 hF
    refine lv_iconst (v := 0) hx hb dX7_oneIf_8 (by decide) ?_
    exact rI E I hr hlk rfl (by rw [← hpost]; exact ⟨⟨rfl, by have eL : (0 : Int32).toInt = 0 := rfl; omega⟩, hF.trans hres, trivial⟩) dX7_oneIf_9
  ·
    replace hF := if_f c1 hF
    refine lv_iconst (v := 1) hx hb dX7_oneIf_4 (by decide) ?_
    refine lv_goto (tgt := 9) hx hb dX7_oneIf_5 (by decide) ?_
    exact rI E I hr hlk rfl (by rw [← hpost]; exact ⟨⟨rfl, by have eL : (1 : Int32).toInt = 1 := rfl; omega⟩, hF.trans hres, trivial⟩) dX7_oneIf_9
def F_X7_withBit (a0 : Int32) (a1 : Int32) (a2 : Int32) (v : St) : Int32 :=
if a2.toInt = 0 then (
xl ((1 : Int32) <<< (a1 &&& 31)) fun x2 =>
xl (x2 ^^^ (-1 : Int32)) fun x3 =>
xl (a0 &&& x3) fun x4 =>
x4) else (
xl ((1 : Int32) <<< (a1 &&& 31)) fun x5 =>
xl (a0 ||| x5) fun x6 =>
x6)
set_option maxHeartbeats 4000000 in
set_option maxRecDepth 100000 in
theorem c_X7_withBit (l : Launch) (w : Wp) (g : Nat → Nat → Int32) (v : St) (a0 : Int32) (a1 : Int32) (a2 : Int32) (hq : Inj w) (hw : WF (wk w) g v) : CTi w l yX7_withBit (wsy yX7_withBit prog_1_method_47_code 3 (some .int)) (rmL 1) [.int a0, .int a1, .int a2] v (fun (r : Int32) (u : St) => (u = v ∧ True) ∧ (r = F_X7_withBit a0 a1 a2 v) ∧ True) := by
  generalize hpost : (fun (r : Int32) (u : St) => (u = v ∧ True) ∧ (r = F_X7_withBit a0 a1 a2 v) ∧ True) = post
  refine CTi.of prog_1_method_47_code 3 (some .int) "StarWalk" (by decide +kernel) rfl hq hw (Nat.le_of_ble_eq_true rfl) ?_
  intro pg en s m ar bl me cd ls E I hr hlk hl
  have hx := E.1.1
  have hb := E.1.2.1
  have hl : lv_has ls 3 [(0, .int a0), (1, .int a1), (2, .int a2)] := hl
  obtain ⟨res, hres⟩ : ∃ z, z = F_X7_withBit a0 a1 a2 v := ⟨_, rfl⟩
  have hF := hres.symm
  unfold F_X7_withBit at hF
  replace hres : res = F_X7_withBit a0 a1 a2 v := hres
  refine lv_iload_n hx hb dX7_withBit_0 rfl (lv_at hl 2 rfl) ?_
  refine bz_eq E (a := a2.toInt) rfl (tgt := 12) dX7_withBit_1 (by decide) (fun c1 => ?_) (fun c1 => ?_)
  ·
    replace hF := if_t c1 hF
    refine lv_iload_n hx hb dX7_withBit_12 rfl (lv_at hl 0 rfl) ?_
    refine lv_iconst (v := 1) hx hb dX7_withBit_13 (by decide) ?_
    refine lv_iload_n hx hb dX7_withBit_14 rfl (lv_at hl 1 rfl) ?_
    refine lv_ishl hx hb dX7_withBit_15 ?_
    refine lv_topi (fun x2 ex2 => ?_)
    replace hF := xl_i (ex2) hF
    refine lv_iconst (v := (-1)) hx hb dX7_withBit_16 (by decide) ?_
    refine lv_ixor hx hb dX7_withBit_17 ?_
    refine lv_topi (fun x3 ex3 => ?_)
    replace hF := xl_i (ex3) hF
    refine lv_iand hx hb dX7_withBit_18 ?_
    refine lv_topi (fun x4 ex4 => ?_)
    replace hF := xl_i (ex4) hF
    exact rI E I hr hlk rfl (by rw [← hpost]; exact ⟨⟨rfl, trivial⟩, hF.trans hres, trivial⟩) dX7_withBit_19
  ·
    replace hF := if_f c1 hF
    refine lv_iload_n hx hb dX7_withBit_4 rfl (lv_at hl 0 rfl) ?_
    refine lv_iconst (v := 1) hx hb dX7_withBit_5 (by decide) ?_
    refine lv_iload_n hx hb dX7_withBit_6 rfl (lv_at hl 1 rfl) ?_
    refine lv_ishl hx hb dX7_withBit_7 ?_
    refine lv_topi (fun x5 ex5 => ?_)
    replace hF := xl_i (ex5) hF
    refine lv_ior hx hb dX7_withBit_8 ?_
    refine lv_topi (fun x6 ex6 => ?_)
    replace hF := xl_i (ex6) hF
    refine lv_goto (tgt := 19) hx hb dX7_withBit_9 (by decide) ?_
    exact rI E I hr hlk rfl (by rw [← hpost]; exact ⟨⟨rfl, trivial⟩, hF.trans hres, trivial⟩) dX7_withBit_19
def F_X7_isZeroOrOne (a0 : Int32) (v : St) : Int32 :=
if a0.toInt = 0 then (
(1 : Int32)) else (
if a0.toInt = 1 then (
(1 : Int32)) else (
(0 : Int32)))
set_option maxHeartbeats 4000000 in
set_option maxRecDepth 100000 in
theorem c_X7_isZeroOrOne (l : Launch) (w : Wp) (g : Nat → Nat → Int32) (v : St) (a0 : Int32) (hq : Inj w) (hw : WF (wk w) g v) : CTi w l yX7_isZeroOrOne (wsy yX7_isZeroOrOne prog_1_method_48_code 1 (some .boolean)) (rmL 1) [.int a0] v (fun (r : Int32) (u : St) => (u = v ∧ 0 ≤ r.toInt ∧ r.toInt ≤ 1 ∧ (¬ r.toInt = 0 ↔ 0 ≤ a0.toInt ∧ a0.toInt ≤ 1)) ∧ (r = F_X7_isZeroOrOne a0 v) ∧ True) := by
  generalize hpost : (fun (r : Int32) (u : St) => (u = v ∧ 0 ≤ r.toInt ∧ r.toInt ≤ 1 ∧ (¬ r.toInt = 0 ↔ 0 ≤ a0.toInt ∧ a0.toInt ≤ 1)) ∧ (r = F_X7_isZeroOrOne a0 v) ∧ True) = post
  refine CTi.of prog_1_method_48_code 1 (some .boolean) "StarWalk" (by decide +kernel) rfl hq hw (Nat.le_of_ble_eq_true rfl) ?_
  intro pg en s m ar bl me cd ls E I hr hlk hl
  have hx := E.1.1
  have hb := E.1.2.1
  have hl : lv_has ls 1 [(0, .int a0)] := hl
  obtain ⟨res, hres⟩ : ∃ z, z = F_X7_isZeroOrOne a0 v := ⟨_, rfl⟩
  have hF := hres.symm
  unfold F_X7_isZeroOrOne at hF
  replace hres : res = F_X7_isZeroOrOne a0 v := hres
  refine lv_iload_n hx hb dX7_isZeroOrOne_0 rfl (lv_at hl 0 rfl) ?_
  refine bz_eq E (a := a0.toInt) rfl (tgt := 9) dX7_isZeroOrOne_1 (by decide) (fun c1 => ?_) (fun c1 => ?_)
  ·
    replace hF := if_t c1 hF
    refine lv_iconst (v := 1) hx hb dX7_isZeroOrOne_9 (by decide) ?_
    refine lv_goto (tgt := 14) hx hb dX7_isZeroOrOne_10 (by decide) ?_
    exact rI E I hr hlk rfl (by rw [← hpost]; exact ⟨⟨rfl, by have eL : (1 : Int32).toInt = 1 := rfl; omega⟩, hF.trans hres, trivial⟩) dX7_isZeroOrOne_14
  ·
    replace hF := if_f c1 hF
    refine lv_iload_n hx hb dX7_isZeroOrOne_4 rfl (lv_at hl 0 rfl) ?_
    refine lv_iconst (v := 1) hx hb dX7_isZeroOrOne_5 (by decide) ?_
    refine bi_ne E (a := a0.toInt) (b := 1) rfl rfl (tgt := 13) dX7_isZeroOrOne_6 (by decide) (fun c2 => ?_) (fun c2 => ?_)
    ·
      replace hF := if_f c2 hF
      refine lv_iconst (v := 0) hx hb dX7_isZeroOrOne_13 (by decide) ?_
      exact rI E I hr hlk rfl (by rw [← hpost]; exact ⟨⟨rfl, by have eL : (0 : Int32).toInt = 0 := rfl; omega⟩, hF.trans hres, trivial⟩) dX7_isZeroOrOne_14
    ·
      replace hF := if_t c2 hF
      refine lv_iconst (v := 1) hx hb dX7_isZeroOrOne_9 (by decide) ?_
      refine lv_goto (tgt := 14) hx hb dX7_isZeroOrOne_10 (by decide) ?_
      exact rI E I hr hlk rfl (by rw [← hpost]; exact ⟨⟨rfl, by have eL : (1 : Int32).toInt = 1 := rfl; omega⟩, hF.trans hres, trivial⟩) dX7_isZeroOrOne_14
def F_X7_isHour (a0 : Int32) (v : St) : Int32 :=
if a0.toInt < 0 then (
(0 : Int32)) else (
if a0.toInt < 10 then (
(1 : Int32)) else (
(0 : Int32)))
set_option maxHeartbeats 4000000 in
set_option maxRecDepth 100000 in
theorem c_X7_isHour (l : Launch) (w : Wp) (g : Nat → Nat → Int32) (v : St) (a0 : Int32) (hq : Inj w) (hw : WF (wk w) g v) : CTi w l yX7_isHour (wsy yX7_isHour prog_1_method_49_code 1 (some .boolean)) (rmL 1) [.int a0] v (fun (r : Int32) (u : St) => (u = v ∧ 0 ≤ r.toInt ∧ r.toInt ≤ 1 ∧ (¬ r.toInt = 0 ↔ 0 ≤ a0.toInt ∧ a0.toInt ≤ 9)) ∧ (r = F_X7_isHour a0 v) ∧ True) := by
  generalize hpost : (fun (r : Int32) (u : St) => (u = v ∧ 0 ≤ r.toInt ∧ r.toInt ≤ 1 ∧ (¬ r.toInt = 0 ↔ 0 ≤ a0.toInt ∧ a0.toInt ≤ 9)) ∧ (r = F_X7_isHour a0 v) ∧ True) = post
  refine CTi.of prog_1_method_49_code 1 (some .boolean) "StarWalk" (by decide +kernel) rfl hq hw (Nat.le_of_ble_eq_true rfl) ?_
  intro pg en s m ar bl me cd ls E I hr hlk hl
  have hx := E.1.1
  have hb := E.1.2.1
  have hl : lv_has ls 1 [(0, .int a0)] := hl
  obtain ⟨res, hres⟩ : ∃ z, z = F_X7_isHour a0 v := ⟨_, rfl⟩
  have hF := hres.symm
  unfold F_X7_isHour at hF
  replace hres : res = F_X7_isHour a0 v := hres
  refine lv_iload_n hx hb dX7_isHour_0 rfl (lv_at hl 0 rfl) ?_
  refine bz_lt E (a := a0.toInt) rfl (tgt := 14) dX7_isHour_1 (by decide) (fun c1 => ?_) (fun c1 => ?_)
  ·
    replace hF := if_t c1 hF
    refine lv_iconst (v := 0) hx hb dX7_isHour_14 (by decide) ?_
    exact rI E I hr hlk rfl (by rw [← hpost]; exact ⟨⟨rfl, by have eL : (0 : Int32).toInt = 0 := rfl; omega⟩, hF.trans hres, trivial⟩) dX7_isHour_15
  ·
    replace hF := if_l c1 hF
    refine lv_iload_n hx hb dX7_isHour_4 rfl (lv_at hl 0 rfl) ?_
    refine lv_bipush (v := 10) hx hb dX7_isHour_5 (by decide) ?_
    refine bi_ge E (a := a0.toInt) (b := 10) rfl rfl (tgt := 14) dX7_isHour_7 (by decide) (fun c2 => ?_) (fun c2 => ?_)
    ·
      replace hF := if_l c2 hF
      refine lv_iconst (v := 0) hx hb dX7_isHour_14 (by decide) ?_
      exact rI E I hr hlk rfl (by rw [← hpost]; exact ⟨⟨rfl, by have eL : (0 : Int32).toInt = 0 := rfl; omega⟩, hF.trans hres, trivial⟩) dX7_isHour_15
    ·
      replace hF := if_t c2 hF
      refine lv_iconst (v := 1) hx hb dX7_isHour_10 (by decide) ?_
      refine lv_goto (tgt := 15) hx hb dX7_isHour_11 (by decide) ?_
      exact rI E I hr hlk rfl (by rw [← hpost]; exact ⟨⟨rfl, by have eL : (1 : Int32).toInt = 1 := rfl; omega⟩, hF.trans hres, trivial⟩) dX7_isHour_15
def F_X7_isSheet (a0 : Int32) (v : St) : Int32 :=
if a0.toInt < 0 then (
(0 : Int32)) else (
if a0.toInt < 4 then (
(1 : Int32)) else (
(0 : Int32)))
set_option maxHeartbeats 4000000 in
set_option maxRecDepth 100000 in
theorem c_X7_isSheet (l : Launch) (w : Wp) (g : Nat → Nat → Int32) (v : St) (a0 : Int32) (hq : Inj w) (hw : WF (wk w) g v) : CTi w l yX7_isSheet (wsy yX7_isSheet prog_1_method_50_code 1 (some .boolean)) (rmL 1) [.int a0] v (fun (r : Int32) (u : St) => (u = v ∧ 0 ≤ r.toInt ∧ r.toInt ≤ 1 ∧ (¬ r.toInt = 0 ↔ 0 ≤ a0.toInt ∧ a0.toInt ≤ 3)) ∧ (r = F_X7_isSheet a0 v) ∧ True) := by
  generalize hpost : (fun (r : Int32) (u : St) => (u = v ∧ 0 ≤ r.toInt ∧ r.toInt ≤ 1 ∧ (¬ r.toInt = 0 ↔ 0 ≤ a0.toInt ∧ a0.toInt ≤ 3)) ∧ (r = F_X7_isSheet a0 v) ∧ True) = post
  refine CTi.of prog_1_method_50_code 1 (some .boolean) "StarWalk" (by decide +kernel) rfl hq hw (Nat.le_of_ble_eq_true rfl) ?_
  intro pg en s m ar bl me cd ls E I hr hlk hl
  have hx := E.1.1
  have hb := E.1.2.1
  have hl : lv_has ls 1 [(0, .int a0)] := hl
  obtain ⟨res, hres⟩ : ∃ z, z = F_X7_isSheet a0 v := ⟨_, rfl⟩
  have hF := hres.symm
  unfold F_X7_isSheet at hF
  replace hres : res = F_X7_isSheet a0 v := hres
  refine lv_iload_n hx hb dX7_isSheet_0 rfl (lv_at hl 0 rfl) ?_
  refine bz_lt E (a := a0.toInt) rfl (tgt := 13) dX7_isSheet_1 (by decide) (fun c1 => ?_) (fun c1 => ?_)
  ·
    replace hF := if_t c1 hF
    refine lv_iconst (v := 0) hx hb dX7_isSheet_13 (by decide) ?_
    exact rI E I hr hlk rfl (by rw [← hpost]; exact ⟨⟨rfl, by have eL : (0 : Int32).toInt = 0 := rfl; omega⟩, hF.trans hres, trivial⟩) dX7_isSheet_14
  ·
    replace hF := if_l c1 hF
    refine lv_iload_n hx hb dX7_isSheet_4 rfl (lv_at hl 0 rfl) ?_
    refine lv_iconst (v := 4) hx hb dX7_isSheet_5 (by decide) ?_
    refine bi_ge E (a := a0.toInt) (b := 4) rfl rfl (tgt := 13) dX7_isSheet_6 (by decide) (fun c2 => ?_) (fun c2 => ?_)
    ·
      replace hF := if_l c2 hF
      refine lv_iconst (v := 0) hx hb dX7_isSheet_13 (by decide) ?_
      exact rI E I hr hlk rfl (by rw [← hpost]; exact ⟨⟨rfl, by have eL : (0 : Int32).toInt = 0 := rfl; omega⟩, hF.trans hres, trivial⟩) dX7_isSheet_14
    ·
      replace hF := if_t c2 hF
      refine lv_iconst (v := 1) hx hb dX7_isSheet_9 (by decide) ?_
      refine lv_goto (tgt := 14) hx hb dX7_isSheet_10 (by decide) ?_
      exact rI E I hr hlk rfl (by rw [← hpost]; exact ⟨⟨rfl, by have eL : (1 : Int32).toInt = 1 := rfl; omega⟩, hF.trans hres, trivial⟩) dX7_isSheet_14
def F_X7_isLane (a0 : Int32) (v : St) : Int32 :=
if a0.toInt < 0 then (
(0 : Int32)) else (
if a0.toInt < 3 then (
(1 : Int32)) else (
(0 : Int32)))
set_option maxHeartbeats 4000000 in
set_option maxRecDepth 100000 in
theorem c_X7_isLane (l : Launch) (w : Wp) (g : Nat → Nat → Int32) (v : St) (a0 : Int32) (hq : Inj w) (hw : WF (wk w) g v) : CTi w l yX7_isLane (wsy yX7_isLane prog_1_method_51_code 1 (some .boolean)) (rmL 1) [.int a0] v (fun (r : Int32) (u : St) => (u = v ∧ 0 ≤ r.toInt ∧ r.toInt ≤ 1 ∧ (¬ r.toInt = 0 ↔ 0 ≤ a0.toInt ∧ a0.toInt ≤ 2)) ∧ (r = F_X7_isLane a0 v) ∧ True) := by
  generalize hpost : (fun (r : Int32) (u : St) => (u = v ∧ 0 ≤ r.toInt ∧ r.toInt ≤ 1 ∧ (¬ r.toInt = 0 ↔ 0 ≤ a0.toInt ∧ a0.toInt ≤ 2)) ∧ (r = F_X7_isLane a0 v) ∧ True) = post
  refine CTi.of prog_1_method_51_code 1 (some .boolean) "StarWalk" (by decide +kernel) rfl hq hw (Nat.le_of_ble_eq_true rfl) ?_
  intro pg en s m ar bl me cd ls E I hr hlk hl
  have hx := E.1.1
  have hb := E.1.2.1
  have hl : lv_has ls 1 [(0, .int a0)] := hl
  obtain ⟨res, hres⟩ : ∃ z, z = F_X7_isLane a0 v := ⟨_, rfl⟩
  have hF := hres.symm
  unfold F_X7_isLane at hF
  replace hres : res = F_X7_isLane a0 v := hres
  refine lv_iload_n hx hb dX7_isLane_0 rfl (lv_at hl 0 rfl) ?_
  refine bz_lt E (a := a0.toInt) rfl (tgt := 13) dX7_isLane_1 (by decide) (fun c1 => ?_) (fun c1 => ?_)
  ·
    replace hF := if_t c1 hF
    refine lv_iconst (v := 0) hx hb dX7_isLane_13 (by decide) ?_
    exact rI E I hr hlk rfl (by rw [← hpost]; exact ⟨⟨rfl, by have eL : (0 : Int32).toInt = 0 := rfl; omega⟩, hF.trans hres, trivial⟩) dX7_isLane_14
  ·
    replace hF := if_l c1 hF
    refine lv_iload_n hx hb dX7_isLane_4 rfl (lv_at hl 0 rfl) ?_
    refine lv_iconst (v := 3) hx hb dX7_isLane_5 (by decide) ?_
    refine bi_ge E (a := a0.toInt) (b := 3) rfl rfl (tgt := 13) dX7_isLane_6 (by decide) (fun c2 => ?_) (fun c2 => ?_)
    ·
      replace hF := if_l c2 hF
      refine lv_iconst (v := 0) hx hb dX7_isLane_13 (by decide) ?_
      exact rI E I hr hlk rfl (by rw [← hpost]; exact ⟨⟨rfl, by have eL : (0 : Int32).toInt = 0 := rfl; omega⟩, hF.trans hres, trivial⟩) dX7_isLane_14
    ·
      replace hF := if_t c2 hF
      refine lv_iconst (v := 1) hx hb dX7_isLane_9 (by decide) ?_
      refine lv_goto (tgt := 14) hx hb dX7_isLane_10 (by decide) ?_
      exact rI E I hr hlk rfl (by rw [← hpost]; exact ⟨⟨rfl, by have eL : (1 : Int32).toInt = 1 := rfl; omega⟩, hF.trans hres, trivial⟩) dX7_isLane_14
def F_J6_bitCount_0f7a4 (a0 : Int32) (v : St) : Int32 :=
xl ((a0.toUInt32 >>> ((1 : Int32).toUInt32 &&& Int32.toUInt32 31)).toInt32) fun x1 =>
xl (x1 &&& (1431655765 : Int32)) fun x2 =>
xl (a0 - x2) fun x3 =>
xl (x3 &&& (858993459 : Int32)) fun x4 =>
xl ((x3.toUInt32 >>> ((2 : Int32).toUInt32 &&& Int32.toUInt32 31)).toInt32) fun x5 =>
xl (x5 &&& (858993459 : Int32)) fun x6 =>
xl (x4 + x6) fun x7 =>
xl ((x7.toUInt32 >>> ((4 : Int32).toUInt32 &&& Int32.toUInt32 31)).toInt32) fun x8 =>
xl (x7 + x8) fun x9 =>
xl (x9 &&& (252645135 : Int32)) fun x10 =>
xl ((x10.toUInt32 >>> ((8 : Int32).toUInt32 &&& Int32.toUInt32 31)).toInt32) fun x11 =>
xl (x10 + x11) fun x12 =>
xl ((x12.toUInt32 >>> ((16 : Int32).toUInt32 &&& Int32.toUInt32 31)).toInt32) fun x13 =>
xl (x12 + x13) fun x14 =>
xl (x14 &&& (63 : Int32)) fun x15 =>
x15
set_option maxHeartbeats 4000000 in
set_option maxRecDepth 100000 in
theorem c_J6_bitCount_0f7a4 (l : Launch) (w : Wp) (g : Nat → Nat → Int32) (v : St) (a0 : Int32) (hq : Inj w) (hw : WF (wk w) g v) : CTi w l yJ6_bitCount_0f7a4 (wsy yJ6_bitCount_0f7a4 prog_11_method_49_code 1 (some .int)) (rmL 1) [.int a0] v (fun (r : Int32) (u : St) => (u = v ∧ True) ∧ (r = F_J6_bitCount_0f7a4 a0 v) ∧ True) := by
  generalize hpost : (fun (r : Int32) (u : St) => (u = v ∧ True) ∧ (r = F_J6_bitCount_0f7a4 a0 v) ∧ True) = post
  refine CTi.of prog_11_method_49_code 1 (some .int) "java/lang/Integer" (by decide +kernel) rfl hq hw (Nat.le_of_ble_eq_true rfl) ?_
  intro pg en s m ar bl me cd ls E I hr hlk hl
  have hx := E.1.1
  have hb := E.1.2.1
  have hl : lv_has ls 1 [(0, .int a0)] := hl
  obtain ⟨res, hres⟩ : ∃ z, z = F_J6_bitCount_0f7a4 a0 v := ⟨_, rfl⟩
  have hF := hres.symm
  unfold F_J6_bitCount_0f7a4 at hF
  replace hres : res = F_J6_bitCount_0f7a4 a0 v := hres
  refine lv_iload_n hx hb dJ6_bitCount_0f7a4_0 rfl (lv_at hl 0 rfl) ?_
  refine lv_iload_n hx hb dJ6_bitCount_0f7a4_1 rfl (lv_at hl 0 rfl) ?_
  refine lv_iconst (v := 1) hx hb dJ6_bitCount_0f7a4_2 (by decide) ?_
  refine lv_iushr (v := _) hx hb dJ6_bitCount_0f7a4_3 rfl ?_
  refine lv_topi (fun x1 ex1 => ?_)
  replace hF := xl_i (ex1) hF
  refine lv_ldcw (own := "java/lang/Integer") hx hb E.1.2.2.2.1 (Ew E mw_4_20 rfl) dJ6_bitCount_0f7a4_4 ?_
  refine lv_iand hx hb dJ6_bitCount_0f7a4_7 ?_
  refine lv_topi (fun x2 ex2 => ?_)
  replace hF := xl_i (ex2) hF
  have hx2 := anI (x := x1) (y := (1431655765 : Int32)) (b := 1431655765) rfl (by decide)
  rw [← ex2] at hx2
  refine lv_isub hx hb dJ6_bitCount_0f7a4_8 ?_
  refine lv_topi (fun x3 ex3 => ?_)
  replace hF := xl_i (ex3) hF
  refine lv_istore_n (lv' := [(0, .int x3)]) hx hb dJ6_bitCount_0f7a4_9 rfl hl (by decide) rfl (fun ls hl => ?_)
  refine lv_iload_n hx hb dJ6_bitCount_0f7a4_10 rfl (lv_at hl 0 rfl) ?_
  refine lv_ldcw (own := "java/lang/Integer") hx hb E.1.2.2.2.1 (Ew E mw_4_21 rfl) dJ6_bitCount_0f7a4_11 ?_
  refine lv_iand hx hb dJ6_bitCount_0f7a4_14 ?_
  refine lv_topi (fun x4 ex4 => ?_)
  replace hF := xl_i (ex4) hF
  have hx4 := anI (x := x3) (y := (858993459 : Int32)) (b := 858993459) rfl (by decide)
  rw [← ex4] at hx4
  refine lv_iload_n hx hb dJ6_bitCount_0f7a4_15 rfl (lv_at hl 0 rfl) ?_
  refine lv_iconst (v := 2) hx hb dJ6_bitCount_0f7a4_16 (by decide) ?_
  refine lv_iushr (v := _) hx hb dJ6_bitCount_0f7a4_17 rfl ?_
  refine lv_topi (fun x5 ex5 => ?_)
  replace hF := xl_i (ex5) hF
  refine lv_ldcw (own := "java/lang/Integer") hx hb E.1.2.2.2.1 (Ew E mw_4_21 rfl) dJ6_bitCount_0f7a4_18 ?_
  refine lv_iand hx hb dJ6_bitCount_0f7a4_21 ?_
  refine lv_topi (fun x6 ex6 => ?_)
  replace hF := xl_i (ex6) hF
  have hx6 := anI (x := x5) (y := (858993459 : Int32)) (b := 858993459) rfl (by decide)
  rw [← ex6] at hx6
  refine lv_iadd hx hb dJ6_bitCount_0f7a4_22 ?_
  refine lv_topi (fun x7 ex7 => ?_)
  replace hF := xl_i (ex7) hF
  have hx7 : x7.toInt = x4.toInt + x6.toInt := by rw [ex7]; exact adI (a := x4.toInt) (b := x6.toInt) rfl rfl (by omega) (by omega)
  refine lv_istore_n (lv' := [(0, .int x7)]) hx hb dJ6_bitCount_0f7a4_23 rfl hl (by decide) rfl (fun ls hl => ?_)
  refine lv_iload_n hx hb dJ6_bitCount_0f7a4_24 rfl (lv_at hl 0 rfl) ?_
  refine lv_iload_n hx hb dJ6_bitCount_0f7a4_25 rfl (lv_at hl 0 rfl) ?_
  refine lv_iconst (v := 4) hx hb dJ6_bitCount_0f7a4_26 (by decide) ?_
  refine lv_iushr (v := _) hx hb dJ6_bitCount_0f7a4_27 rfl ?_
  refine lv_topi (fun x8 ex8 => ?_)
  replace hF := xl_i (ex8) hF
  refine lv_iadd hx hb dJ6_bitCount_0f7a4_28 ?_
  refine lv_topi (fun x9 ex9 => ?_)
  replace hF := xl_i (ex9) hF
  refine lv_ldcw (own := "java/lang/Integer") hx hb E.1.2.2.2.1 (Ew E mw_4_22 rfl) dJ6_bitCount_0f7a4_29 ?_
  refine lv_iand hx hb dJ6_bitCount_0f7a4_32 ?_
  refine lv_topi (fun x10 ex10 => ?_)
  replace hF := xl_i (ex10) hF
  have hx10 := anI (x := x9) (y := (252645135 : Int32)) (b := 252645135) rfl (by decide)
  rw [← ex10] at hx10
  refine lv_istore_n (lv' := [(0, .int x10)]) hx hb dJ6_bitCount_0f7a4_33 rfl hl (by decide) rfl (fun ls hl => ?_)
  refine lv_iload_n hx hb dJ6_bitCount_0f7a4_34 rfl (lv_at hl 0 rfl) ?_
  refine lv_iload_n hx hb dJ6_bitCount_0f7a4_35 rfl (lv_at hl 0 rfl) ?_
  refine lv_bipush (v := 8) hx hb dJ6_bitCount_0f7a4_36 (by decide) ?_
  refine lv_iushr (v := _) hx hb dJ6_bitCount_0f7a4_38 rfl ?_
  refine lv_topi (fun x11 ex11 => ?_)
  replace hF := xl_i (ex11) hF
  refine lv_iadd hx hb dJ6_bitCount_0f7a4_39 ?_
  refine lv_topi (fun x12 ex12 => ?_)
  replace hF := xl_i (ex12) hF
  refine lv_istore_n (lv' := [(0, .int x12)]) hx hb dJ6_bitCount_0f7a4_40 rfl hl (by decide) rfl (fun ls hl => ?_)
  refine lv_iload_n hx hb dJ6_bitCount_0f7a4_41 rfl (lv_at hl 0 rfl) ?_
  refine lv_iload_n hx hb dJ6_bitCount_0f7a4_42 rfl (lv_at hl 0 rfl) ?_
  refine lv_bipush (v := 16) hx hb dJ6_bitCount_0f7a4_43 (by decide) ?_
  refine lv_iushr (v := _) hx hb dJ6_bitCount_0f7a4_45 rfl ?_
  refine lv_topi (fun x13 ex13 => ?_)
  replace hF := xl_i (ex13) hF
  refine lv_iadd hx hb dJ6_bitCount_0f7a4_46 ?_
  refine lv_topi (fun x14 ex14 => ?_)
  replace hF := xl_i (ex14) hF
  refine lv_istore_n (lv' := [(0, .int x14)]) hx hb dJ6_bitCount_0f7a4_47 rfl hl (by decide) rfl (fun ls hl => ?_)
  refine lv_iload_n hx hb dJ6_bitCount_0f7a4_48 rfl (lv_at hl 0 rfl) ?_
  refine lv_bipush (v := 63) hx hb dJ6_bitCount_0f7a4_49 (by decide) ?_
  refine lv_iand hx hb dJ6_bitCount_0f7a4_51 ?_
  refine lv_topi (fun x15 ex15 => ?_)
  replace hF := xl_i (ex15) hF
  have hx15 := anI (x := x14) (y := (63 : Int32)) (b := 63) rfl (by decide)
  rw [← ex15] at hx15
  exact rI E I hr hlk rfl (by rw [← hpost]; exact ⟨⟨rfl, trivial⟩, hF.trans hres, trivial⟩) dJ6_bitCount_0f7a4_52
def F_X4_renew (k0 : Nat) (a0 : Int32) (a1 : Int32) (v : St) : St :=
xl (fun (self_12 : Int32 → St → St) (y12_3 : Int32) (v_12 : St) =>
if y12_3.toInt < 40 then (
xl (up1 v_12 (k0 + 1) y12_3.toNatClampNeg (0 : Int32)) fun v2 =>
xl (y12_3 + 1) fun x3 =>
(self_12 x3 v2)) else (
v_12)) fun P_12 =>
xl (up1 v k0 0 a0) fun v4 =>
xl (up1 v4 k0 1 a1) fun v5 =>
(lp P_12 (fun _ _ => v) ((2147483647 - (0 : Int32).toInt).toNat + 1) (0 : Int32) v5)
set_option maxHeartbeats 4000000 in
set_option maxRecDepth 100000 in
theorem c_X4_renew (l : Launch) (w : Wp) (g : Nat → Nat → Int32) (v : St) (k0 : Nat) (a0 : Int32) (a1 : Int32) (hq : Inj w) (hw : WF (wk w) g v) (h_k0 : oS w k0) (h_a1 : 0 ≤ a1.toInt ∧ a1.toInt ≤ 40) : CTv w l yX4_renew (wsy yX4_renew prog_6_method_2_code 4 none) (rmL 1) [.ref (wq w k0), .int a0, .int a1] v (fun (u : St) => (WF (wk w) g u ∧ True) ∧ (u = F_X4_renew k0 a0 a1 v) ∧ (∀ k j : Nat, ¬ (k0 ≤ k ∧ k < k0 + 2) → u.1 k j = v.1 k j)) := by
  generalize hpost : (fun (u : St) => (WF (wk w) g u ∧ True) ∧ (u = F_X4_renew k0 a0 a1 v) ∧ (∀ k j : Nat, ¬ (k0 ≤ k ∧ k < k0 + 2) → u.1 k j = v.1 k j)) = post
  refine CTv.of prog_6_method_2_code 4 none "StarWalk$Sheet" (by decide +kernel) rfl hq hw (Nat.le_of_ble_eq_true rfl) ?_
  intro pg en s m ar bl me cd ls E I hr hlk hl
  have hx := E.1.1
  have hb := E.1.2.1
  have hl : lv_has ls 4 [(0, .ref (wq w k0)), (1, .int a0), (2, .int a1)] := hl
  obtain ⟨res, hres⟩ : ∃ z, z = F_X4_renew k0 a0 a1 v := ⟨_, rfl⟩
  have hF := hres.symm
  unfold F_X4_renew at hF
  replace hres : res = F_X4_renew k0 a0 a1 v := hres
  have rz0 : ∀ k j : Nat, ¬ (k0 ≤ k ∧ k < k0 + 2) → v.1 k j = v.1 k j := fun _ _ _ => rfl
  obtain ⟨P_12, eP_12, hF⟩ := xl_e hF
  have L_12 : ∀ (n : Nat), ∀ (H : Heap) (lo : List Loc) (v_12 : St), Wo w g s.heap v_12 H lo → ∀ (y12_3 : Int32), (0 ≤ y12_3.toInt ∧ y12_3.toInt ≤ 40) → (∀ k j : Nat, ¬ (k0 ≤ k ∧ k < k0 + 2) → v_12.1 k j = v.1 k j) → (lp P_12 (fun _ _ => v) n y12_3 v_12 = res) → (2147483647 - y12_3.toInt).toNat < n → ∀ (ls : Array Slot), lv_has ls 4 [(0, .ref (wq w k0)), (3, .int y12_3)] → W pg l en (rmL 1) s m ar bl me cd H lo 0 0 (Zv w bl ar s post) (F0 m 12 ls []) := by
    intro n
    induction n with
    | zero => intro H lo v_12 I y12_3 hy12_3 rB12_Z hF hm; exact absurd hm (Nat.not_lt_zero _)
    | succ n ih_12 =>
      intro H lo v_12 I y12_3 hy12_3 rB12_Z hF hm ls hl
      replace hF := lpa2 eP_12 hF
      refine lv_iload_n hx hb dX4_renew_12 rfl (lv_at hl 1 rfl) ?_
      refine lv_bipush (v := 40) hx hb dX4_renew_13 (by decide) ?_
      refine bi_ge E (a := y12_3.toInt) (b := 40) rfl rfl (tgt := 31) dX4_renew_15 (by decide) (fun c1 => ?_) (fun c1 => ?_)
      ·
        replace hF := if_l c1 hF
        exact rV E I hr hlk (by rw [← hpost]; exact ⟨⟨I.2.2, trivial⟩, hF.trans hres, rB12_Z⟩) dX4_renew_31
      ·
        replace hF := if_t c1 hF
        refine lv_aload_n hx hb dX4_renew_18 rfl (lv_at hl 0 rfl) ?_
        refine g_Sheet_cells E I h_k0.1 mw_2_58 dX4_renew_19 ?_
        refine lv_iload_n hx hb dX4_renew_22 rfl (lv_at hl 1 rfl) ?_
        refine lv_iconst (v := 0) hx hb dX4_renew_23 (by decide) ?_
        refine pa_18 E I h_k0.2 (by omega) dX4_renew_24 (fun H lo I => ?_)
        generalize ev2 : up1 v_12 (k0 + 1) y12_3.toNatClampNeg (0 : Int32) = v2 at I
        replace hF := xl_i (ev2.symm) hF
        have rzv2 : ∀ k j : Nat, ¬ (k0 ≤ k ∧ k < k0 + 2) → v2.1 k j = v.1 k j := fun k j h => fz_u ev2 (by have czy12_3 := cnI (x := y12_3) (by omega); omega) (rB12_Z k j h)
        obtain ⟨x3, ex3⟩ : ∃ z : Int32, z = y12_3 + 1 := ⟨_, rfl⟩
        replace hF := xl_i (ex3) hF
        have hx3 : x3.toInt = y12_3.toInt + (1) := by rw [ex3]; exact adI (a := y12_3.toInt) (b := 1) rfl rfl (by omega) (by omega)
        refine lv_iinc (v := x3) (lv' := [(3, .int x3), (0, .ref (wq w k0))]) hx hb dX4_renew_25 hl (k := 1) rfl (by rw [ex3]; rfl) (by decide) rfl (fun ls hl => ?_)
        refine lv_goto (tgt := 12) hx hb dX4_renew_28 (by decide) ?_
        exact ih_12 _ _ v2 I x3 (by omega) rzv2 hF (by omega) ls (lv_sub hl [1, 0] rfl)
  refine lv_aload_n hx hb dX4_renew_0 rfl (lv_at hl 0 rfl) ?_
  refine lv_iload_n hx hb dX4_renew_1 rfl (lv_at hl 1 rfl) ?_
  refine p_Sheet_lane E I h_k0.1 mw_2_54 dX4_renew_2 (fun H lo I => ?_)
  generalize ev4 : up1 v k0 0 a0 = v4 at I
  replace hF := xl_i (ev4.symm) hF
  have rzv4 : ∀ k j : Nat, ¬ (k0 ≤ k ∧ k < k0 + 2) → v4.1 k j = v.1 k j := fun k j h => fz_u ev4 (by omega) (rz0 k j h)
  refine lv_aload_n hx hb dX4_renew_5 rfl (lv_at hl 0 rfl) ?_
  refine lv_iload_n hx hb dX4_renew_6 rfl (lv_at hl 2 rfl) ?_
  refine p_Sheet_size E I h_k0.1 mw_2_56 (by omega) dX4_renew_7 (fun H lo I => ?_)
  generalize ev5 : up1 v4 k0 1 a1 = v5 at I
  replace hF := xl_i (ev5.symm) hF
  have rzv5 : ∀ k j : Nat, ¬ (k0 ≤ k ∧ k < k0 + 2) → v5.1 k j = v.1 k j := fun k j h => fz_u ev5 (by omega) (rzv4 k j h)
  refine lv_iconst (v := 0) hx hb dX4_renew_10 (by decide) ?_
  refine lv_istore_n (lv' := [(3, .int 0), (0, .ref (wq w k0)), (1, .int a0), (2, .int a1)]) hx hb dX4_renew_11 rfl hl (by decide) rfl (fun ls hl => ?_)
  exact L_12 ((2147483647 - (0 : Int32).toInt).toNat + 1) _ _ v5 I (0 : Int32) (by decide) rzv5 hF (Nat.lt_succ_self _) ls (lv_sub hl [1, 0] rfl)
def F_X4_tearAt (k0 : Nat) (a0 : Int32) (a1 : Int32) (v : St) : Int32 :=
xl (v.1 k0 0) fun x1 =>
if x1.toInt = (-1) then (
(1 : Int32)) else (
xl (v.1 k0 0) fun x3 =>
if x3.toInt = a0.toInt then (
if a1.toInt < 0 then (
(2 : Int32)) else (
xl (v.1 k0 1) fun x6 =>
if a1.toInt < x6.toInt then (
(0 : Int32)) else (
(2 : Int32)))) else (
(3 : Int32)))
set_option maxHeartbeats 4000000 in
set_option maxRecDepth 100000 in
theorem c_X4_tearAt (l : Launch) (w : Wp) (g : Nat → Nat → Int32) (v : St) (k0 : Nat) (a0 : Int32) (a1 : Int32) (hq : Inj w) (hw : WF (wk w) g v) (h_k0 : oS w k0) : CTi w l yX4_tearAt (wsy yX4_tearAt prog_6_method_3_code 3 (some .int)) (rmL 1) [.ref (wq w k0), .int a0, .int a1] v (fun (r : Int32) (u : St) => (u = v ∧ 0 ≤ r.toInt ∧ r.toInt ≤ 3 ∧ (r.toInt = 0 → 0 ≤ a1.toInt ∧ a1.toInt ≤ 39)) ∧ (r = F_X4_tearAt k0 a0 a1 v) ∧ True) := by
  generalize hpost : (fun (r : Int32) (u : St) => (u = v ∧ 0 ≤ r.toInt ∧ r.toInt ≤ 3 ∧ (r.toInt = 0 → 0 ≤ a1.toInt ∧ a1.toInt ≤ 39)) ∧ (r = F_X4_tearAt k0 a0 a1 v) ∧ True) = post
  refine CTi.of prog_6_method_3_code 3 (some .int) "StarWalk$Sheet" (by decide +kernel) rfl hq hw (Nat.le_of_ble_eq_true rfl) ?_
  intro pg en s m ar bl me cd ls E I hr hlk hl
  have hx := E.1.1
  have hb := E.1.2.1
  have hl : lv_has ls 3 [(0, .ref (wq w k0)), (1, .int a0), (2, .int a1)] := hl
  obtain ⟨res, hres⟩ : ∃ z, z = F_X4_tearAt k0 a0 a1 v := ⟨_, rfl⟩
  have hF := hres.symm
  unfold F_X4_tearAt at hF
  replace hres : res = F_X4_tearAt k0 a0 a1 v := hres
  refine lv_aload_n hx hb dX4_tearAt_0 rfl (lv_at hl 0 rfl) ?_
  refine g_Sheet_lane E I h_k0.1 mw_2_54 dX4_tearAt_1 ?_
  refine lv_topi (fun x1 ex1 => ?_)
  replace hF := xl_i (ex1) hF
  refine lv_iconst (v := (-1)) hx hb dX4_tearAt_4 (by decide) ?_
  refine bi_ne E (a := x1.toInt) (b := (-1)) rfl rfl (tgt := 10) dX4_tearAt_5 (by decide) (fun c2 => ?_) (fun c2 => ?_)
  ·
    replace hF := if_f c2 hF
    refine lv_aload_n hx hb dX4_tearAt_10 rfl (lv_at hl 0 rfl) ?_
    refine g_Sheet_lane E I h_k0.1 mw_2_54 dX4_tearAt_11 ?_
    refine lv_topi (fun x3 ex3 => ?_)
    replace hF := xl_i (ex3) hF
    refine lv_iload_n hx hb dX4_tearAt_14 rfl (lv_at hl 1 rfl) ?_
    refine bi_eq E (a := x3.toInt) (b := a0.toInt) rfl rfl (tgt := 20) dX4_tearAt_15 (by decide) (fun c4 => ?_) (fun c4 => ?_)
    ·
      replace hF := if_t c4 hF
      refine lv_iload_n hx hb dX4_tearAt_20 rfl (lv_at hl 2 rfl) ?_
      refine bz_lt E (a := a1.toInt) rfl (tgt := 38) dX4_tearAt_21 (by decide) (fun c5 => ?_) (fun c5 => ?_)
      ·
        replace hF := if_t c5 hF
        refine lv_iconst (v := 2) hx hb dX4_tearAt_38 (by decide) ?_
        refine lv_goto (tgt := 43) hx hb dX4_tearAt_39 (by decide) ?_
        exact rI E I hr hlk rfl (by rw [← hpost]; exact ⟨⟨rfl, by have eL : (2 : Int32).toInt = 2 := rfl; omega⟩, hF.trans hres, trivial⟩) dX4_tearAt_43
      ·
        replace hF := if_l c5 hF
        refine lv_iload_n hx hb dX4_tearAt_24 rfl (lv_at hl 2 rfl) ?_
        refine lv_aload_n hx hb dX4_tearAt_25 rfl (lv_at hl 0 rfl) ?_
        refine g_Sheet_size E I h_k0.1 mw_2_56 dX4_tearAt_26 ?_
        refine lv_topi (fun x6 ex6 => ?_)
        replace hF := xl_i (ex6) hF
        have hx6 := r_Sheet_size I h_k0.1
        rw [← ex6] at hx6
        refine bi_ge E (a := a1.toInt) (b := x6.toInt) rfl rfl (tgt := 38) dX4_tearAt_29 (by decide) (fun c7 => ?_) (fun c7 => ?_)
        ·
          have rga1 := i32_rng a1
          replace hF := if_l c7 hF
          refine lv_iconst (v := 2) hx hb dX4_tearAt_38 (by decide) ?_
          refine lv_goto (tgt := 43) hx hb dX4_tearAt_39 (by decide) ?_
          exact rI E I hr hlk rfl (by rw [← hpost]; exact ⟨⟨rfl, by have eL : (2 : Int32).toInt = 2 := rfl; omega⟩, hF.trans hres, trivial⟩) dX4_tearAt_43
        ·
          have rga1 := i32_rng a1
          replace hF := if_t c7 hF
          refine lv_iload_n hx hb dX4_tearAt_32 rfl (lv_at hl 2 rfl) ?_
          refine lv_bipush (v := 40) hx hb dX4_tearAt_33 (by decide) ?_
          refine bi_lt E (a := a1.toInt) (b := 40) rfl rfl (tgt := 42) dX4_tearAt_35 (by decide) (fun c8 => ?_) (fun c8 => ?_)
          ·
            refine lv_iconst (v := 0) hx hb dX4_tearAt_42 (by decide) ?_
            exact rI E I hr hlk rfl (by rw [← hpost]; exact ⟨⟨rfl, by have eL : (0 : Int32).toInt = 0 := rfl; omega⟩, hF.trans hres, trivial⟩) dX4_tearAt_43
          ·
            exfalso; omega
    ·
      replace hF := if_f c4 hF
      refine lv_iconst (v := 3) hx hb dX4_tearAt_18 (by decide) ?_
      exact rI E I hr hlk rfl (by rw [← hpost]; exact ⟨⟨rfl, by have eL : (3 : Int32).toInt = 3 := rfl; omega⟩, hF.trans hres, trivial⟩) dX4_tearAt_19
  ·
    replace hF := if_t c2 hF
    refine lv_iconst (v := 1) hx hb dX4_tearAt_8 (by decide) ?_
    exact rI E I hr hlk rfl (by rw [← hpost]; exact ⟨⟨rfl, by have eL : (1 : Int32).toInt = 1 := rfl; omega⟩, hF.trans hres, trivial⟩) dX4_tearAt_9
def F_X4_lowest (k0 : Nat) (a0 : Int32) (v : St) : Int32 :=
xl (v.1 k0 0) fun x1 =>
if x1.toInt = 0 then (
xl (a0.toInt8.toInt32) fun x3 =>
x3) else (
if x1.toInt = 1 then (
xl (a0.toInt16.toInt32) fun x5 =>
x5) else (
a0))
set_option maxHeartbeats 4000000 in
set_option maxRecDepth 100000 in
theorem c_X4_lowest (l : Launch) (w : Wp) (g : Nat → Nat → Int32) (v : St) (k0 : Nat) (a0 : Int32) (hq : Inj w) (hw : WF (wk w) g v) (h_k0 : oS w k0) : CTi w l yX4_lowest (wsy yX4_lowest prog_6_method_4_code 2 (some .int)) (rmL 1) [.ref (wq w k0), .int a0] v (fun (r : Int32) (u : St) => (u = v ∧ True) ∧ (r = F_X4_lowest k0 a0 v) ∧ True) := by
  generalize hpost : (fun (r : Int32) (u : St) => (u = v ∧ True) ∧ (r = F_X4_lowest k0 a0 v) ∧ True) = post
  refine CTi.of prog_6_method_4_code 2 (some .int) "StarWalk$Sheet" (by decide +kernel) rfl hq hw (Nat.le_of_ble_eq_true rfl) ?_
  intro pg en s m ar bl me cd ls E I hr hlk hl
  have hx := E.1.1
  have hb := E.1.2.1
  have hl : lv_has ls 2 [(0, .ref (wq w k0)), (1, .int a0)] := hl
  obtain ⟨res, hres⟩ : ∃ z, z = F_X4_lowest k0 a0 v := ⟨_, rfl⟩
  have hF := hres.symm
  unfold F_X4_lowest at hF
  replace hres : res = F_X4_lowest k0 a0 v := hres
  refine lv_aload_n hx hb dX4_lowest_0 rfl (lv_at hl 0 rfl) ?_
  refine g_Sheet_lane E I h_k0.1 mw_2_54 dX4_lowest_1 ?_
  refine lv_topi (fun x1 ex1 => ?_)
  replace hF := xl_i (ex1) hF
  by_cases c2 : x1.toInt = 0
  ·
    replace hF := if_t c2 hF
    refine lv_lookup hx hb dX4_lowest_4 (by decide) (by rw [c2] <;> rfl) (tgt := 32) (by decide) ?_
    refine lv_iload_n hx hb dX4_lowest_32 rfl (lv_at hl 1 rfl) ?_
    refine lv_i2b (v := _) hx hb dX4_lowest_33 rfl ?_
    refine lv_topi (fun x3 ex3 => ?_)
    replace hF := xl_i (ex3) hF
    exact rI E I hr hlk rfl (by rw [← hpost]; exact ⟨⟨rfl, trivial⟩, hF.trans hres, trivial⟩) dX4_lowest_34
  replace hF := if_f c2 hF
  by_cases c4 : x1.toInt = 1
  ·
    replace hF := if_t c4 hF
    refine lv_lookup hx hb dX4_lowest_4 (by decide) (by rw [c4] <;> rfl) (tgt := 35) (by decide) ?_
    refine lv_iload_n hx hb dX4_lowest_35 rfl (lv_at hl 1 rfl) ?_
    refine lv_i2s (v := _) hx hb dX4_lowest_36 rfl ?_
    refine lv_topi (fun x5 ex5 => ?_)
    replace hF := xl_i (ex5) hF
    exact rI E I hr hlk rfl (by rw [← hpost]; exact ⟨⟨rfl, trivial⟩, hF.trans hres, trivial⟩) dX4_lowest_37
  replace hF := if_f c4 hF
  refine lv_lookup hx hb dX4_lowest_4 (by decide) (by simp only [Op.lookupswitch.offset_cons, Op.lookupswitch.offset_nil]; rw [if_neg (by omega), if_neg (by omega)] <;> rfl) (tgt := 38) (by decide) ?_
  refine lv_iload_n hx hb dX4_lowest_38 rfl (lv_at hl 1 rfl) ?_
  exact rI E I hr hlk rfl (by rw [← hpost]; exact ⟨⟨rfl, trivial⟩, hF.trans hres, trivial⟩) dX4_lowest_39
def F_X6_begin (k0 : Nat) (k1 : Nat) (v : St) : St :=
xl (F_X0_become (k0 + 1) k1 v) fun u1 =>
u1
set_option maxHeartbeats 4000000 in
set_option maxRecDepth 100000 in
theorem c_X6_begin (l : Launch) (w : Wp) (g : Nat → Nat → Int32) (v : St) (k0 : Nat) (k1 : Nat) (hq : Inj w) (hw : WF (wk w) g v) (h_k0 : oR w k0) (h_k1 : oN w k1) : CTv w l yX6_begin (wsy yX6_begin prog_8_method_2_code 2 none) (rmL 3) [.ref (wq w k0), .ref (wq w k1)] v (fun (u : St) => (WF (wk w) g u ∧ True) ∧ (u = F_X6_begin k0 k1 v) ∧ (∀ k j : Nat, ¬ (k0 ≤ k ∧ k < k0 + 11) → u.1 k j = v.1 k j)) := by
  generalize hpost : (fun (u : St) => (WF (wk w) g u ∧ True) ∧ (u = F_X6_begin k0 k1 v) ∧ (∀ k j : Nat, ¬ (k0 ≤ k ∧ k < k0 + 11) → u.1 k j = v.1 k j)) = post
  refine CTv.of prog_8_method_2_code 2 none "StarWalk$Trial" (by decide +kernel) rfl hq hw (Nat.le_of_ble_eq_true rfl) ?_
  intro pg en s m ar bl me cd ls E I hr hlk hl
  have hx := E.1.1
  have hb := E.1.2.1
  have hl : lv_has ls 2 [(0, .ref (wq w k0)), (1, .ref (wq w k1))] := hl
  obtain ⟨res, hres⟩ : ∃ z, z = F_X6_begin k0 k1 v := ⟨_, rfl⟩
  have hF := hres.symm
  unfold F_X6_begin at hF
  replace hres : res = F_X6_begin k0 k1 v := hres
  have rz0 : ∀ k j : Nat, ¬ (k0 ≤ k ∧ k < k0 + 11) → v.1 k j = v.1 k j := fun _ _ _ => rfl
  refine lv_aload_n hx hb dX6_begin_0 rfl (lv_at hl 0 rfl) ?_
  refine g_Trial_night E I h_k0.1 mw_1_214 dX6_begin_1 ?_
  refine lv_aload_n hx hb dX6_begin_4 rfl (lv_at hl 1 rfl) ?_
  refine cVv E I (c_X0_become l w g v (k0 + 1) k1 E.2.2.1 I.2.2 h_k0.2.1 h_k1  ) (cwV 1 E.1.2.2.2.2 (gWs (C := "StarWalk$Night") mw_3_205 mw_3_57 mw_3_58 mw_1_3 mw_3_59) rfl rfl rfl (by decide +kernel) ⟨by decide, by decide⟩) h_k0.2.1.1.1 ((ce_o h_k0.2.1.1.2).trans rfl) rfl rfl hl.1 rfl (Nat.le_of_ble_eq_true rfl) dX6_begin_5 ⟨Nat.le_refl _, Nat.le_refl _⟩ (fun u1 H lo hp hPS => ?_)
  obtain ⟨hp, hex, hfr⟩ := hp
  replace hF := xl_i hex hF
  obtain ⟨hwf, p2⟩ := hp
  have I : Wo w g s.heap u1 H lo := ⟨hPS.1, hPS.2, hwf⟩
  have rzu1 : ∀ k j : Nat, ¬ (k0 ≤ k ∧ k < k0 + 11) → u1.1 k j = v.1 k j := fun k j h => (hfr k j (fun z => h (by omega))).trans (rz0 k j h)
  exact rV E I hr hlk (by rw [← hpost]; exact ⟨⟨I.2.2, trivial⟩, hF.trans hres, rzu1⟩) dX6_begin_8
def F_X6_walkPlan (k0 : Nat) (v : St) : St :=
xl (fun (self_31 : Int32 → St → St) (y31_2 : Int32) (v_31 : St) =>
xl (fun (v_123 : St) =>
xl (y31_2 + (1 : Int32)) fun x1 =>
xl (v_123.1 (k0 + 1 + 5) 2) fun x2 =>
xl (up1 v_123 (k0 + 10) x1.toNatClampNeg x2) fun v3 =>
xl (y31_2 + 1) fun x4 =>
(self_31 x4 v3)) fun J_123 =>
xl (fun (z102_1 : Int32) (v_102 : St) =>
xl (up1 v_102 k0 3 z102_1) fun v5 =>
(J_123 v5)) fun J_102 =>
if y31_2.toInt < 8 then (
xl (F_X0_hasPlanned (k0 + 1) y31_2 v_31) fun r7 =>
if r7.toInt = 0 then (
v_31) else (
xl (v_31.1 (k0 + 1 + 6) y31_2.toNatClampNeg) fun x11 =>
xl (v_31.1 (k0 + 1 + 5) 0) fun x12 =>
xl (F_X0_isBlind (k0 + 1) x11 x12 v_31) fun r13 =>
xm (F_X0_step (k0 + 1) (k0 + 1 + 5) x11 v_31) fun r16 u17 =>
if r16.toInt = 0 then (
xl (u17.1 k0 3) fun x24 =>
if x24.toInt = (-4) then (
(J_102 y31_2 u17)) else (
xl (u17.1 k0 3) fun x26 =>
(J_102 x26 u17))) else (
if r13.toInt = 0 then (
(J_123 u17)) else (
xl (u17.1 k0 2) fun x21 =>
xl (x21 + (1 : Int32)) fun x22 =>
xl (up1 u17 k0 2 x22) fun v23 =>
(J_123 v23))))) else (
v_31)) fun P_31 =>
xl (up1 v k0 2 (0 : Int32)) fun v27 =>
xl (up1 v27 k0 3 (-4 : Int32)) fun v28 =>
xl (v28.1 (k0 + 1 + 5) 2) fun x29 =>
xl (up1 v28 (k0 + 10) (0 : Int32).toNatClampNeg x29) fun v30 =>
(lp P_31 (fun _ _ => v) ((2147483647 - (0 : Int32).toInt).toNat + 1) (0 : Int32) v30)
set_option maxHeartbeats 4000000 in
set_option maxRecDepth 100000 in
theorem c_X6_walkPlan (l : Launch) (w : Wp) (g : Nat → Nat → Int32) (v : St) (k0 : Nat) (hq : Inj w) (hw : WF (wk w) g v) (h_k0 : oR w k0) : CTv w l yX6_walkPlan (wsy yX6_walkPlan prog_8_method_3_code 5 none) (rmL 5) [.ref (wq w k0)] v (fun (u : St) => (WF (wk w) g u ∧ True) ∧ (u = F_X6_walkPlan k0 v) ∧ (∀ k j : Nat, ¬ (k0 ≤ k ∧ k < k0 + 11) → u.1 k j = v.1 k j)) := by
  generalize hpost : (fun (u : St) => (WF (wk w) g u ∧ True) ∧ (u = F_X6_walkPlan k0 v) ∧ (∀ k j : Nat, ¬ (k0 ≤ k ∧ k < k0 + 11) → u.1 k j = v.1 k j)) = post
  refine CTv.of prog_8_method_3_code 5 none "StarWalk$Trial" (by decide +kernel) rfl hq hw (Nat.le_of_ble_eq_true rfl) ?_
  intro pg en s m ar bl me cd ls E I hr hlk hl
  have hx := E.1.1
  have hb := E.1.2.1
  have hl : lv_has ls 5 [(0, .ref (wq w k0))] := hl
  obtain ⟨res, hres⟩ : ∃ z, z = F_X6_walkPlan k0 v := ⟨_, rfl⟩
  have hF := hres.symm
  unfold F_X6_walkPlan at hF
  replace hres : res = F_X6_walkPlan k0 v := hres
  have rz0 : ∀ k j : Nat, ¬ (k0 ≤ k ∧ k < k0 + 11) → v.1 k j = v.1 k j := fun _ _ _ => rfl
  obtain ⟨P_31, eP_31, hF⟩ := xl_e hF
  have L_31 : ∀ (n : Nat), ∀ (H : Heap) (lo : List Loc) (v_31 : St), Wo w g s.heap v_31 H lo → ∀ (y31_2 : Int32), (0 ≤ y31_2.toInt ∧ y31_2.toInt ≤ 8) → (∀ k j : Nat, ¬ (k0 ≤ k ∧ k < k0 + 11) → v_31.1 k j = v.1 k j) → (lp P_31 (fun _ _ => v) n y31_2 v_31 = res) → (2147483647 - y31_2.toInt).toNat < n → ∀ (ls : Array Slot), lv_has ls 5 [(0, .ref (wq w k0)), (1, .ref (wq w (k0 + 1 + 5))), (2, .int y31_2)] → W pg l en (rmL 5) s m ar bl me cd H lo 0 0 (Zv w bl ar s post) (F0 m 31 ls []) := by
    intro n
    induction n with
    | zero => intro H lo v_31 I y31_2 hy31_2 rB31_Z hF hm; exact absurd hm (Nat.not_lt_zero _)
    | succ n ih_31 =>
      intro H lo v_31 I y31_2 hy31_2 rB31_Z hF hm ls hl
      replace hF := lpa2 eP_31 hF
      obtain ⟨J_123, eJ_123, hF⟩ := xl_e hF
      have B_123 : ∀ (H : Heap) (lo : List Loc) (v_123 : St), Wo w g s.heap v_123 H lo → (0 ≤ y31_2.toInt ∧ y31_2.toInt ≤ 7) → (∀ k j : Nat, ¬ (k0 ≤ k ∧ k < k0 + 11) → v_123.1 k j = v.1 k j) → (J_123 v_123 = res) → ∀ (ls : Array Slot), lv_has ls 5 [(0, .ref (wq w k0)), (1, .ref (wq w (k0 + 1 + 5))), (2, .int y31_2)] → W pg l en (rmL 5) s m ar bl me cd H lo 0 0 (Zv w bl ar s post) (F0 m 123 ls []) := by
        intro H lo v_123 I  hE123_0 rB123_Z hF ls hl
        replace hF := ap1 eJ_123 hF
        refine lv_aload_n hx hb dX6_walkPlan_123 rfl (lv_at hl 0 rfl) ?_
        refine g_Trial_sides E I h_k0.1 mw_1_216 dX6_walkPlan_124 ?_
        refine lv_iload_n hx hb dX6_walkPlan_127 rfl (lv_at hl 2 rfl) ?_
        refine lv_iconst (v := 1) hx hb dX6_walkPlan_128 (by decide) ?_
        refine lv_iadd hx hb dX6_walkPlan_129 ?_
        refine lv_topi (fun x1 ex1 => ?_)
        replace hF := xl_i (ex1) hF
        have hx1 : x1.toInt = y31_2.toInt + 1 := by rw [ex1]; exact adI (a := y31_2.toInt) (b := 1) rfl rfl (by omega) (by omega)
        refine lv_aload_n hx hb dX6_walkPlan_130 rfl (lv_at hl 1 rfl) ?_
        refine g_Place_side E I h_k0.2.1.2.2.2.2.2.1 mw_1_55 dX6_walkPlan_131 ?_
        refine lv_topi (fun x2 ex2 => ?_)
        replace hF := xl_i (ex2) hF
        refine pa_15 E I h_k0.2.2 (by omega) dX6_walkPlan_134 (fun H lo I => ?_)
        generalize ev3 : up1 v_123 (k0 + 10) x1.toNatClampNeg x2 = v3 at I
        replace hF := xl_i (ev3.symm) hF
        have rzv3 : ∀ k j : Nat, ¬ (k0 ≤ k ∧ k < k0 + 11) → v3.1 k j = v.1 k j := fun k j h => fz_u ev3 (by have czx1 := cnI (x := x1) (by omega); omega) (rB123_Z k j h)
        obtain ⟨x4, ex4⟩ : ∃ z : Int32, z = y31_2 + 1 := ⟨_, rfl⟩
        replace hF := xl_i (ex4) hF
        have hx4 : x4.toInt = y31_2.toInt + (1) := by rw [ex4]; exact adI (a := y31_2.toInt) (b := 1) rfl rfl (by omega) (by omega)
        refine lv_iinc (v := x4) (lv' := [(2, .int x4), (0, .ref (wq w k0)), (1, .ref (wq w (k0 + 1 + 5)))]) hx hb dX6_walkPlan_135 hl (k := 2) rfl (by rw [ex4]; rfl) (by decide) rfl (fun ls hl => ?_)
        refine lv_goto (tgt := 31) hx hb dX6_walkPlan_138 (by decide) ?_
        exact ih_31 _ _ v3 I x4 (by omega) rzv3 hF (by omega) ls (lv_sub hl [1, 2, 0] rfl)
      obtain ⟨J_102, eJ_102, hF⟩ := xl_e hF
      have B_102 : ∀ (H : Heap) (lo : List Loc) (v_102 : St), Wo w g s.heap v_102 H lo → ∀ (z102_1 : Int32), (0 ≤ y31_2.toInt ∧ y31_2.toInt ≤ 7) → (∀ k j : Nat, ¬ (k0 ≤ k ∧ k < k0 + 11) → v_102.1 k j = v.1 k j) → (J_102 z102_1 v_102 = res) → ∀ (ls : Array Slot), lv_has ls 5 [(0, .ref (wq w k0)), (1, .ref (wq w (k0 + 1 + 5))), (2, .int y31_2)] → W pg l en (rmL 5) s m ar bl me cd H lo 0 0 (Zv w bl ar s post) (F0 m 102 ls [.int z102_1, .ref (wq w k0)]) := by
        intro H lo v_102 I z102_1 hE102_0 rB102_Z hF ls hl
        replace hF := ap2 eJ_102 hF
        refine p_Trial_firstRefused E I h_k0.1 mw_1_219 dX6_walkPlan_102 (fun H lo I => ?_)
        generalize ev5 : up1 v_102 k0 3 z102_1 = v5 at I
        replace hF := xl_i (ev5.symm) hF
        have rzv5 : ∀ k j : Nat, ¬ (k0 ≤ k ∧ k < k0 + 11) → v5.1 k j = v.1 k j := fun k j h => fz_u ev5 (by omega) (rB102_Z k j h)
        refine lv_goto (tgt := 123) hx hb dX6_walkPlan_105 (by decide) ?_
        exact B_123 _ _ v5 I  (by omega) rzv5 hF ls (lv_sub hl [0, 1, 2] rfl)
      refine lv_iload_n hx hb dX6_walkPlan_31 rfl (lv_at hl 2 rfl) ?_
      refine lv_bipush (v := 8) hx hb dX6_walkPlan_32 (by decide) ?_
      refine bi_ge E (a := y31_2.toInt) (b := 8) rfl rfl (tgt := 141) dX6_walkPlan_34 (by decide) (fun c6 => ?_) (fun c6 => ?_)
      ·
        replace hF := if_l c6 hF
        exact rV E I hr hlk (by rw [← hpost]; exact ⟨⟨I.2.2, trivial⟩, hF.trans hres, rB31_Z⟩) dX6_walkPlan_141
      ·
        replace hF := if_t c6 hF
        refine lv_aload_n hx hb dX6_walkPlan_37 rfl (lv_at hl 0 rfl) ?_
        refine g_Trial_night E I h_k0.1 mw_1_214 dX6_walkPlan_38 ?_
        refine lv_iload_n hx hb dX6_walkPlan_41 rfl (lv_at hl 2 rfl) ?_
        refine cVi E I (c_X0_hasPlanned l w g v_31 (k0 + 1) y31_2 E.2.2.1 I.2.2 h_k0.2.1  ) (cwV 1 E.1.2.2.2.2 (gWs (C := "StarWalk$Night") mw_3_210 mw_3_45 mw_3_46 mw_1_3 mw_3_47) rfl rfl rfl (by decide +kernel) ⟨by decide, by decide⟩) h_k0.2.1.1.1 ((ce_o h_k0.2.1.1.2).trans rfl) rfl rfl hl.1 rfl (Nat.le_of_ble_eq_true rfl) dX6_walkPlan_42 ⟨Nat.le_refl _, Nat.le_refl _⟩ (fun r7 u8 H lo hp hPS => ?_)
        obtain ⟨hp, hex, hfr⟩ := hp
        replace hF := xl_i hex hF
        obtain ⟨hu, p9⟩ := hp
        rw [hu] at hPS
        have I : Wo w g s.heap v_31 H lo := ⟨hPS.1, hPS.2, I.2.2⟩
        refine bz_eq E (a := r7.toInt) rfl (tgt := 141) dX6_walkPlan_45 (by decide) (fun c10 => ?_) (fun c10 => ?_)
        ·
          replace hF := if_t c10 hF
          exact rV E I hr hlk (by rw [← hpost]; exact ⟨⟨I.2.2, trivial⟩, hF.trans hres, rB31_Z⟩) dX6_walkPlan_141
        ·
          replace hF := if_f c10 hF
          refine lv_aload_n hx hb dX6_walkPlan_48 rfl (lv_at hl 0 rfl) ?_
          refine g_Trial_night E I h_k0.1 mw_1_214 dX6_walkPlan_49 ?_
          refine g_Night_plannedAims E I h_k0.2.1.1 mw_1_116 dX6_walkPlan_52 ?_
          refine lv_iload_n hx hb dX6_walkPlan_55 rfl (lv_at hl 2 rfl) ?_
          refine ga_12 E I h_k0.2.1.2.2.2.2.2.2.1 (by omega) dX6_walkPlan_56 ?_
          refine lv_topi (fun x11 ex11 => ?_)
          replace hF := xl_i (ex11) hF
          refine lv_istore_n (lv' := [(3, .int x11), (0, .ref (wq w k0)), (1, .ref (wq w (k0 + 1 + 5))), (2, .int y31_2)]) hx hb dX6_walkPlan_57 rfl hl (by decide) rfl (fun ls hl => ?_)
          refine lv_aload_n hx hb dX6_walkPlan_58 rfl (lv_at hl 1 rfl) ?_
          refine g_Trial_night E I h_k0.1 mw_1_214 dX6_walkPlan_59 ?_
          refine lv_iload_n hx hb dX6_walkPlan_62 rfl (lv_at hl 0 rfl) ?_
          refine lv_aload_n hx hb dX6_walkPlan_63 rfl (lv_at hl 2 rfl) ?_
          refine g_Place_hour E I h_k0.2.1.2.2.2.2.2.1 mw_1_45 dX6_walkPlan_64 ?_
          refine lv_topi (fun x12 ex12 => ?_)
          replace hF := xl_i (ex12) hF
          refine cVi E I (c_X0_isBlind l w g v_31 (k0 + 1) x11 x12 E.2.2.1 I.2.2 h_k0.2.1  ) (cwV 2 E.1.2.2.2.2 (gWs (C := "StarWalk$Night") mw_3_211 mw_3_192 mw_3_193 mw_1_3 mw_3_194) rfl rfl rfl (by decide +kernel) ⟨by decide, by decide⟩) h_k0.2.1.1.1 ((ce_o h_k0.2.1.1.2).trans rfl) rfl rfl hl.1 rfl (Nat.le_of_ble_eq_true rfl) dX6_walkPlan_67 ⟨Nat.le_refl _, Nat.le_refl _⟩ (fun r13 u14 H lo hp hPS => ?_)
          obtain ⟨hp, hex, hfr⟩ := hp
          replace hF := xl_i hex hF
          obtain ⟨hu, p15⟩ := hp
          rw [hu] at hPS
          have I : Wo w g s.heap v_31 H lo := ⟨hPS.1, hPS.2, I.2.2⟩
          refine lv_istore (lv' := [(4, .int r13), (3, .int x11), (0, .ref (wq w k0)), (1, .ref (wq w (k0 + 1 + 5))), (2, .int y31_2)]) hx hb dX6_walkPlan_70 hl (by decide) rfl (fun ls hl => ?_)
          refine lv_aload_n hx hb dX6_walkPlan_72 rfl (lv_at hl 2 rfl) ?_
          refine g_Trial_night E I h_k0.1 mw_1_214 dX6_walkPlan_73 ?_
          refine lv_aload_n hx hb dX6_walkPlan_76 rfl (lv_at hl 3 rfl) ?_
          refine lv_iload_n hx hb dX6_walkPlan_77 rfl (lv_at hl 1 rfl) ?_
          refine cVi E I (c_X0_step l w g v_31 (k0 + 1) (k0 + 1 + 5) x11 E.2.2.1 I.2.2 h_k0.2.1 h_k0.2.1.2.2.2.2.2.1  ) (cwV 2 E.1.2.2.2.2 (gWs (C := "StarWalk$Night") mw_3_212 mw_3_177 mw_3_178 mw_1_3 mw_3_179) rfl rfl rfl (by decide +kernel) ⟨by decide, by decide⟩) h_k0.2.1.1.1 ((ce_o h_k0.2.1.1.2).trans rfl) rfl rfl hl.1 rfl (Nat.le_of_ble_eq_true rfl) dX6_walkPlan_78 ⟨Nat.le_refl _, Nat.le_refl _⟩ (fun r16 u17 H lo hp hPS => ?_)
          obtain ⟨hp, hex, hfr⟩ := hp
          replace hF := xm_i hex hF
          obtain ⟨hwf, p18⟩ := hp
          have I : Wo w g s.heap u17 H lo := ⟨hPS.1, hPS.2, hwf⟩
          have rzu17 : ∀ k j : Nat, ¬ (k0 ≤ k ∧ k < k0 + 11) → u17.1 k j = v.1 k j := fun k j h => (hfr k j (fun z => h (by omega))).trans (rB31_Z k j h)
          refine bz_ne E (a := r16.toInt) rfl (tgt := 108) dX6_walkPlan_81 (by decide) (fun c19 => ?_) (fun c19 => ?_)
          ·
            replace hF := if_f c19 hF
            refine lv_iload hx hb dX6_walkPlan_108 (lv_at hl 0 rfl) ?_
            refine bz_eq E (a := r13.toInt) rfl (tgt := 123) dX6_walkPlan_110 (by decide) (fun c20 => ?_) (fun c20 => ?_)
            ·
              replace hF := if_t c20 hF
              exact B_123 _ _ u17 I  (by omega) rzu17 hF ls (lv_sub hl [2, 3, 4] rfl)
            ·
              replace hF := if_f c20 hF
              refine lv_aload_n hx hb dX6_walkPlan_113 rfl (lv_at hl 2 rfl) ?_
              refine lv_dup hx hb dX6_walkPlan_114 rfl ?_
              refine g_Trial_blindSteps E I h_k0.1 mw_1_217 dX6_walkPlan_115 ?_
              refine lv_topi (fun x21 ex21 => ?_)
              replace hF := xl_i (ex21) hF
              refine lv_iconst (v := 1) hx hb dX6_walkPlan_118 (by decide) ?_
              refine lv_iadd hx hb dX6_walkPlan_119 ?_
              refine lv_topi (fun x22 ex22 => ?_)
              replace hF := xl_i (ex22) hF
              refine p_Trial_blindSteps E I h_k0.1 mw_1_217 dX6_walkPlan_120 (fun H lo I => ?_)
              generalize ev23 : up1 u17 k0 2 x22 = v23 at I
              replace hF := xl_i (ev23.symm) hF
              have rzv23 : ∀ k j : Nat, ¬ (k0 ≤ k ∧ k < k0 + 11) → v23.1 k j = v.1 k j := fun k j h => fz_u ev23 (by omega) (rzu17 k j h)
              exact B_123 _ _ v23 I  (by omega) rzv23 hF ls (lv_sub hl [2, 3, 4] rfl)
          ·
            replace hF := if_t c19 hF
            refine lv_aload_n hx hb dX6_walkPlan_84 rfl (lv_at hl 2 rfl) ?_
            refine lv_aload_n hx hb dX6_walkPlan_85 rfl (lv_at hl 2 rfl) ?_
            refine g_Trial_firstRefused E I h_k0.1 mw_1_219 dX6_walkPlan_86 ?_
            refine lv_topi (fun x24 ex24 => ?_)
            replace hF := xl_i (ex24) hF
            refine lv_bipush (v := (-4)) hx hb dX6_walkPlan_89 (by decide) ?_
            refine bi_ne E (a := x24.toInt) (b := (-4)) rfl rfl (tgt := 98) dX6_walkPlan_91 (by decide) (fun c25 => ?_) (fun c25 => ?_)
            ·
              replace hF := if_f c25 hF
              refine lv_aload_n hx hb dX6_walkPlan_98 rfl (lv_at hl 2 rfl) ?_
              refine g_Trial_firstRefused E I h_k0.1 mw_1_219 dX6_walkPlan_99 ?_
              refine lv_topi (fun x26 ex26 => ?_)
              replace hF := xl_i (ex26) hF
              exact B_102 _ _ u17 I x26 (by omega) rzu17 hF ls (lv_sub hl [2, 3, 4] rfl)
            ·
              replace hF := if_t c25 hF
              refine lv_iload_n hx hb dX6_walkPlan_94 rfl (lv_at hl 4 rfl) ?_
              refine lv_goto (tgt := 102) hx hb dX6_walkPlan_95 (by decide) ?_
              exact B_102 _ _ u17 I y31_2 (by omega) rzu17 hF ls (lv_sub hl [2, 3, 4] rfl)
  refine lv_aload_n hx hb dX6_walkPlan_0 rfl (lv_at hl 0 rfl) ?_
  refine g_Trial_night E I h_k0.1 mw_1_214 dX6_walkPlan_1 ?_
  refine g_Night_place E I h_k0.2.1.1 mw_1_112 dX6_walkPlan_4 ?_
  refine lv_astore_n (lv' := [(1, .ref (wq w (k0 + 1 + 5))), (0, .ref (wq w k0))]) hx hb dX6_walkPlan_7 rfl hl (by decide) rfl (fun ls hl => ?_)
  refine lv_aload_n hx hb dX6_walkPlan_8 rfl (lv_at hl 1 rfl) ?_
  refine lv_iconst (v := 0) hx hb dX6_walkPlan_9 (by decide) ?_
  refine p_Trial_blindSteps E I h_k0.1 mw_1_217 dX6_walkPlan_10 (fun H lo I => ?_)
  generalize ev27 : up1 v k0 2 (0 : Int32) = v27 at I
  replace hF := xl_i (ev27.symm) hF
  have rzv27 : ∀ k j : Nat, ¬ (k0 ≤ k ∧ k < k0 + 11) → v27.1 k j = v.1 k j := fun k j h => fz_u ev27 (by omega) (rz0 k j h)
  refine lv_aload_n hx hb dX6_walkPlan_13 rfl (lv_at hl 1 rfl) ?_
  refine lv_bipush (v := (-4)) hx hb dX6_walkPlan_14 (by decide) ?_
  refine p_Trial_firstRefused E I h_k0.1 mw_1_219 dX6_walkPlan_16 (fun H lo I => ?_)
  generalize ev28 : up1 v27 k0 3 (-4 : Int32) = v28 at I
  replace hF := xl_i (ev28.symm) hF
  have rzv28 : ∀ k j : Nat, ¬ (k0 ≤ k ∧ k < k0 + 11) → v28.1 k j = v.1 k j := fun k j h => fz_u ev28 (by omega) (rzv27 k j h)
  refine lv_aload_n hx hb dX6_walkPlan_19 rfl (lv_at hl 1 rfl) ?_
  refine g_Trial_sides E I h_k0.1 mw_1_216 dX6_walkPlan_20 ?_
  refine lv_iconst (v := 0) hx hb dX6_walkPlan_23 (by decide) ?_
  refine lv_aload_n hx hb dX6_walkPlan_24 rfl (lv_at hl 0 rfl) ?_
  refine g_Place_side E I h_k0.2.1.2.2.2.2.2.1 mw_1_55 dX6_walkPlan_25 ?_
  refine lv_topi (fun x29 ex29 => ?_)
  replace hF := xl_i (ex29) hF
  refine pa_15 E I h_k0.2.2 (by decide) dX6_walkPlan_28 (fun H lo I => ?_)
  generalize ev30 : up1 v28 (k0 + 10) (0 : Int32).toNatClampNeg x29 = v30 at I
  replace hF := xl_i (ev30.symm) hF
  have rzv30 : ∀ k j : Nat, ¬ (k0 ≤ k ∧ k < k0 + 11) → v30.1 k j = v.1 k j := fun k j h => fz_u ev30 (by have cl0 : (0 : Int32).toNatClampNeg = 0 := rfl; omega) (rzv28 k j h)
  refine lv_iconst (v := 0) hx hb dX6_walkPlan_29 (by decide) ?_
  refine lv_istore_n (lv' := [(2, .int 0), (1, .ref (wq w (k0 + 1 + 5))), (0, .ref (wq w k0))]) hx hb dX6_walkPlan_30 rfl hl (by decide) rfl (fun ls hl => ?_)
  exact L_31 ((2147483647 - (0 : Int32).toInt).toNat + 1) _ _ v30 I (0 : Int32) (by decide) rzv30 hF (Nat.lt_succ_self _) ls (lv_sub hl [2, 1, 0] rfl)
def F_X6_isAllAsSeen (k0 : Nat) (v : St) : Int32 × St :=
xl (fun (self_6 : Int32 → St → Int32 × St) (y6_1 : Int32) (v_6 : St) =>
xl (v_6.1 (k0 + 1) 17) fun x1 =>
if y6_1.toInt < x1.toInt then (
xl (v_6.1 (k0 + 1 + 7) y6_1.toNatClampNeg) fun x4 =>
xl (v_6.1 (k0 + 1) 14) fun x5 =>
xl (if x5 < x4 then x5 else x4) fun x6 =>
xl (v_6.1 (k0 + 10) x6.toNatClampNeg) fun x7 =>
xl (v_6.1 (k0 + 1 + 8) y6_1.toNatClampNeg) fun x8 =>
if x7.toInt = x8.toInt then (
xl (y6_1 + 1) fun x10 =>
(self_6 x10 v_6)) else (
((0 : Int32), v_6))) else (
((1 : Int32), v_6))) fun P_6 =>
xl (F_X6_walkPlan k0 v) fun u11 =>
(lp P_6 (fun _ _ => ((0 : Int32), v)) ((2147483647 - (0 : Int32).toInt).toNat + 1) (0 : Int32) u11)
set_option maxHeartbeats 4000000 in
set_option maxRecDepth 100000 in
theorem c_X6_isAllAsSeen (l : Launch) (w : Wp) (g : Nat → Nat → Int32) (v : St) (k0 : Nat) (hq : Inj w) (hw : WF (wk w) g v) (h_k0 : oR w k0) : CTi w l yX6_isAllAsSeen (wsy yX6_isAllAsSeen prog_8_method_4_code 3 (some .boolean)) (rmL 6) [.ref (wq w k0)] v (fun (r : Int32) (u : St) => (WF (wk w) g u ∧ 0 ≤ r.toInt ∧ r.toInt ≤ 1) ∧ ((r, u) = F_X6_isAllAsSeen k0 v) ∧ (∀ k j : Nat, ¬ (k0 ≤ k ∧ k < k0 + 11) → u.1 k j = v.1 k j)) := by
  generalize hpost : (fun (r : Int32) (u : St) => (WF (wk w) g u ∧ 0 ≤ r.toInt ∧ r.toInt ≤ 1) ∧ ((r, u) = F_X6_isAllAsSeen k0 v) ∧ (∀ k j : Nat, ¬ (k0 ≤ k ∧ k < k0 + 11) → u.1 k j = v.1 k j)) = post
  refine CTi.of prog_8_method_4_code 3 (some .boolean) "StarWalk$Trial" (by decide +kernel) rfl hq hw (Nat.le_of_ble_eq_true rfl) ?_
  intro pg en s m ar bl me cd ls E I hr hlk hl
  have hx := E.1.1
  have hb := E.1.2.1
  have hl : lv_has ls 3 [(0, .ref (wq w k0))] := hl
  obtain ⟨res, hres⟩ : ∃ z, z = F_X6_isAllAsSeen k0 v := ⟨_, rfl⟩
  have hF := hres.symm
  unfold F_X6_isAllAsSeen at hF
  replace hres : res = F_X6_isAllAsSeen k0 v := hres
  have rz0 : ∀ k j : Nat, ¬ (k0 ≤ k ∧ k < k0 + 11) → v.1 k j = v.1 k j := fun _ _ _ => rfl
  obtain ⟨P_6, eP_6, hF⟩ := xl_e hF
  have L_6 : ∀ (n : Nat), ∀ (H : Heap) (lo : List Loc) (v_6 : St), Wo w g s.heap v_6 H lo → ∀ (y6_1 : Int32), (0 ≤ y6_1.toInt ∧ y6_1.toInt ≤ 6) → (∀ k j : Nat, ¬ (k0 ≤ k ∧ k < k0 + 11) → v_6.1 k j = v.1 k j) → (lp P_6 (fun _ _ => ((0 : Int32), v)) n y6_1 v_6 = res) → (2147483647 - y6_1.toInt).toNat < n → ∀ (ls : Array Slot), lv_has ls 3 [(0, .ref (wq w k0)), (1, .int y6_1)] → W pg l en (rmL 6) s m ar bl me cd H lo 0 0 (Zi w bl ar s post) (F0 m 6 ls []) := by
    intro n
    induction n with
    | zero => intro H lo v_6 I y6_1 hy6_1 rB6_Z hF hm; exact absurd hm (Nat.not_lt_zero _)
    | succ n ih_6 =>
      intro H lo v_6 I y6_1 hy6_1 rB6_Z hF hm ls hl
      replace hF := lpa2 eP_6 hF
      refine lv_iload_n hx hb dX6_isAllAsSeen_6 rfl (lv_at hl 1 rfl) ?_
      refine lv_aload_n hx hb dX6_isAllAsSeen_7 rfl (lv_at hl 0 rfl) ?_
      refine g_Trial_night E I h_k0.1 mw_1_214 dX6_isAllAsSeen_8 ?_
      refine g_Night_seen E I h_k0.2.1.1 mw_1_130 dX6_isAllAsSeen_11 ?_
      refine lv_topi (fun x1 ex1 => ?_)
      replace hF := xl_i (ex1) hF
      have hx1 := r_Night_seen I h_k0.2.1.1
      rw [← ex1] at hx1
      refine bi_ge E (a := y6_1.toInt) (b := x1.toInt) rfl rfl (tgt := 69) dX6_isAllAsSeen_14 (by decide) (fun c2 => ?_) (fun c2 => ?_)
      ·
        replace hF := if_l c2 hF
        refine lv_iconst (v := 1) hx hb dX6_isAllAsSeen_69 (by decide) ?_
        exact rI E I hr hlk rfl (by rw [← hpost]; exact ⟨⟨I.2.2, by have eL : (1 : Int32).toInt = 1 := rfl; omega⟩, hF.trans hres, rB6_Z⟩) dX6_isAllAsSeen_70
      ·
        replace hF := if_t c2 hF
        refine lv_iload_n hx hb dX6_isAllAsSeen_17 rfl (lv_at hl 1 rfl) ?_
        refine lv_bipush (v := 6) hx hb dX6_isAllAsSeen_18 (by decide) ?_
        refine bi_ge E (a := y6_1.toInt) (b := 6) rfl rfl (tgt := 69) dX6_isAllAsSeen_20 (by decide) (fun c3 => ?_) (fun c3 => ?_)
        ·
          exfalso; omega
        ·
          refine lv_aload_n hx hb dX6_isAllAsSeen_23 rfl (lv_at hl 0 rfl) ?_
          refine g_Trial_night E I h_k0.1 mw_1_214 dX6_isAllAsSeen_24 ?_
          refine g_Night_seenBehind E I h_k0.2.1.1 mw_1_124 dX6_isAllAsSeen_27 ?_
          refine lv_iload_n hx hb dX6_isAllAsSeen_30 rfl (lv_at hl 1 rfl) ?_
          refine ga_13 E I h_k0.2.1.2.2.2.2.2.2.2.1 (by omega) dX6_isAllAsSeen_31 ?_
          refine lv_topi (fun x4 ex4 => ?_)
          replace hF := xl_i (ex4) hF
          have hx4 := ra_13 I h_k0.2.1.2.2.2.2.2.2.2.1 y6_1.toNatClampNeg
          rw [← ex4] at hx4
          have hx4 : 0 ≤ x4.toInt ∧ x4.toInt ≤ 8 := by
            have ci := cnI (x := y6_1) (by omega)
            simp only [okk] at hx4
            omega
          refine lv_aload_n hx hb dX6_isAllAsSeen_32 rfl (lv_at hl 0 rfl) ?_
          refine g_Trial_night E I h_k0.1 mw_1_214 dX6_isAllAsSeen_33 ?_
          refine g_Night_planned E I h_k0.2.1.1 mw_1_121 dX6_isAllAsSeen_36 ?_
          refine lv_topi (fun x5 ex5 => ?_)
          replace hF := xl_i (ex5) hF
          have hx5 := r_Night_planned I h_k0.2.1.1
          rw [← ex5] at hx5
          refine va_mmin hx hb (E.1.2.2.1.trans hl.1.symm) E.1.2.2.2.1 (Ew E mw_4_90 rfl) (Ew E mw_4_91 rfl) (Ew E mw_1_15 rfl) (Ew E mw_4_92 rfl) (by decide) (Nat.le_of_ble_eq_true rfl) (Nat.le_refl _) (Nat.le_refl _) dX6_isAllAsSeen_39 ?_
          refine lv_topi (fun x6 ex6 => ?_)
          replace hF := xl_i (ex6) hF
          have hx6 : 0 ≤ x6.toInt ∧ x6.toInt ≤ 8 := by rw [ex6]; split <;> simp only [Int32.lt_iff_toInt_lt] at * <;> omega
          refine lv_istore_n (lv' := [(2, .int x6), (0, .ref (wq w k0)), (1, .int y6_1)]) hx hb dX6_isAllAsSeen_42 rfl hl (by decide) rfl (fun ls hl => ?_)
          refine lv_aload_n hx hb dX6_isAllAsSeen_43 rfl (lv_at hl 1 rfl) ?_
          refine g_Trial_sides E I h_k0.1 mw_1_216 dX6_isAllAsSeen_44 ?_
          refine lv_iload_n hx hb dX6_isAllAsSeen_47 rfl (lv_at hl 0 rfl) ?_
          refine ga_15 E I h_k0.2.2 (by omega) dX6_isAllAsSeen_48 ?_
          refine lv_topi (fun x7 ex7 => ?_)
          replace hF := xl_i (ex7) hF
          refine lv_aload_n hx hb dX6_isAllAsSeen_49 rfl (lv_at hl 1 rfl) ?_
          refine g_Trial_night E I h_k0.1 mw_1_214 dX6_isAllAsSeen_50 ?_
          refine g_Night_seenSide E I h_k0.2.1.1 mw_1_127 dX6_isAllAsSeen_53 ?_
          refine lv_iload_n hx hb dX6_isAllAsSeen_56 rfl (lv_at hl 2 rfl) ?_
          refine ga_14 E I h_k0.2.1.2.2.2.2.2.2.2.2 (by omega) dX6_isAllAsSeen_57 ?_
          refine lv_topi (fun x8 ex8 => ?_)
          replace hF := xl_i (ex8) hF
          refine bi_eq E (a := x7.toInt) (b := x8.toInt) rfl rfl (tgt := 63) dX6_isAllAsSeen_58 (by decide) (fun c9 => ?_) (fun c9 => ?_)
          ·
            replace hF := if_t c9 hF
            obtain ⟨x10, ex10⟩ : ∃ z : Int32, z = y6_1 + 1 := ⟨_, rfl⟩
            replace hF := xl_i (ex10) hF
            have hx10 : x10.toInt = y6_1.toInt + (1) := by rw [ex10]; exact adI (a := y6_1.toInt) (b := 1) rfl rfl (by omega) (by omega)
            refine lv_iinc (v := x10) (lv' := [(1, .int x10), (2, .int x6), (0, .ref (wq w k0))]) hx hb dX6_isAllAsSeen_63 hl (k := 2) rfl (by rw [ex10]; rfl) (by decide) rfl (fun ls hl => ?_)
            refine lv_goto (tgt := 6) hx hb dX6_isAllAsSeen_66 (by decide) ?_
            exact ih_6 _ _ v_6 I x10 (by omega) rB6_Z hF (by omega) ls (lv_sub hl [2, 0] rfl)
          ·
            replace hF := if_f c9 hF
            refine lv_iconst (v := 0) hx hb dX6_isAllAsSeen_61 (by decide) ?_
            exact rI E I hr hlk rfl (by rw [← hpost]; exact ⟨⟨I.2.2, by have eL : (0 : Int32).toInt = 0 := rfl; omega⟩, hF.trans hres, rB6_Z⟩) dX6_isAllAsSeen_62
  refine lv_aload_n hx hb dX6_isAllAsSeen_0 rfl (lv_at hl 0 rfl) ?_
  refine cVv E I (c_X6_walkPlan l w g v k0 E.2.2.1 I.2.2 h_k0  ) (cwV 0 E.1.2.2.2.2 (gWs (C := "StarWalk$Trial") mw_4_89 mw_3_207 mw_3_208 mw_1_5 mw_3_209) rfl rfl rfl (by decide +kernel) ⟨by decide, by decide⟩) h_k0.1.1 ((ce_o h_k0.1.2).trans rfl) rfl rfl hl.1 rfl (Nat.le_of_ble_eq_true rfl) dX6_isAllAsSeen_1 ⟨Nat.le_refl _, Nat.le_refl _⟩ (fun u11 H lo hp hPS => ?_)
  obtain ⟨hp, hex, hfr⟩ := hp
  replace hF := xl_i hex hF
  obtain ⟨hwf, p12⟩ := hp
  have I : Wo w g s.heap u11 H lo := ⟨hPS.1, hPS.2, hwf⟩
  have rzu11 : ∀ k j : Nat, ¬ (k0 ≤ k ∧ k < k0 + 11) → u11.1 k j = v.1 k j := fun k j h => (hfr k j (fun z => h (by omega))).trans (rz0 k j h)
  refine lv_iconst (v := 0) hx hb dX6_isAllAsSeen_4 (by decide) ?_
  refine lv_istore_n (lv' := [(1, .int 0), (0, .ref (wq w k0))]) hx hb dX6_isAllAsSeen_5 rfl hl (by decide) rfl (fun ls hl => ?_)
  exact L_6 ((2147483647 - (0 : Int32).toInt).toNat + 1) _ _ u11 I (0 : Int32) (by decide) rzu11 hF (Nat.lt_succ_self _) ls (lv_sub hl [1, 0] rfl)
set_option maxHeartbeats 4000000 in
set_option maxRecDepth 100000 in
theorem c_X3_judge (l : Launch) (w : Wp) (g : Nat → Nat → Int32) (v : St) (k0 : Nat) (k1 : Nat) (hq : Inj w) (hw : WF (wk w) g v) (h_k0 : oE w k0) (h_k1 : isK w k1 2) : CTv w l yX3_judge (wsy yX3_judge prog_5_method_4_code 2 none) (rmL 2) [.ref (wq w k0), .ref (wq w k1)] v (fun (u : St) => (WF (wk w) g u ∧ True) ∧ (True) ∧ (∀ k j : Nat, ¬ (k0 ≤ k ∧ k < k0 + 9) → u.1 k j = v.1 k j)) := by
  generalize hpost : (fun (u : St) => (WF (wk w) g u ∧ True) ∧ (True) ∧ (∀ k j : Nat, ¬ (k0 ≤ k ∧ k < k0 + 9) → u.1 k j = v.1 k j)) = post
  refine CTv.of prog_5_method_4_code 2 none "StarWalk$Search" (by decide +kernel) rfl hq hw (Nat.le_of_ble_eq_true rfl) ?_
  intro pg en s m ar bl me cd ls E I hr hlk hl
  have hx := E.1.1
  have hb := E.1.2.1
  have hl : lv_has ls 2 [(0, .ref (wq w k0)), (1, .ref (wq w k1))] := hl
  have rz0 : ∀ k j : Nat, ¬ (k0 ≤ k ∧ k < k0 + 9) → v.1 k j = v.1 k j := fun _ _ _ => rfl
  have B_22 : ∀ (H : Heap) (lo : List Loc), Wo w g s.heap v H lo → (∀ k j : Nat, ¬ (k0 ≤ k ∧ k < k0 + 9) → v.1 k j = v.1 k j) → ∀ (ls : Array Slot), lv_has ls 2 [(0, .ref (wq w k0)), (1, .ref (wq w k1))] → W pg l en (rmL 2) s m ar bl me cd H lo 0 0 (Zv w bl ar s post) (F0 m 22 ls []) := by
    intro H lo  I  rB22_Z ls hl
    refine lv_aload_n hx hb dX3_judge_22 rfl (lv_at hl 0 rfl) ?_
    refine lv_iconst (v := 1) hx hb dX3_judge_23 (by decide) ?_
    refine p_Search_found E I h_k0.1 mw_2_7 (b01 (by decide)) dX3_judge_24 (fun H lo I => ?_)
    generalize ev1 : up1 v k0 5 (1 : Int32) = v1 at I
    have rzv1 : ∀ k j : Nat, ¬ (k0 ≤ k ∧ k < k0 + 9) → v1.1 k j = v.1 k j := fun k j h => fz_u ev1 (by omega) (rB22_Z k j h)
    refine lv_aload_n hx hb dX3_judge_27 rfl (lv_at hl 0 rfl) ?_
    refine lv_aload_n hx hb dX3_judge_28 rfl (lv_at hl 1 rfl) ?_
    refine g_Place_side E I h_k1 mw_1_56 dX3_judge_29 ?_
    refine lv_topi (fun x2 ex2 => ?_)
    refine p_Search_bestSide E I h_k0.1 mw_2_3 dX3_judge_32 (fun H lo I => ?_)
    generalize ev3 : up1 v1 k0 3 x2 = v3 at I
    have rzv3 : ∀ k j : Nat, ¬ (k0 ≤ k ∧ k < k0 + 9) → v3.1 k j = v.1 k j := fun k j h => fz_u ev3 (by omega) (rzv1 k j h)
    refine lv_aload_n hx hb dX3_judge_35 rfl (lv_at hl 0 rfl) ?_
    refine lv_aload_n hx hb dX3_judge_36 rfl (lv_at hl 1 rfl) ?_
    refine g_Place_miles E I h_k1 mw_1_51 dX3_judge_37 ?_
    refine lv_topi (fun x4 ex4 => ?_)
    refine p_Search_bestMiles E I h_k0.1 mw_2_5 dX3_judge_40 (fun H lo I => ?_)
    generalize ev5 : up1 v3 k0 4 x4 = v5 at I
    have rzv5 : ∀ k j : Nat, ¬ (k0 ≤ k ∧ k < k0 + 9) → v5.1 k j = v.1 k j := fun k j h => fz_u ev5 (by omega) (rzv3 k j h)
    refine lv_aload_n hx hb dX3_judge_43 rfl (lv_at hl 0 rfl) ?_
    refine g_Search_row E I h_k0.1 mw_2_0 dX3_judge_44 ?_
    refine lv_iconst (v := 0) hx hb dX3_judge_47 (by decide) ?_
    refine lv_aload_n hx hb dX3_judge_48 rfl (lv_at hl 0 rfl) ?_
    refine g_Search_bestRow E I h_k0.1 mw_2_1 dX3_judge_49 ?_
    refine lv_iconst (v := 0) hx hb dX3_judge_52 (by decide) ?_
    refine lv_iconst (v := 4) hx hb dX3_judge_53 (by decide) ?_
    refine cp_16 E I h_k0.2.2.1 h_k0.2.2.2.1 mw_4_2 (E.1.2.2.1.trans hl.1.symm) (by decide) (Nat.le_of_ble_eq_true rfl) dX3_judge_54 (fun H lo I => ?_)
    generalize ev6 : upR v5 (k0 + 3) (va_cpy (v5.1 (k0 + 2)) (v5.1 (k0 + 3)) 0 0 4) = v6 at I
    have rzv6 : ∀ k j : Nat, ¬ (k0 ≤ k ∧ k < k0 + 9) → v6.1 k j = v.1 k j := fun k j h => fz_r ev6 (by omega) (rzv5 k j h)
    exact rV E I hr hlk (by rw [← hpost]; exact ⟨⟨I.2.2, trivial⟩, trivial, rzv6⟩) dX3_judge_57
  refine lv_aload_n hx hb dX3_judge_0 rfl (lv_at hl 0 rfl) ?_
  refine g_Search_found E I h_k0.1 mw_2_7 dX3_judge_1 ?_
  refine lv_topi (fun x7 ex7 => ?_)
  refine bz_eq E (a := x7.toInt) rfl (tgt := 22) dX3_judge_4 (by decide) (fun c8 => ?_) (fun c8 => ?_)
  ·
    exact B_22 _ _ I  rz0 ls (lv_sub hl [0, 1] rfl)
  ·
    refine lv_aload_n hx hb dX3_judge_7 rfl (lv_at hl 1 rfl) ?_
    refine lv_aload_n hx hb dX3_judge_8 rfl (lv_at hl 0 rfl) ?_
    refine g_Search_bestSide E I h_k0.1 mw_2_3 dX3_judge_9 ?_
    refine lv_topi (fun x9 ex9 => ?_)
    refine lv_aload_n hx hb dX3_judge_12 rfl (lv_at hl 0 rfl) ?_
    refine g_Search_bestMiles E I h_k0.1 mw_2_5 dX3_judge_13 ?_
    refine lv_topi (fun x10 ex10 => ?_)
    refine cVi E I (c_X2_isBetterThan l w g v k1 x9 x10 E.2.2.1 I.2.2 h_k1  ) (cwV 2 E.1.2.2.2.2 (gWs (C := "StarWalk$Place") mw_4_1 mw_3_220 mw_3_221 mw_1_4 mw_3_222) rfl rfl rfl (by decide +kernel) ⟨by decide, by decide⟩) h_k1.1 ((ce_o h_k1.2).trans rfl) rfl rfl hl.1 rfl (Nat.le_of_ble_eq_true rfl) dX3_judge_16 ⟨Nat.le_refl _, Nat.le_refl _⟩ (fun r11 u12 H lo hp hPS => ?_)
    obtain ⟨hp, hex, hfr⟩ := hp
    obtain ⟨hu, p13⟩ := hp
    rw [hu] at hPS
    have I : Wo w g s.heap v H lo := ⟨hPS.1, hPS.2, I.2.2⟩
    refine bz_eq E (a := r11.toInt) rfl (tgt := 57) dX3_judge_19 (by decide) (fun c14 => ?_) (fun c14 => ?_)
    ·
      exact rV E I hr hlk (by rw [← hpost]; exact ⟨⟨I.2.2, trivial⟩, trivial, rz0⟩) dX3_judge_57
    ·
      exact B_22 _ _ I  rz0 ls (lv_sub hl [0, 1] rfl)
set_option maxHeartbeats 4000000 in
set_option maxRecDepth 100000 in
theorem c_X3_extend_v4 (l : Launch) (w : Wp) (g : Nat → Nat → Int32) (v : St) (k0 : Nat) (k1 : Nat) (a1 : Int32) (hq : Inj w) (hw : WF (wk w) g v) (h_k0 : oE w k0) (h_k1 : oN w k1) : CTv w l yX3_extend (wsy yX3_extend prog_5_method_3_code 6 none) (rmL 5) [.ref (wq w k0), .ref (wq w k1), .int 4, .int a1] v (fun (u : St) => (WF (wk w) g u ∧ True) ∧ (True) ∧ (∀ k j : Nat, ¬ (k0 ≤ k ∧ k < k0 + 9) → u.1 k j = v.1 k j)) := by
  generalize hpost : (fun (u : St) => (WF (wk w) g u ∧ True) ∧ (True) ∧ (∀ k j : Nat, ¬ (k0 ≤ k ∧ k < k0 + 9) → u.1 k j = v.1 k j)) = post
  refine CTv.of prog_5_method_3_code 6 none "StarWalk$Search" (by decide +kernel) rfl hq hw (Nat.le_of_ble_eq_true rfl) ?_
  intro pg en s m ar bl me cd ls E I hr hlk hl
  have hx := E.1.1
  have hb := E.1.2.1
  have hl : lv_has ls 6 [(0, .ref (wq w k0)), (1, .ref (wq w k1)), (2, .int 4), (3, .int a1)] := hl
  have rz0 : ∀ k j : Nat, ¬ (k0 ≤ k ∧ k < k0 + 9) → v.1 k j = v.1 k j := fun _ _ _ => rfl
  have B_10 : ∀ (H : Heap) (lo : List Loc), Wo w g s.heap v H lo → (∀ k j : Nat, ¬ (k0 ≤ k ∧ k < k0 + 9) → v.1 k j = v.1 k j) → ∀ (ls : Array Slot), lv_has ls 6 [(0, .ref (wq w k0)), (2, .int 4)] → W pg l en (rmL 5) s m ar bl me cd H lo 0 0 (Zv w bl ar s post) (F0 m 10 ls []) := by
    intro H lo  I  rB10_Z ls hl
    refine lv_aload_n hx hb dX3_extend_10 rfl (lv_at hl 0 rfl) ?_
    refine lv_aload_n hx hb dX3_extend_11 rfl (lv_at hl 0 rfl) ?_
    refine g_Search_places E I h_k0.1 mw_1_239 dX3_extend_12 ?_
    refine lv_iload_n hx hb dX3_extend_15 rfl (lv_at hl 1 rfl) ?_
    refine ga_21 E I h_k0.2.1 (by decide) dX3_extend_16 ?_
    refine cVv E I (c_X3_judge l w g v k0 (k0 + 1 + (3 + (4 : Int32).toNatClampNeg)) E.2.2.1 I.2.2 h_k0 (h_k0.2.2.2.2 (4 : Int32).toNatClampNeg (by decide))  ) (cwV 1 E.1.2.2.2.2 (gWs (C := "StarWalk$Search") mw_3_237 mw_3_239 mw_s_21 mw_1_6 mw_4_0) rfl rfl rfl (by decide +kernel) ⟨by decide, by decide⟩) h_k0.1.1 ((ce_o h_k0.1.2).trans rfl) rfl rfl hl.1 rfl (Nat.le_of_ble_eq_true rfl) dX3_extend_17 ⟨Nat.le_refl _, Nat.le_refl _⟩ (fun u1 H lo hp hPS => ?_)
    obtain ⟨hp, hex, hfr⟩ := hp
    obtain ⟨hwf, p2⟩ := hp
    have I : Wo w g s.heap u1 H lo := ⟨hPS.1, hPS.2, hwf⟩
    have rzu1 : ∀ k j : Nat, ¬ (k0 ≤ k ∧ k < k0 + 9) → u1.1 k j = v.1 k j := fun k j h => (hfr k j (fun z => h (by have cl4 : (4 : Int32).toNatClampNeg = 4 := rfl; omega))).trans (rB10_Z k j h)
    exact rV E I hr hlk (by rw [← hpost]; exact ⟨⟨I.2.2, trivial⟩, trivial, rzu1⟩) dX3_extend_20
  refine lv_iload_n hx hb dX3_extend_0 rfl (lv_at hl 2 rfl) ?_
  refine lv_iload_n hx hb dX3_extend_1 rfl (lv_at hl 3 rfl) ?_
  refine bi_ge E (a := 4) (b := a1.toInt) rfl rfl (tgt := 10) dX3_extend_2 (by decide) (fun c3 => ?_) (fun c3 => ?_)
  ·
    exact B_10 _ _ I  rz0 ls (lv_sub hl [0, 2] rfl)
  ·
    refine lv_iload_n hx hb dX3_extend_5 rfl (lv_at hl 2 rfl) ?_
    refine lv_iconst (v := 4) hx hb dX3_extend_6 (by decide) ?_
    refine bi_lt E (a := 4) (b := 4) rfl rfl (tgt := 21) dX3_extend_7 (by decide) (fun c4 => ?_) (fun c4 => ?_)
    ·
      exfalso; omega
    ·
      exact B_10 _ _ I  rz0 ls (lv_sub hl [0, 2] rfl)
set_option maxHeartbeats 4000000 in
set_option maxRecDepth 100000 in
theorem c_X3_extend_v3 (l : Launch) (w : Wp) (g : Nat → Nat → Int32) (v : St) (k0 : Nat) (k1 : Nat) (a1 : Int32) (hq : Inj w) (hw : WF (wk w) g v) (h_k0 : oE w k0) (h_k1 : oN w k1) : CTv w l yX3_extend (wsy yX3_extend prog_5_method_3_code 6 none) (rmL 6) [.ref (wq w k0), .ref (wq w k1), .int 3, .int a1] v (fun (u : St) => (WF (wk w) g u ∧ True) ∧ (True) ∧ (∀ k j : Nat, ¬ (k0 ≤ k ∧ k < k0 + 9) → u.1 k j = v.1 k j)) := by
  generalize hpost : (fun (u : St) => (WF (wk w) g u ∧ True) ∧ (True) ∧ (∀ k j : Nat, ¬ (k0 ≤ k ∧ k < k0 + 9) → u.1 k j = v.1 k j)) = post
  refine CTv.of prog_5_method_3_code 6 none "StarWalk$Search" (by decide +kernel) rfl hq hw (Nat.le_of_ble_eq_true rfl) ?_
  intro pg en s m ar bl me cd ls E I hr hlk hl
  have hx := E.1.1
  have hb := E.1.2.1
  have hl : lv_has ls 6 [(0, .ref (wq w k0)), (1, .ref (wq w k1)), (2, .int 3), (3, .int a1)] := hl
  have rz0 : ∀ k j : Nat, ¬ (k0 ≤ k ∧ k < k0 + 9) → v.1 k j = v.1 k j := fun _ _ _ => rfl
  have L_27 : ∀ (n : Nat), ∀ (H : Heap) (lo : List Loc) (v_27 : St), Wo w g s.heap v_27 H lo → ∀ (y27_4 : Int32) (y27_5 : Int32), (0 ≤ y27_4.toInt ∧ y27_4.toInt ≤ 1) → (0 ≤ y27_5.toInt ∧ y27_5.toInt ≤ 7) → (4 ≤ a1.toInt) → (∀ k j : Nat, ¬ (k0 ≤ k ∧ k < k0 + 9) → v_27.1 k j = v.1 k j) → (2147483647 - y27_5.toInt).toNat < n → ∀ (ls : Array Slot), lv_has ls 6 [(0, .ref (wq w k0)), (1, .ref (wq w k1)), (2, .int 3), (3, .int a1), (4, .int y27_4), (5, .int y27_5)] → W pg l en (rmL 6) s m ar bl me cd H lo 0 0 (Zv w bl ar s post) (F0 m 27 ls []) := by
    intro n
    induction n with
    | zero => intro H lo v_27 I y27_4 y27_5 hy27_4 hy27_5 hE27_0 rB27_Z hm; exact absurd hm (Nat.not_lt_zero _)
    | succ n ih_27 =>
      intro H lo v_27 I y27_4 y27_5 hy27_4 hy27_5 hE27_0 rB27_Z hm ls hl
      have B_98 : ∀ (H : Heap) (lo : List Loc) (v_98 : St), Wo w g s.heap v_98 H lo → ∀ (y98_4 : Int32), (0 ≤ y98_4.toInt ∧ y98_4.toInt ≤ 1) → (4 ≤ a1.toInt) → (0 ≤ y27_5.toInt ∧ y27_5.toInt ≤ 6) → (∀ k j : Nat, ¬ (k0 ≤ k ∧ k < k0 + 9) → v_98.1 k j = v.1 k j) → ∀ (ls : Array Slot), lv_has ls 6 [(0, .ref (wq w k0)), (1, .ref (wq w k1)), (2, .int 3), (3, .int a1), (4, .int y98_4), (5, .int y27_5)] → W pg l en (rmL 6) s m ar bl me cd H lo 0 0 (Zv w bl ar s post) (F0 m 98 ls []) := by
        intro H lo v_98 I y98_4 hy98_4 hE98_0 hE98_1 rB98_Z ls hl
        obtain ⟨x1, ex1⟩ : ∃ z : Int32, z = y27_5 + 1 := ⟨_, rfl⟩
        have hx1 : x1.toInt = y27_5.toInt + (1) := by rw [ex1]; exact adI (a := y27_5.toInt) (b := 1) rfl rfl (by omega) (by omega)
        refine lv_iinc (v := x1) (lv' := [(5, .int x1), (0, .ref (wq w k0)), (1, .ref (wq w k1)), (2, .int 3), (3, .int a1), (4, .int y98_4)]) hx hb dX3_extend_98 hl (k := 5) rfl (by rw [ex1]; rfl) (by decide) rfl (fun ls hl => ?_)
        refine lv_goto (tgt := 27) hx hb dX3_extend_101 (by decide) ?_
        exact ih_27 _ _ v_98 I y98_4 x1 (by omega) (by omega) (by omega) rB98_Z (by omega) ls (lv_sub hl [1, 2, 3, 4, 5, 0] rfl)
      refine lv_iload hx hb dX3_extend_27 (lv_at hl 4 rfl) ?_
      refine bz_eq E (a := y27_4.toInt) rfl (tgt := 104) dX3_extend_29 (by decide) (fun c2 => ?_) (fun c2 => ?_)
      ·
        exact rV E I hr hlk (by rw [← hpost]; exact ⟨⟨I.2.2, trivial⟩, trivial, rB27_Z⟩) dX3_extend_104
      ·
        refine lv_iload hx hb dX3_extend_32 (lv_at hl 5 rfl) ?_
        refine lv_bipush (v := 7) hx hb dX3_extend_34 (by decide) ?_
        refine bi_ge E (a := y27_5.toInt) (b := 7) rfl rfl (tgt := 104) dX3_extend_36 (by decide) (fun c3 => ?_) (fun c3 => ?_)
        ·
          exact rV E I hr hlk (by rw [← hpost]; exact ⟨⟨I.2.2, trivial⟩, trivial, rB27_Z⟩) dX3_extend_104
        ·
          refine lv_aload_n hx hb dX3_extend_39 rfl (lv_at hl 1 rfl) ?_
          refine lv_iload hx hb dX3_extend_40 (lv_at hl 5 rfl) ?_
          refine cVi E I (c_X0_hasAim l w g v_27 k1 y27_5 E.2.2.1 I.2.2 h_k1  ) (cwV 1 E.1.2.2.2.2 (gWs (C := "StarWalk$Night") mw_4_3 mw_3_49 mw_3_50 mw_1_3 mw_3_51) rfl rfl rfl (by decide +kernel) ⟨by decide, by decide⟩) h_k1.1.1 ((ce_o h_k1.1.2).trans rfl) rfl rfl hl.1 rfl (Nat.le_of_ble_eq_true rfl) dX3_extend_42 ⟨Nat.le_refl _, Nat.le_refl _⟩ (fun r4 u5 H lo hp hPS => ?_)
          obtain ⟨hp, hex, hfr⟩ := hp
          obtain ⟨hu, p6⟩ := hp
          rw [hu] at hPS
          have I : Wo w g s.heap v_27 H lo := ⟨hPS.1, hPS.2, I.2.2⟩
          refine bz_eq E (a := r4.toInt) rfl (tgt := 98) dX3_extend_45 (by decide) (fun c7 => ?_) (fun c7 => ?_)
          ·
            exact B_98 _ _ v_27 I y27_4 (by omega) (by omega) (by omega) rB27_Z ls (lv_sub hl [0, 1, 2, 3, 4, 5] rfl)
          ·
            refine lv_aload_n hx hb dX3_extend_48 rfl (lv_at hl 0 rfl) ?_
            refine g_Search_row E I h_k0.1 mw_2_0 dX3_extend_49 ?_
            refine lv_iload_n hx hb dX3_extend_52 rfl (lv_at hl 2 rfl) ?_
            refine lv_iload hx hb dX3_extend_53 (lv_at hl 5 rfl) ?_
            refine pa_16 E I h_k0.2.2.1 (by decide) dX3_extend_55 (fun H lo I => ?_)
            generalize ev8 : up1 v_27 (k0 + 2) (3 : Int32).toNatClampNeg y27_5 = v8 at I
            have rzv8 : ∀ k j : Nat, ¬ (k0 ≤ k ∧ k < k0 + 9) → v8.1 k j = v.1 k j := fun k j h => fz_u ev8 (by have cl3 : (3 : Int32).toNatClampNeg = 3 := rfl; omega) (rB27_Z k j h)
            refine lv_aload_n hx hb dX3_extend_56 rfl (lv_at hl 0 rfl) ?_
            refine g_Search_places E I h_k0.1 mw_1_239 dX3_extend_57 ?_
            refine lv_iload_n hx hb dX3_extend_60 rfl (lv_at hl 2 rfl) ?_
            refine lv_iconst (v := 1) hx hb dX3_extend_61 (by decide) ?_
            refine lv_iadd hx hb dX3_extend_62 ?_
            refine lv_topi (fun x9 ex9 => ?_)
            obtain rfl : x9 = 4 := ex9.trans (by decide)
            refine ga_21 E I h_k0.2.1 (by decide) dX3_extend_63 ?_
            refine lv_aload_n hx hb dX3_extend_64 rfl (lv_at hl 0 rfl) ?_
            refine g_Search_places E I h_k0.1 mw_1_239 dX3_extend_65 ?_
            refine lv_iload_n hx hb dX3_extend_68 rfl (lv_at hl 2 rfl) ?_
            refine ga_21 E I h_k0.2.1 (by decide) dX3_extend_69 ?_
            refine cVv E I (c_X2_become l w g v8 (k0 + 1 + (3 + (4 : Int32).toNatClampNeg)) (k0 + 1 + (3 + (3 : Int32).toNatClampNeg)) E.2.2.1 I.2.2 (h_k0.2.2.2.2 (4 : Int32).toNatClampNeg (by decide)) (h_k0.2.2.2.2 (3 : Int32).toNatClampNeg (by decide))  ) (cwV 1 E.1.2.2.2.2 (gWs (C := "StarWalk$Place") mw_3_232 mw_3_61 mw_3_62 mw_1_4 mw_3_63) rfl rfl rfl (by decide +kernel) ⟨by decide, by decide⟩) (h_k0.2.2.2.2 (4 : Int32).toNatClampNeg (by decide)).1 ((ce_o (h_k0.2.2.2.2 (4 : Int32).toNatClampNeg (by decide)).2).trans rfl) rfl rfl hl.1 rfl (Nat.le_of_ble_eq_true rfl) dX3_extend_70 ⟨Nat.le_refl _, Nat.le_refl _⟩ (fun u10 H lo hp hPS => ?_)
            obtain ⟨hp, hex, hfr⟩ := hp
            obtain ⟨hwf, p11⟩ := hp
            have I : Wo w g s.heap u10 H lo := ⟨hPS.1, hPS.2, hwf⟩
            have rzu10 : ∀ k j : Nat, ¬ (k0 ≤ k ∧ k < k0 + 9) → u10.1 k j = v.1 k j := fun k j h => (hfr k j (fun z => h (by have cl3 : (3 : Int32).toNatClampNeg = 3 := rfl; have cl4 : (4 : Int32).toNatClampNeg = 4 := rfl; omega))).trans (rzv8 k j h)
            refine lv_aload_n hx hb dX3_extend_73 rfl (lv_at hl 1 rfl) ?_
            refine lv_aload_n hx hb dX3_extend_74 rfl (lv_at hl 0 rfl) ?_
            refine g_Search_places E I h_k0.1 mw_1_239 dX3_extend_75 ?_
            refine lv_iload_n hx hb dX3_extend_78 rfl (lv_at hl 2 rfl) ?_
            refine lv_iconst (v := 1) hx hb dX3_extend_79 (by decide) ?_
            refine lv_iadd hx hb dX3_extend_80 ?_
            refine lv_topi (fun x12 ex12 => ?_)
            obtain rfl : x12 = 4 := ex12.trans (by decide)
            refine ga_21 E I h_k0.2.1 (by decide) dX3_extend_81 ?_
            refine lv_iload hx hb dX3_extend_82 (lv_at hl 5 rfl) ?_
            refine cVi E I (c_X0_step l w g u10 k1 (k0 + 1 + (3 + (4 : Int32).toNatClampNeg)) y27_5 E.2.2.1 I.2.2 h_k1 (h_k0.2.2.2.2 (4 : Int32).toNatClampNeg (by decide))  ) (cwV 2 E.1.2.2.2.2 (gWs (C := "StarWalk$Night") mw_4_4 mw_3_177 mw_3_178 mw_1_3 mw_3_179) rfl rfl rfl (by decide +kernel) ⟨by decide, by decide⟩) h_k1.1.1 ((ce_o h_k1.1.2).trans rfl) rfl rfl hl.1 rfl (Nat.le_of_ble_eq_true rfl) dX3_extend_84 ⟨Nat.le_refl _, Nat.le_refl _⟩ (fun r13 u14 H lo hp hPS => ?_)
            obtain ⟨hp, hex, hfr⟩ := hp
            obtain ⟨hwf, p15⟩ := hp
            have I : Wo w g s.heap u14 H lo := ⟨hPS.1, hPS.2, hwf⟩
            have rzu14 : ∀ k j : Nat, ¬ (k0 ≤ k ∧ k < k0 + 9) → u14.1 k j = v.1 k j := fun k j h => (hfr k j (fun z => h (by have cl4 : (4 : Int32).toNatClampNeg = 4 := rfl; omega))).trans (rzu10 k j h)
            refine lv_istore (lv' := [(4, .int r13), (0, .ref (wq w k0)), (1, .ref (wq w k1)), (2, .int 3), (3, .int a1), (5, .int y27_5)]) hx hb dX3_extend_87 hl (by decide) rfl (fun ls hl => ?_)
            refine lv_aload_n hx hb dX3_extend_89 rfl (lv_at hl 1 rfl) ?_
            refine lv_aload_n hx hb dX3_extend_90 rfl (lv_at hl 2 rfl) ?_
            refine lv_iload_n hx hb dX3_extend_91 rfl (lv_at hl 3 rfl) ?_
            refine lv_iconst (v := 1) hx hb dX3_extend_92 (by decide) ?_
            refine lv_iadd hx hb dX3_extend_93 ?_
            refine lv_topi (fun x16 ex16 => ?_)
            obtain rfl : x16 = 4 := ex16.trans (by decide)
            refine lv_iload_n hx hb dX3_extend_94 rfl (lv_at hl 4 rfl) ?_
            refine cVv E I (c_X3_extend_v4 l w g u14 k0 k1 a1 E.2.2.1 I.2.2 h_k0 h_k1  ) (cwV 3 E.1.2.2.2.2 (gWs (C := "StarWalk$Search") mw_3_233 mw_3_235 mw_s_20 mw_1_6 mw_3_236) rfl rfl rfl (by decide +kernel) ⟨by decide, by decide⟩) h_k0.1.1 ((ce_o h_k0.1.2).trans rfl) rfl rfl hl.1 rfl (Nat.le_of_ble_eq_true rfl) dX3_extend_95 ⟨Nat.le_refl _, Nat.le_refl _⟩ (fun u17 H lo hp hPS => ?_)
            obtain ⟨hp, hex, hfr⟩ := hp
            obtain ⟨hwf, p18⟩ := hp
            have I : Wo w g s.heap u17 H lo := ⟨hPS.1, hPS.2, hwf⟩
            have rzu17 : ∀ k j : Nat, ¬ (k0 ≤ k ∧ k < k0 + 9) → u17.1 k j = v.1 k j := fun k j h => (hfr k j (fun z => h (by omega))).trans (rzu14 k j h)
            exact B_98 _ _ u17 I r13 (by omega) (by omega) (by omega) rzu17 ls (lv_sub hl [1, 2, 3, 4, 0, 5] rfl)
  have B_10 : ∀ (H : Heap) (lo : List Loc), Wo w g s.heap v H lo → (∀ k j : Nat, ¬ (k0 ≤ k ∧ k < k0 + 9) → v.1 k j = v.1 k j) → ∀ (ls : Array Slot), lv_has ls 6 [(0, .ref (wq w k0)), (2, .int 3)] → W pg l en (rmL 6) s m ar bl me cd H lo 0 0 (Zv w bl ar s post) (F0 m 10 ls []) := by
    intro H lo  I  rB10_Z ls hl
    refine lv_aload_n hx hb dX3_extend_10 rfl (lv_at hl 0 rfl) ?_
    refine lv_aload_n hx hb dX3_extend_11 rfl (lv_at hl 0 rfl) ?_
    refine g_Search_places E I h_k0.1 mw_1_239 dX3_extend_12 ?_
    refine lv_iload_n hx hb dX3_extend_15 rfl (lv_at hl 1 rfl) ?_
    refine ga_21 E I h_k0.2.1 (by decide) dX3_extend_16 ?_
    refine cVv E I (c_X3_judge l w g v k0 (k0 + 1 + (3 + (3 : Int32).toNatClampNeg)) E.2.2.1 I.2.2 h_k0 (h_k0.2.2.2.2 (3 : Int32).toNatClampNeg (by decide))  ) (cwV 1 E.1.2.2.2.2 (gWs (C := "StarWalk$Search") mw_3_237 mw_3_239 mw_s_21 mw_1_6 mw_4_0) rfl rfl rfl (by decide +kernel) ⟨by decide, by decide⟩) h_k0.1.1 ((ce_o h_k0.1.2).trans rfl) rfl rfl hl.1 rfl (Nat.le_of_ble_eq_true rfl) dX3_extend_17 ⟨Nat.le_refl _, Nat.le_refl _⟩ (fun u19 H lo hp hPS => ?_)
    obtain ⟨hp, hex, hfr⟩ := hp
    obtain ⟨hwf, p20⟩ := hp
    have I : Wo w g s.heap u19 H lo := ⟨hPS.1, hPS.2, hwf⟩
    have rzu19 : ∀ k j : Nat, ¬ (k0 ≤ k ∧ k < k0 + 9) → u19.1 k j = v.1 k j := fun k j h => (hfr k j (fun z => h (by have cl3 : (3 : Int32).toNatClampNeg = 3 := rfl; omega))).trans (rB10_Z k j h)
    exact rV E I hr hlk (by rw [← hpost]; exact ⟨⟨I.2.2, trivial⟩, trivial, rzu19⟩) dX3_extend_20
  refine lv_iload_n hx hb dX3_extend_0 rfl (lv_at hl 2 rfl) ?_
  refine lv_iload_n hx hb dX3_extend_1 rfl (lv_at hl 3 rfl) ?_
  refine bi_ge E (a := 3) (b := a1.toInt) rfl rfl (tgt := 10) dX3_extend_2 (by decide) (fun c21 => ?_) (fun c21 => ?_)
  ·
    exact B_10 _ _ I  rz0 ls (lv_sub hl [0, 2] rfl)
  ·
    refine lv_iload_n hx hb dX3_extend_5 rfl (lv_at hl 2 rfl) ?_
    refine lv_iconst (v := 4) hx hb dX3_extend_6 (by decide) ?_
    refine bi_lt E (a := 3) (b := 4) rfl rfl (tgt := 21) dX3_extend_7 (by decide) (fun c22 => ?_) (fun c22 => ?_)
    ·
      refine lv_iconst (v := 1) hx hb dX3_extend_21 (by decide) ?_
      refine lv_istore (lv' := [(4, .int 1), (0, .ref (wq w k0)), (1, .ref (wq w k1)), (2, .int 3), (3, .int a1)]) hx hb dX3_extend_22 hl (by decide) rfl (fun ls hl => ?_)
      refine lv_iconst (v := 0) hx hb dX3_extend_24 (by decide) ?_
      refine lv_istore (lv' := [(5, .int 0), (4, .int 1), (0, .ref (wq w k0)), (1, .ref (wq w k1)), (2, .int 3), (3, .int a1)]) hx hb dX3_extend_25 hl (by decide) rfl (fun ls hl => ?_)
      exact L_27 ((2147483647 - (0 : Int32).toInt).toNat + 1) _ _ v I (1 : Int32) (0 : Int32) (by decide) (by decide) (by omega) rz0 (Nat.lt_succ_self _) ls (lv_sub hl [2, 3, 4, 5, 1, 0] rfl)
    ·
      exfalso; omega
set_option maxHeartbeats 4000000 in
set_option maxRecDepth 100000 in
theorem c_X3_extend_v2 (l : Launch) (w : Wp) (g : Nat → Nat → Int32) (v : St) (k0 : Nat) (k1 : Nat) (a1 : Int32) (hq : Inj w) (hw : WF (wk w) g v) (h_k0 : oE w k0) (h_k1 : oN w k1) : CTv w l yX3_extend (wsy yX3_extend prog_5_method_3_code 6 none) (rmL 7) [.ref (wq w k0), .ref (wq w k1), .int 2, .int a1] v (fun (u : St) => (WF (wk w) g u ∧ True) ∧ (True) ∧ (∀ k j : Nat, ¬ (k0 ≤ k ∧ k < k0 + 9) → u.1 k j = v.1 k j)) := by
  generalize hpost : (fun (u : St) => (WF (wk w) g u ∧ True) ∧ (True) ∧ (∀ k j : Nat, ¬ (k0 ≤ k ∧ k < k0 + 9) → u.1 k j = v.1 k j)) = post
  refine CTv.of prog_5_method_3_code 6 none "StarWalk$Search" (by decide +kernel) rfl hq hw (Nat.le_of_ble_eq_true rfl) ?_
  intro pg en s m ar bl me cd ls E I hr hlk hl
  have hx := E.1.1
  have hb := E.1.2.1
  have hl : lv_has ls 6 [(0, .ref (wq w k0)), (1, .ref (wq w k1)), (2, .int 2), (3, .int a1)] := hl
  have rz0 : ∀ k j : Nat, ¬ (k0 ≤ k ∧ k < k0 + 9) → v.1 k j = v.1 k j := fun _ _ _ => rfl
  have L_27 : ∀ (n : Nat), ∀ (H : Heap) (lo : List Loc) (v_27 : St), Wo w g s.heap v_27 H lo → ∀ (y27_4 : Int32) (y27_5 : Int32), (0 ≤ y27_4.toInt ∧ y27_4.toInt ≤ 1) → (0 ≤ y27_5.toInt ∧ y27_5.toInt ≤ 7) → (3 ≤ a1.toInt) → (∀ k j : Nat, ¬ (k0 ≤ k ∧ k < k0 + 9) → v_27.1 k j = v.1 k j) → (2147483647 - y27_5.toInt).toNat < n → ∀ (ls : Array Slot), lv_has ls 6 [(0, .ref (wq w k0)), (1, .ref (wq w k1)), (2, .int 2), (3, .int a1), (4, .int y27_4), (5, .int y27_5)] → W pg l en (rmL 7) s m ar bl me cd H lo 0 0 (Zv w bl ar s post) (F0 m 27 ls []) := by
    intro n
    induction n with
    | zero => intro H lo v_27 I y27_4 y27_5 hy27_4 hy27_5 hE27_0 rB27_Z hm; exact absurd hm (Nat.not_lt_zero _)
    | succ n ih_27 =>
      intro H lo v_27 I y27_4 y27_5 hy27_4 hy27_5 hE27_0 rB27_Z hm ls hl
      have B_98 : ∀ (H : Heap) (lo : List Loc) (v_98 : St), Wo w g s.heap v_98 H lo → ∀ (y98_4 : Int32), (0 ≤ y98_4.toInt ∧ y98_4.toInt ≤ 1) → (3 ≤ a1.toInt) → (0 ≤ y27_5.toInt ∧ y27_5.toInt ≤ 6) → (∀ k j : Nat, ¬ (k0 ≤ k ∧ k < k0 + 9) → v_98.1 k j = v.1 k j) → ∀ (ls : Array Slot), lv_has ls 6 [(0, .ref (wq w k0)), (1, .ref (wq w k1)), (2, .int 2), (3, .int a1), (4, .int y98_4), (5, .int y27_5)] → W pg l en (rmL 7) s m ar bl me cd H lo 0 0 (Zv w bl ar s post) (F0 m 98 ls []) := by
        intro H lo v_98 I y98_4 hy98_4 hE98_0 hE98_1 rB98_Z ls hl
        obtain ⟨x1, ex1⟩ : ∃ z : Int32, z = y27_5 + 1 := ⟨_, rfl⟩
        have hx1 : x1.toInt = y27_5.toInt + (1) := by rw [ex1]; exact adI (a := y27_5.toInt) (b := 1) rfl rfl (by omega) (by omega)
        refine lv_iinc (v := x1) (lv' := [(5, .int x1), (0, .ref (wq w k0)), (1, .ref (wq w k1)), (2, .int 2), (3, .int a1), (4, .int y98_4)]) hx hb dX3_extend_98 hl (k := 5) rfl (by rw [ex1]; rfl) (by decide) rfl (fun ls hl => ?_)
        refine lv_goto (tgt := 27) hx hb dX3_extend_101 (by decide) ?_
        exact ih_27 _ _ v_98 I y98_4 x1 (by omega) (by omega) (by omega) rB98_Z (by omega) ls (lv_sub hl [1, 2, 3, 4, 5, 0] rfl)
      refine lv_iload hx hb dX3_extend_27 (lv_at hl 4 rfl) ?_
      refine bz_eq E (a := y27_4.toInt) rfl (tgt := 104) dX3_extend_29 (by decide) (fun c2 => ?_) (fun c2 => ?_)
      ·
        exact rV E I hr hlk (by rw [← hpost]; exact ⟨⟨I.2.2, trivial⟩, trivial, rB27_Z⟩) dX3_extend_104
      ·
        refine lv_iload hx hb dX3_extend_32 (lv_at hl 5 rfl) ?_
        refine lv_bipush (v := 7) hx hb dX3_extend_34 (by decide) ?_
        refine bi_ge E (a := y27_5.toInt) (b := 7) rfl rfl (tgt := 104) dX3_extend_36 (by decide) (fun c3 => ?_) (fun c3 => ?_)
        ·
          exact rV E I hr hlk (by rw [← hpost]; exact ⟨⟨I.2.2, trivial⟩, trivial, rB27_Z⟩) dX3_extend_104
        ·
          refine lv_aload_n hx hb dX3_extend_39 rfl (lv_at hl 1 rfl) ?_
          refine lv_iload hx hb dX3_extend_40 (lv_at hl 5 rfl) ?_
          refine cVi E I (c_X0_hasAim l w g v_27 k1 y27_5 E.2.2.1 I.2.2 h_k1  ) (cwV 1 E.1.2.2.2.2 (gWs (C := "StarWalk$Night") mw_4_3 mw_3_49 mw_3_50 mw_1_3 mw_3_51) rfl rfl rfl (by decide +kernel) ⟨by decide, by decide⟩) h_k1.1.1 ((ce_o h_k1.1.2).trans rfl) rfl rfl hl.1 rfl (Nat.le_of_ble_eq_true rfl) dX3_extend_42 ⟨Nat.le_refl _, Nat.le_refl _⟩ (fun r4 u5 H lo hp hPS => ?_)
          obtain ⟨hp, hex, hfr⟩ := hp
          obtain ⟨hu, p6⟩ := hp
          rw [hu] at hPS
          have I : Wo w g s.heap v_27 H lo := ⟨hPS.1, hPS.2, I.2.2⟩
          refine bz_eq E (a := r4.toInt) rfl (tgt := 98) dX3_extend_45 (by decide) (fun c7 => ?_) (fun c7 => ?_)
          ·
            exact B_98 _ _ v_27 I y27_4 (by omega) (by omega) (by omega) rB27_Z ls (lv_sub hl [0, 1, 2, 3, 4, 5] rfl)
          ·
            refine lv_aload_n hx hb dX3_extend_48 rfl (lv_at hl 0 rfl) ?_
            refine g_Search_row E I h_k0.1 mw_2_0 dX3_extend_49 ?_
            refine lv_iload_n hx hb dX3_extend_52 rfl (lv_at hl 2 rfl) ?_
            refine lv_iload hx hb dX3_extend_53 (lv_at hl 5 rfl) ?_
            refine pa_16 E I h_k0.2.2.1 (by decide) dX3_extend_55 (fun H lo I => ?_)
            generalize ev8 : up1 v_27 (k0 + 2) (2 : Int32).toNatClampNeg y27_5 = v8 at I
            have rzv8 : ∀ k j : Nat, ¬ (k0 ≤ k ∧ k < k0 + 9) → v8.1 k j = v.1 k j := fun k j h => fz_u ev8 (by have cl2 : (2 : Int32).toNatClampNeg = 2 := rfl; omega) (rB27_Z k j h)
            refine lv_aload_n hx hb dX3_extend_56 rfl (lv_at hl 0 rfl) ?_
            refine g_Search_places E I h_k0.1 mw_1_239 dX3_extend_57 ?_
            refine lv_iload_n hx hb dX3_extend_60 rfl (lv_at hl 2 rfl) ?_
            refine lv_iconst (v := 1) hx hb dX3_extend_61 (by decide) ?_
            refine lv_iadd hx hb dX3_extend_62 ?_
            refine lv_topi (fun x9 ex9 => ?_)
            obtain rfl : x9 = 3 := ex9.trans (by decide)
            refine ga_21 E I h_k0.2.1 (by decide) dX3_extend_63 ?_
            refine lv_aload_n hx hb dX3_extend_64 rfl (lv_at hl 0 rfl) ?_
            refine g_Search_places E I h_k0.1 mw_1_239 dX3_extend_65 ?_
            refine lv_iload_n hx hb dX3_extend_68 rfl (lv_at hl 2 rfl) ?_
            refine ga_21 E I h_k0.2.1 (by decide) dX3_extend_69 ?_
            refine cVv E I (c_X2_become l w g v8 (k0 + 1 + (3 + (3 : Int32).toNatClampNeg)) (k0 + 1 + (3 + (2 : Int32).toNatClampNeg)) E.2.2.1 I.2.2 (h_k0.2.2.2.2 (3 : Int32).toNatClampNeg (by decide)) (h_k0.2.2.2.2 (2 : Int32).toNatClampNeg (by decide))  ) (cwV 1 E.1.2.2.2.2 (gWs (C := "StarWalk$Place") mw_3_232 mw_3_61 mw_3_62 mw_1_4 mw_3_63) rfl rfl rfl (by decide +kernel) ⟨by decide, by decide⟩) (h_k0.2.2.2.2 (3 : Int32).toNatClampNeg (by decide)).1 ((ce_o (h_k0.2.2.2.2 (3 : Int32).toNatClampNeg (by decide)).2).trans rfl) rfl rfl hl.1 rfl (Nat.le_of_ble_eq_true rfl) dX3_extend_70 ⟨Nat.le_refl _, Nat.le_refl _⟩ (fun u10 H lo hp hPS => ?_)
            obtain ⟨hp, hex, hfr⟩ := hp
            obtain ⟨hwf, p11⟩ := hp
            have I : Wo w g s.heap u10 H lo := ⟨hPS.1, hPS.2, hwf⟩
            have rzu10 : ∀ k j : Nat, ¬ (k0 ≤ k ∧ k < k0 + 9) → u10.1 k j = v.1 k j := fun k j h => (hfr k j (fun z => h (by have cl2 : (2 : Int32).toNatClampNeg = 2 := rfl; have cl3 : (3 : Int32).toNatClampNeg = 3 := rfl; omega))).trans (rzv8 k j h)
            refine lv_aload_n hx hb dX3_extend_73 rfl (lv_at hl 1 rfl) ?_
            refine lv_aload_n hx hb dX3_extend_74 rfl (lv_at hl 0 rfl) ?_
            refine g_Search_places E I h_k0.1 mw_1_239 dX3_extend_75 ?_
            refine lv_iload_n hx hb dX3_extend_78 rfl (lv_at hl 2 rfl) ?_
            refine lv_iconst (v := 1) hx hb dX3_extend_79 (by decide) ?_
            refine lv_iadd hx hb dX3_extend_80 ?_
            refine lv_topi (fun x12 ex12 => ?_)
            obtain rfl : x12 = 3 := ex12.trans (by decide)
            refine ga_21 E I h_k0.2.1 (by decide) dX3_extend_81 ?_
            refine lv_iload hx hb dX3_extend_82 (lv_at hl 5 rfl) ?_
            refine cVi E I (c_X0_step l w g u10 k1 (k0 + 1 + (3 + (3 : Int32).toNatClampNeg)) y27_5 E.2.2.1 I.2.2 h_k1 (h_k0.2.2.2.2 (3 : Int32).toNatClampNeg (by decide))  ) (cwV 2 E.1.2.2.2.2 (gWs (C := "StarWalk$Night") mw_4_4 mw_3_177 mw_3_178 mw_1_3 mw_3_179) rfl rfl rfl (by decide +kernel) ⟨by decide, by decide⟩) h_k1.1.1 ((ce_o h_k1.1.2).trans rfl) rfl rfl hl.1 rfl (Nat.le_of_ble_eq_true rfl) dX3_extend_84 ⟨Nat.le_refl _, Nat.le_refl _⟩ (fun r13 u14 H lo hp hPS => ?_)
            obtain ⟨hp, hex, hfr⟩ := hp
            obtain ⟨hwf, p15⟩ := hp
            have I : Wo w g s.heap u14 H lo := ⟨hPS.1, hPS.2, hwf⟩
            have rzu14 : ∀ k j : Nat, ¬ (k0 ≤ k ∧ k < k0 + 9) → u14.1 k j = v.1 k j := fun k j h => (hfr k j (fun z => h (by have cl3 : (3 : Int32).toNatClampNeg = 3 := rfl; omega))).trans (rzu10 k j h)
            refine lv_istore (lv' := [(4, .int r13), (0, .ref (wq w k0)), (1, .ref (wq w k1)), (2, .int 2), (3, .int a1), (5, .int y27_5)]) hx hb dX3_extend_87 hl (by decide) rfl (fun ls hl => ?_)
            refine lv_aload_n hx hb dX3_extend_89 rfl (lv_at hl 1 rfl) ?_
            refine lv_aload_n hx hb dX3_extend_90 rfl (lv_at hl 2 rfl) ?_
            refine lv_iload_n hx hb dX3_extend_91 rfl (lv_at hl 3 rfl) ?_
            refine lv_iconst (v := 1) hx hb dX3_extend_92 (by decide) ?_
            refine lv_iadd hx hb dX3_extend_93 ?_
            refine lv_topi (fun x16 ex16 => ?_)
            obtain rfl : x16 = 3 := ex16.trans (by decide)
            refine lv_iload_n hx hb dX3_extend_94 rfl (lv_at hl 4 rfl) ?_
            refine cVv E I (c_X3_extend_v3 l w g u14 k0 k1 a1 E.2.2.1 I.2.2 h_k0 h_k1  ) (cwV 3 E.1.2.2.2.2 (gWs (C := "StarWalk$Search") mw_3_233 mw_3_235 mw_s_20 mw_1_6 mw_3_236) rfl rfl rfl (by decide +kernel) ⟨by decide, by decide⟩) h_k0.1.1 ((ce_o h_k0.1.2).trans rfl) rfl rfl hl.1 rfl (Nat.le_of_ble_eq_true rfl) dX3_extend_95 ⟨Nat.le_refl _, Nat.le_refl _⟩ (fun u17 H lo hp hPS => ?_)
            obtain ⟨hp, hex, hfr⟩ := hp
            obtain ⟨hwf, p18⟩ := hp
            have I : Wo w g s.heap u17 H lo := ⟨hPS.1, hPS.2, hwf⟩
            have rzu17 : ∀ k j : Nat, ¬ (k0 ≤ k ∧ k < k0 + 9) → u17.1 k j = v.1 k j := fun k j h => (hfr k j (fun z => h (by omega))).trans (rzu14 k j h)
            exact B_98 _ _ u17 I r13 (by omega) (by omega) (by omega) rzu17 ls (lv_sub hl [1, 2, 3, 4, 0, 5] rfl)
  have B_10 : ∀ (H : Heap) (lo : List Loc), Wo w g s.heap v H lo → (∀ k j : Nat, ¬ (k0 ≤ k ∧ k < k0 + 9) → v.1 k j = v.1 k j) → ∀ (ls : Array Slot), lv_has ls 6 [(0, .ref (wq w k0)), (2, .int 2)] → W pg l en (rmL 7) s m ar bl me cd H lo 0 0 (Zv w bl ar s post) (F0 m 10 ls []) := by
    intro H lo  I  rB10_Z ls hl
    refine lv_aload_n hx hb dX3_extend_10 rfl (lv_at hl 0 rfl) ?_
    refine lv_aload_n hx hb dX3_extend_11 rfl (lv_at hl 0 rfl) ?_
    refine g_Search_places E I h_k0.1 mw_1_239 dX3_extend_12 ?_
    refine lv_iload_n hx hb dX3_extend_15 rfl (lv_at hl 1 rfl) ?_
    refine ga_21 E I h_k0.2.1 (by decide) dX3_extend_16 ?_
    refine cVv E I (c_X3_judge l w g v k0 (k0 + 1 + (3 + (2 : Int32).toNatClampNeg)) E.2.2.1 I.2.2 h_k0 (h_k0.2.2.2.2 (2 : Int32).toNatClampNeg (by decide))  ) (cwV 1 E.1.2.2.2.2 (gWs (C := "StarWalk$Search") mw_3_237 mw_3_239 mw_s_21 mw_1_6 mw_4_0) rfl rfl rfl (by decide +kernel) ⟨by decide, by decide⟩) h_k0.1.1 ((ce_o h_k0.1.2).trans rfl) rfl rfl hl.1 rfl (Nat.le_of_ble_eq_true rfl) dX3_extend_17 ⟨Nat.le_refl _, Nat.le_refl _⟩ (fun u19 H lo hp hPS => ?_)
    obtain ⟨hp, hex, hfr⟩ := hp
    obtain ⟨hwf, p20⟩ := hp
    have I : Wo w g s.heap u19 H lo := ⟨hPS.1, hPS.2, hwf⟩
    have rzu19 : ∀ k j : Nat, ¬ (k0 ≤ k ∧ k < k0 + 9) → u19.1 k j = v.1 k j := fun k j h => (hfr k j (fun z => h (by have cl2 : (2 : Int32).toNatClampNeg = 2 := rfl; omega))).trans (rB10_Z k j h)
    exact rV E I hr hlk (by rw [← hpost]; exact ⟨⟨I.2.2, trivial⟩, trivial, rzu19⟩) dX3_extend_20
  refine lv_iload_n hx hb dX3_extend_0 rfl (lv_at hl 2 rfl) ?_
  refine lv_iload_n hx hb dX3_extend_1 rfl (lv_at hl 3 rfl) ?_
  refine bi_ge E (a := 2) (b := a1.toInt) rfl rfl (tgt := 10) dX3_extend_2 (by decide) (fun c21 => ?_) (fun c21 => ?_)
  ·
    exact B_10 _ _ I  rz0 ls (lv_sub hl [0, 2] rfl)
  ·
    refine lv_iload_n hx hb dX3_extend_5 rfl (lv_at hl 2 rfl) ?_
    refine lv_iconst (v := 4) hx hb dX3_extend_6 (by decide) ?_
    refine bi_lt E (a := 2) (b := 4) rfl rfl (tgt := 21) dX3_extend_7 (by decide) (fun c22 => ?_) (fun c22 => ?_)
    ·
      refine lv_iconst (v := 1) hx hb dX3_extend_21 (by decide) ?_
      refine lv_istore (lv' := [(4, .int 1), (0, .ref (wq w k0)), (1, .ref (wq w k1)), (2, .int 2), (3, .int a1)]) hx hb dX3_extend_22 hl (by decide) rfl (fun ls hl => ?_)
      refine lv_iconst (v := 0) hx hb dX3_extend_24 (by decide) ?_
      refine lv_istore (lv' := [(5, .int 0), (4, .int 1), (0, .ref (wq w k0)), (1, .ref (wq w k1)), (2, .int 2), (3, .int a1)]) hx hb dX3_extend_25 hl (by decide) rfl (fun ls hl => ?_)
      exact L_27 ((2147483647 - (0 : Int32).toInt).toNat + 1) _ _ v I (1 : Int32) (0 : Int32) (by decide) (by decide) (by omega) rz0 (Nat.lt_succ_self _) ls (lv_sub hl [2, 3, 4, 5, 1, 0] rfl)
    ·
      exfalso; omega
set_option maxHeartbeats 4000000 in
set_option maxRecDepth 100000 in
theorem c_X3_extend_v1 (l : Launch) (w : Wp) (g : Nat → Nat → Int32) (v : St) (k0 : Nat) (k1 : Nat) (a1 : Int32) (hq : Inj w) (hw : WF (wk w) g v) (h_k0 : oE w k0) (h_k1 : oN w k1) : CTv w l yX3_extend (wsy yX3_extend prog_5_method_3_code 6 none) (rmL 8) [.ref (wq w k0), .ref (wq w k1), .int 1, .int a1] v (fun (u : St) => (WF (wk w) g u ∧ True) ∧ (True) ∧ (∀ k j : Nat, ¬ (k0 ≤ k ∧ k < k0 + 9) → u.1 k j = v.1 k j)) := by
  generalize hpost : (fun (u : St) => (WF (wk w) g u ∧ True) ∧ (True) ∧ (∀ k j : Nat, ¬ (k0 ≤ k ∧ k < k0 + 9) → u.1 k j = v.1 k j)) = post
  refine CTv.of prog_5_method_3_code 6 none "StarWalk$Search" (by decide +kernel) rfl hq hw (Nat.le_of_ble_eq_true rfl) ?_
  intro pg en s m ar bl me cd ls E I hr hlk hl
  have hx := E.1.1
  have hb := E.1.2.1
  have hl : lv_has ls 6 [(0, .ref (wq w k0)), (1, .ref (wq w k1)), (2, .int 1), (3, .int a1)] := hl
  have rz0 : ∀ k j : Nat, ¬ (k0 ≤ k ∧ k < k0 + 9) → v.1 k j = v.1 k j := fun _ _ _ => rfl
  have L_27 : ∀ (n : Nat), ∀ (H : Heap) (lo : List Loc) (v_27 : St), Wo w g s.heap v_27 H lo → ∀ (y27_4 : Int32) (y27_5 : Int32), (0 ≤ y27_4.toInt ∧ y27_4.toInt ≤ 1) → (0 ≤ y27_5.toInt ∧ y27_5.toInt ≤ 7) → (2 ≤ a1.toInt) → (∀ k j : Nat, ¬ (k0 ≤ k ∧ k < k0 + 9) → v_27.1 k j = v.1 k j) → (2147483647 - y27_5.toInt).toNat < n → ∀ (ls : Array Slot), lv_has ls 6 [(0, .ref (wq w k0)), (1, .ref (wq w k1)), (2, .int 1), (3, .int a1), (4, .int y27_4), (5, .int y27_5)] → W pg l en (rmL 8) s m ar bl me cd H lo 0 0 (Zv w bl ar s post) (F0 m 27 ls []) := by
    intro n
    induction n with
    | zero => intro H lo v_27 I y27_4 y27_5 hy27_4 hy27_5 hE27_0 rB27_Z hm; exact absurd hm (Nat.not_lt_zero _)
    | succ n ih_27 =>
      intro H lo v_27 I y27_4 y27_5 hy27_4 hy27_5 hE27_0 rB27_Z hm ls hl
      have B_98 : ∀ (H : Heap) (lo : List Loc) (v_98 : St), Wo w g s.heap v_98 H lo → ∀ (y98_4 : Int32), (0 ≤ y98_4.toInt ∧ y98_4.toInt ≤ 1) → (2 ≤ a1.toInt) → (0 ≤ y27_5.toInt ∧ y27_5.toInt ≤ 6) → (∀ k j : Nat, ¬ (k0 ≤ k ∧ k < k0 + 9) → v_98.1 k j = v.1 k j) → ∀ (ls : Array Slot), lv_has ls 6 [(0, .ref (wq w k0)), (1, .ref (wq w k1)), (2, .int 1), (3, .int a1), (4, .int y98_4), (5, .int y27_5)] → W pg l en (rmL 8) s m ar bl me cd H lo 0 0 (Zv w bl ar s post) (F0 m 98 ls []) := by
        intro H lo v_98 I y98_4 hy98_4 hE98_0 hE98_1 rB98_Z ls hl
        obtain ⟨x1, ex1⟩ : ∃ z : Int32, z = y27_5 + 1 := ⟨_, rfl⟩
        have hx1 : x1.toInt = y27_5.toInt + (1) := by rw [ex1]; exact adI (a := y27_5.toInt) (b := 1) rfl rfl (by omega) (by omega)
        refine lv_iinc (v := x1) (lv' := [(5, .int x1), (0, .ref (wq w k0)), (1, .ref (wq w k1)), (2, .int 1), (3, .int a1), (4, .int y98_4)]) hx hb dX3_extend_98 hl (k := 5) rfl (by rw [ex1]; rfl) (by decide) rfl (fun ls hl => ?_)
        refine lv_goto (tgt := 27) hx hb dX3_extend_101 (by decide) ?_
        exact ih_27 _ _ v_98 I y98_4 x1 (by omega) (by omega) (by omega) rB98_Z (by omega) ls (lv_sub hl [1, 2, 3, 4, 5, 0] rfl)
      refine lv_iload hx hb dX3_extend_27 (lv_at hl 4 rfl) ?_
      refine bz_eq E (a := y27_4.toInt) rfl (tgt := 104) dX3_extend_29 (by decide) (fun c2 => ?_) (fun c2 => ?_)
      ·
        exact rV E I hr hlk (by rw [← hpost]; exact ⟨⟨I.2.2, trivial⟩, trivial, rB27_Z⟩) dX3_extend_104
      ·
        refine lv_iload hx hb dX3_extend_32 (lv_at hl 5 rfl) ?_
        refine lv_bipush (v := 7) hx hb dX3_extend_34 (by decide) ?_
        refine bi_ge E (a := y27_5.toInt) (b := 7) rfl rfl (tgt := 104) dX3_extend_36 (by decide) (fun c3 => ?_) (fun c3 => ?_)
        ·
          exact rV E I hr hlk (by rw [← hpost]; exact ⟨⟨I.2.2, trivial⟩, trivial, rB27_Z⟩) dX3_extend_104
        ·
          refine lv_aload_n hx hb dX3_extend_39 rfl (lv_at hl 1 rfl) ?_
          refine lv_iload hx hb dX3_extend_40 (lv_at hl 5 rfl) ?_
          refine cVi E I (c_X0_hasAim l w g v_27 k1 y27_5 E.2.2.1 I.2.2 h_k1  ) (cwV 1 E.1.2.2.2.2 (gWs (C := "StarWalk$Night") mw_4_3 mw_3_49 mw_3_50 mw_1_3 mw_3_51) rfl rfl rfl (by decide +kernel) ⟨by decide, by decide⟩) h_k1.1.1 ((ce_o h_k1.1.2).trans rfl) rfl rfl hl.1 rfl (Nat.le_of_ble_eq_true rfl) dX3_extend_42 ⟨Nat.le_refl _, Nat.le_refl _⟩ (fun r4 u5 H lo hp hPS => ?_)
          obtain ⟨hp, hex, hfr⟩ := hp
          obtain ⟨hu, p6⟩ := hp
          rw [hu] at hPS
          have I : Wo w g s.heap v_27 H lo := ⟨hPS.1, hPS.2, I.2.2⟩
          refine bz_eq E (a := r4.toInt) rfl (tgt := 98) dX3_extend_45 (by decide) (fun c7 => ?_) (fun c7 => ?_)
          ·
            exact B_98 _ _ v_27 I y27_4 (by omega) (by omega) (by omega) rB27_Z ls (lv_sub hl [0, 1, 2, 3, 4, 5] rfl)
          ·
            refine lv_aload_n hx hb dX3_extend_48 rfl (lv_at hl 0 rfl) ?_
            refine g_Search_row E I h_k0.1 mw_2_0 dX3_extend_49 ?_
            refine lv_iload_n hx hb dX3_extend_52 rfl (lv_at hl 2 rfl) ?_
            refine lv_iload hx hb dX3_extend_53 (lv_at hl 5 rfl) ?_
            refine pa_16 E I h_k0.2.2.1 (by decide) dX3_extend_55 (fun H lo I => ?_)
            generalize ev8 : up1 v_27 (k0 + 2) (1 : Int32).toNatClampNeg y27_5 = v8 at I
            have rzv8 : ∀ k j : Nat, ¬ (k0 ≤ k ∧ k < k0 + 9) → v8.1 k j = v.1 k j := fun k j h => fz_u ev8 (by have cl1 : (1 : Int32).toNatClampNeg = 1 := rfl; omega) (rB27_Z k j h)
            refine lv_aload_n hx hb dX3_extend_56 rfl (lv_at hl 0 rfl) ?_
            refine g_Search_places E I h_k0.1 mw_1_239 dX3_extend_57 ?_
            refine lv_iload_n hx hb dX3_extend_60 rfl (lv_at hl 2 rfl) ?_
            refine lv_iconst (v := 1) hx hb dX3_extend_61 (by decide) ?_
            refine lv_iadd hx hb dX3_extend_62 ?_
            refine lv_topi (fun x9 ex9 => ?_)
            obtain rfl : x9 = 2 := ex9.trans (by decide)
            refine ga_21 E I h_k0.2.1 (by decide) dX3_extend_63 ?_
            refine lv_aload_n hx hb dX3_extend_64 rfl (lv_at hl 0 rfl) ?_
            refine g_Search_places E I h_k0.1 mw_1_239 dX3_extend_65 ?_
            refine lv_iload_n hx hb dX3_extend_68 rfl (lv_at hl 2 rfl) ?_
            refine ga_21 E I h_k0.2.1 (by decide) dX3_extend_69 ?_
            refine cVv E I (c_X2_become l w g v8 (k0 + 1 + (3 + (2 : Int32).toNatClampNeg)) (k0 + 1 + (3 + (1 : Int32).toNatClampNeg)) E.2.2.1 I.2.2 (h_k0.2.2.2.2 (2 : Int32).toNatClampNeg (by decide)) (h_k0.2.2.2.2 (1 : Int32).toNatClampNeg (by decide))  ) (cwV 1 E.1.2.2.2.2 (gWs (C := "StarWalk$Place") mw_3_232 mw_3_61 mw_3_62 mw_1_4 mw_3_63) rfl rfl rfl (by decide +kernel) ⟨by decide, by decide⟩) (h_k0.2.2.2.2 (2 : Int32).toNatClampNeg (by decide)).1 ((ce_o (h_k0.2.2.2.2 (2 : Int32).toNatClampNeg (by decide)).2).trans rfl) rfl rfl hl.1 rfl (Nat.le_of_ble_eq_true rfl) dX3_extend_70 ⟨Nat.le_refl _, Nat.le_refl _⟩ (fun u10 H lo hp hPS => ?_)
            obtain ⟨hp, hex, hfr⟩ := hp
            obtain ⟨hwf, p11⟩ := hp
            have I : Wo w g s.heap u10 H lo := ⟨hPS.1, hPS.2, hwf⟩
            have rzu10 : ∀ k j : Nat, ¬ (k0 ≤ k ∧ k < k0 + 9) → u10.1 k j = v.1 k j := fun k j h => (hfr k j (fun z => h (by have cl1 : (1 : Int32).toNatClampNeg = 1 := rfl; have cl2 : (2 : Int32).toNatClampNeg = 2 := rfl; omega))).trans (rzv8 k j h)
            refine lv_aload_n hx hb dX3_extend_73 rfl (lv_at hl 1 rfl) ?_
            refine lv_aload_n hx hb dX3_extend_74 rfl (lv_at hl 0 rfl) ?_
            refine g_Search_places E I h_k0.1 mw_1_239 dX3_extend_75 ?_
            refine lv_iload_n hx hb dX3_extend_78 rfl (lv_at hl 2 rfl) ?_
            refine lv_iconst (v := 1) hx hb dX3_extend_79 (by decide) ?_
            refine lv_iadd hx hb dX3_extend_80 ?_
            refine lv_topi (fun x12 ex12 => ?_)
            obtain rfl : x12 = 2 := ex12.trans (by decide)
            refine ga_21 E I h_k0.2.1 (by decide) dX3_extend_81 ?_
            refine lv_iload hx hb dX3_extend_82 (lv_at hl 5 rfl) ?_
            refine cVi E I (c_X0_step l w g u10 k1 (k0 + 1 + (3 + (2 : Int32).toNatClampNeg)) y27_5 E.2.2.1 I.2.2 h_k1 (h_k0.2.2.2.2 (2 : Int32).toNatClampNeg (by decide))  ) (cwV 2 E.1.2.2.2.2 (gWs (C := "StarWalk$Night") mw_4_4 mw_3_177 mw_3_178 mw_1_3 mw_3_179) rfl rfl rfl (by decide +kernel) ⟨by decide, by decide⟩) h_k1.1.1 ((ce_o h_k1.1.2).trans rfl) rfl rfl hl.1 rfl (Nat.le_of_ble_eq_true rfl) dX3_extend_84 ⟨Nat.le_refl _, Nat.le_refl _⟩ (fun r13 u14 H lo hp hPS => ?_)
            obtain ⟨hp, hex, hfr⟩ := hp
            obtain ⟨hwf, p15⟩ := hp
            have I : Wo w g s.heap u14 H lo := ⟨hPS.1, hPS.2, hwf⟩
            have rzu14 : ∀ k j : Nat, ¬ (k0 ≤ k ∧ k < k0 + 9) → u14.1 k j = v.1 k j := fun k j h => (hfr k j (fun z => h (by have cl2 : (2 : Int32).toNatClampNeg = 2 := rfl; omega))).trans (rzu10 k j h)
            refine lv_istore (lv' := [(4, .int r13), (0, .ref (wq w k0)), (1, .ref (wq w k1)), (2, .int 1), (3, .int a1), (5, .int y27_5)]) hx hb dX3_extend_87 hl (by decide) rfl (fun ls hl => ?_)
            refine lv_aload_n hx hb dX3_extend_89 rfl (lv_at hl 1 rfl) ?_
            refine lv_aload_n hx hb dX3_extend_90 rfl (lv_at hl 2 rfl) ?_
            refine lv_iload_n hx hb dX3_extend_91 rfl (lv_at hl 3 rfl) ?_
            refine lv_iconst (v := 1) hx hb dX3_extend_92 (by decide) ?_
            refine lv_iadd hx hb dX3_extend_93 ?_
            refine lv_topi (fun x16 ex16 => ?_)
            obtain rfl : x16 = 2 := ex16.trans (by decide)
            refine lv_iload_n hx hb dX3_extend_94 rfl (lv_at hl 4 rfl) ?_
            refine cVv E I (c_X3_extend_v2 l w g u14 k0 k1 a1 E.2.2.1 I.2.2 h_k0 h_k1  ) (cwV 3 E.1.2.2.2.2 (gWs (C := "StarWalk$Search") mw_3_233 mw_3_235 mw_s_20 mw_1_6 mw_3_236) rfl rfl rfl (by decide +kernel) ⟨by decide, by decide⟩) h_k0.1.1 ((ce_o h_k0.1.2).trans rfl) rfl rfl hl.1 rfl (Nat.le_of_ble_eq_true rfl) dX3_extend_95 ⟨Nat.le_refl _, Nat.le_refl _⟩ (fun u17 H lo hp hPS => ?_)
            obtain ⟨hp, hex, hfr⟩ := hp
            obtain ⟨hwf, p18⟩ := hp
            have I : Wo w g s.heap u17 H lo := ⟨hPS.1, hPS.2, hwf⟩
            have rzu17 : ∀ k j : Nat, ¬ (k0 ≤ k ∧ k < k0 + 9) → u17.1 k j = v.1 k j := fun k j h => (hfr k j (fun z => h (by omega))).trans (rzu14 k j h)
            exact B_98 _ _ u17 I r13 (by omega) (by omega) (by omega) rzu17 ls (lv_sub hl [1, 2, 3, 4, 0, 5] rfl)
  have B_10 : ∀ (H : Heap) (lo : List Loc), Wo w g s.heap v H lo → (∀ k j : Nat, ¬ (k0 ≤ k ∧ k < k0 + 9) → v.1 k j = v.1 k j) → ∀ (ls : Array Slot), lv_has ls 6 [(0, .ref (wq w k0)), (2, .int 1)] → W pg l en (rmL 8) s m ar bl me cd H lo 0 0 (Zv w bl ar s post) (F0 m 10 ls []) := by
    intro H lo  I  rB10_Z ls hl
    refine lv_aload_n hx hb dX3_extend_10 rfl (lv_at hl 0 rfl) ?_
    refine lv_aload_n hx hb dX3_extend_11 rfl (lv_at hl 0 rfl) ?_
    refine g_Search_places E I h_k0.1 mw_1_239 dX3_extend_12 ?_
    refine lv_iload_n hx hb dX3_extend_15 rfl (lv_at hl 1 rfl) ?_
    refine ga_21 E I h_k0.2.1 (by decide) dX3_extend_16 ?_
    refine cVv E I (c_X3_judge l w g v k0 (k0 + 1 + (3 + (1 : Int32).toNatClampNeg)) E.2.2.1 I.2.2 h_k0 (h_k0.2.2.2.2 (1 : Int32).toNatClampNeg (by decide))  ) (cwV 1 E.1.2.2.2.2 (gWs (C := "StarWalk$Search") mw_3_237 mw_3_239 mw_s_21 mw_1_6 mw_4_0) rfl rfl rfl (by decide +kernel) ⟨by decide, by decide⟩) h_k0.1.1 ((ce_o h_k0.1.2).trans rfl) rfl rfl hl.1 rfl (Nat.le_of_ble_eq_true rfl) dX3_extend_17 ⟨Nat.le_refl _, Nat.le_refl _⟩ (fun u19 H lo hp hPS => ?_)
    obtain ⟨hp, hex, hfr⟩ := hp
    obtain ⟨hwf, p20⟩ := hp
    have I : Wo w g s.heap u19 H lo := ⟨hPS.1, hPS.2, hwf⟩
    have rzu19 : ∀ k j : Nat, ¬ (k0 ≤ k ∧ k < k0 + 9) → u19.1 k j = v.1 k j := fun k j h => (hfr k j (fun z => h (by have cl1 : (1 : Int32).toNatClampNeg = 1 := rfl; omega))).trans (rB10_Z k j h)
    exact rV E I hr hlk (by rw [← hpost]; exact ⟨⟨I.2.2, trivial⟩, trivial, rzu19⟩) dX3_extend_20
  refine lv_iload_n hx hb dX3_extend_0 rfl (lv_at hl 2 rfl) ?_
  refine lv_iload_n hx hb dX3_extend_1 rfl (lv_at hl 3 rfl) ?_
  refine bi_ge E (a := 1) (b := a1.toInt) rfl rfl (tgt := 10) dX3_extend_2 (by decide) (fun c21 => ?_) (fun c21 => ?_)
  ·
    exact B_10 _ _ I  rz0 ls (lv_sub hl [0, 2] rfl)
  ·
    refine lv_iload_n hx hb dX3_extend_5 rfl (lv_at hl 2 rfl) ?_
    refine lv_iconst (v := 4) hx hb dX3_extend_6 (by decide) ?_
    refine bi_lt E (a := 1) (b := 4) rfl rfl (tgt := 21) dX3_extend_7 (by decide) (fun c22 => ?_) (fun c22 => ?_)
    ·
      refine lv_iconst (v := 1) hx hb dX3_extend_21 (by decide) ?_
      refine lv_istore (lv' := [(4, .int 1), (0, .ref (wq w k0)), (1, .ref (wq w k1)), (2, .int 1), (3, .int a1)]) hx hb dX3_extend_22 hl (by decide) rfl (fun ls hl => ?_)
      refine lv_iconst (v := 0) hx hb dX3_extend_24 (by decide) ?_
      refine lv_istore (lv' := [(5, .int 0), (4, .int 1), (0, .ref (wq w k0)), (1, .ref (wq w k1)), (2, .int 1), (3, .int a1)]) hx hb dX3_extend_25 hl (by decide) rfl (fun ls hl => ?_)
      exact L_27 ((2147483647 - (0 : Int32).toInt).toNat + 1) _ _ v I (1 : Int32) (0 : Int32) (by decide) (by decide) (by omega) rz0 (Nat.lt_succ_self _) ls (lv_sub hl [2, 3, 4, 5, 1, 0] rfl)
    ·
      exfalso; omega
set_option maxHeartbeats 4000000 in
set_option maxRecDepth 100000 in
theorem c_X3_extend_v0 (l : Launch) (w : Wp) (g : Nat → Nat → Int32) (v : St) (k0 : Nat) (k1 : Nat) (a1 : Int32) (hq : Inj w) (hw : WF (wk w) g v) (h_k0 : oE w k0) (h_k1 : oN w k1) : CTv w l yX3_extend (wsy yX3_extend prog_5_method_3_code 6 none) (rmL 9) [.ref (wq w k0), .ref (wq w k1), .int 0, .int a1] v (fun (u : St) => (WF (wk w) g u ∧ True) ∧ (True) ∧ (∀ k j : Nat, ¬ (k0 ≤ k ∧ k < k0 + 9) → u.1 k j = v.1 k j)) := by
  generalize hpost : (fun (u : St) => (WF (wk w) g u ∧ True) ∧ (True) ∧ (∀ k j : Nat, ¬ (k0 ≤ k ∧ k < k0 + 9) → u.1 k j = v.1 k j)) = post
  refine CTv.of prog_5_method_3_code 6 none "StarWalk$Search" (by decide +kernel) rfl hq hw (Nat.le_of_ble_eq_true rfl) ?_
  intro pg en s m ar bl me cd ls E I hr hlk hl
  have hx := E.1.1
  have hb := E.1.2.1
  have hl : lv_has ls 6 [(0, .ref (wq w k0)), (1, .ref (wq w k1)), (2, .int 0), (3, .int a1)] := hl
  have rz0 : ∀ k j : Nat, ¬ (k0 ≤ k ∧ k < k0 + 9) → v.1 k j = v.1 k j := fun _ _ _ => rfl
  have L_27 : ∀ (n : Nat), ∀ (H : Heap) (lo : List Loc) (v_27 : St), Wo w g s.heap v_27 H lo → ∀ (y27_4 : Int32) (y27_5 : Int32), (0 ≤ y27_4.toInt ∧ y27_4.toInt ≤ 1) → (0 ≤ y27_5.toInt ∧ y27_5.toInt ≤ 7) → (1 ≤ a1.toInt) → (∀ k j : Nat, ¬ (k0 ≤ k ∧ k < k0 + 9) → v_27.1 k j = v.1 k j) → (2147483647 - y27_5.toInt).toNat < n → ∀ (ls : Array Slot), lv_has ls 6 [(0, .ref (wq w k0)), (1, .ref (wq w k1)), (2, .int 0), (3, .int a1), (4, .int y27_4), (5, .int y27_5)] → W pg l en (rmL 9) s m ar bl me cd H lo 0 0 (Zv w bl ar s post) (F0 m 27 ls []) := by
    intro n
    induction n with
    | zero => intro H lo v_27 I y27_4 y27_5 hy27_4 hy27_5 hE27_0 rB27_Z hm; exact absurd hm (Nat.not_lt_zero _)
    | succ n ih_27 =>
      intro H lo v_27 I y27_4 y27_5 hy27_4 hy27_5 hE27_0 rB27_Z hm ls hl
      have B_98 : ∀ (H : Heap) (lo : List Loc) (v_98 : St), Wo w g s.heap v_98 H lo → ∀ (y98_4 : Int32), (0 ≤ y98_4.toInt ∧ y98_4.toInt ≤ 1) → (1 ≤ a1.toInt) → (0 ≤ y27_5.toInt ∧ y27_5.toInt ≤ 6) → (∀ k j : Nat, ¬ (k0 ≤ k ∧ k < k0 + 9) → v_98.1 k j = v.1 k j) → ∀ (ls : Array Slot), lv_has ls 6 [(0, .ref (wq w k0)), (1, .ref (wq w k1)), (2, .int 0), (3, .int a1), (4, .int y98_4), (5, .int y27_5)] → W pg l en (rmL 9) s m ar bl me cd H lo 0 0 (Zv w bl ar s post) (F0 m 98 ls []) := by
        intro H lo v_98 I y98_4 hy98_4 hE98_0 hE98_1 rB98_Z ls hl
        obtain ⟨x1, ex1⟩ : ∃ z : Int32, z = y27_5 + 1 := ⟨_, rfl⟩
        have hx1 : x1.toInt = y27_5.toInt + (1) := by rw [ex1]; exact adI (a := y27_5.toInt) (b := 1) rfl rfl (by omega) (by omega)
        refine lv_iinc (v := x1) (lv' := [(5, .int x1), (0, .ref (wq w k0)), (1, .ref (wq w k1)), (2, .int 0), (3, .int a1), (4, .int y98_4)]) hx hb dX3_extend_98 hl (k := 5) rfl (by rw [ex1]; rfl) (by decide) rfl (fun ls hl => ?_)
        refine lv_goto (tgt := 27) hx hb dX3_extend_101 (by decide) ?_
        exact ih_27 _ _ v_98 I y98_4 x1 (by omega) (by omega) (by omega) rB98_Z (by omega) ls (lv_sub hl [1, 2, 3, 4, 5, 0] rfl)
      refine lv_iload hx hb dX3_extend_27 (lv_at hl 4 rfl) ?_
      refine bz_eq E (a := y27_4.toInt) rfl (tgt := 104) dX3_extend_29 (by decide) (fun c2 => ?_) (fun c2 => ?_)
      ·
        exact rV E I hr hlk (by rw [← hpost]; exact ⟨⟨I.2.2, trivial⟩, trivial, rB27_Z⟩) dX3_extend_104
      ·
        refine lv_iload hx hb dX3_extend_32 (lv_at hl 5 rfl) ?_
        refine lv_bipush (v := 7) hx hb dX3_extend_34 (by decide) ?_
        refine bi_ge E (a := y27_5.toInt) (b := 7) rfl rfl (tgt := 104) dX3_extend_36 (by decide) (fun c3 => ?_) (fun c3 => ?_)
        ·
          exact rV E I hr hlk (by rw [← hpost]; exact ⟨⟨I.2.2, trivial⟩, trivial, rB27_Z⟩) dX3_extend_104
        ·
          refine lv_aload_n hx hb dX3_extend_39 rfl (lv_at hl 1 rfl) ?_
          refine lv_iload hx hb dX3_extend_40 (lv_at hl 5 rfl) ?_
          refine cVi E I (c_X0_hasAim l w g v_27 k1 y27_5 E.2.2.1 I.2.2 h_k1  ) (cwV 1 E.1.2.2.2.2 (gWs (C := "StarWalk$Night") mw_4_3 mw_3_49 mw_3_50 mw_1_3 mw_3_51) rfl rfl rfl (by decide +kernel) ⟨by decide, by decide⟩) h_k1.1.1 ((ce_o h_k1.1.2).trans rfl) rfl rfl hl.1 rfl (Nat.le_of_ble_eq_true rfl) dX3_extend_42 ⟨Nat.le_refl _, Nat.le_refl _⟩ (fun r4 u5 H lo hp hPS => ?_)
          obtain ⟨hp, hex, hfr⟩ := hp
          obtain ⟨hu, p6⟩ := hp
          rw [hu] at hPS
          have I : Wo w g s.heap v_27 H lo := ⟨hPS.1, hPS.2, I.2.2⟩
          refine bz_eq E (a := r4.toInt) rfl (tgt := 98) dX3_extend_45 (by decide) (fun c7 => ?_) (fun c7 => ?_)
          ·
            exact B_98 _ _ v_27 I y27_4 (by omega) (by omega) (by omega) rB27_Z ls (lv_sub hl [0, 1, 2, 3, 4, 5] rfl)
          ·
            refine lv_aload_n hx hb dX3_extend_48 rfl (lv_at hl 0 rfl) ?_
            refine g_Search_row E I h_k0.1 mw_2_0 dX3_extend_49 ?_
            refine lv_iload_n hx hb dX3_extend_52 rfl (lv_at hl 2 rfl) ?_
            refine lv_iload hx hb dX3_extend_53 (lv_at hl 5 rfl) ?_
            refine pa_16 E I h_k0.2.2.1 (by decide) dX3_extend_55 (fun H lo I => ?_)
            generalize ev8 : up1 v_27 (k0 + 2) (0 : Int32).toNatClampNeg y27_5 = v8 at I
            have rzv8 : ∀ k j : Nat, ¬ (k0 ≤ k ∧ k < k0 + 9) → v8.1 k j = v.1 k j := fun k j h => fz_u ev8 (by have cl0 : (0 : Int32).toNatClampNeg = 0 := rfl; omega) (rB27_Z k j h)
            refine lv_aload_n hx hb dX3_extend_56 rfl (lv_at hl 0 rfl) ?_
            refine g_Search_places E I h_k0.1 mw_1_239 dX3_extend_57 ?_
            refine lv_iload_n hx hb dX3_extend_60 rfl (lv_at hl 2 rfl) ?_
            refine lv_iconst (v := 1) hx hb dX3_extend_61 (by decide) ?_
            refine lv_iadd hx hb dX3_extend_62 ?_
            refine lv_topi (fun x9 ex9 => ?_)
            obtain rfl : x9 = 1 := ex9.trans (by decide)
            refine ga_21 E I h_k0.2.1 (by decide) dX3_extend_63 ?_
            refine lv_aload_n hx hb dX3_extend_64 rfl (lv_at hl 0 rfl) ?_
            refine g_Search_places E I h_k0.1 mw_1_239 dX3_extend_65 ?_
            refine lv_iload_n hx hb dX3_extend_68 rfl (lv_at hl 2 rfl) ?_
            refine ga_21 E I h_k0.2.1 (by decide) dX3_extend_69 ?_
            refine cVv E I (c_X2_become l w g v8 (k0 + 1 + (3 + (1 : Int32).toNatClampNeg)) (k0 + 1 + (3 + (0 : Int32).toNatClampNeg)) E.2.2.1 I.2.2 (h_k0.2.2.2.2 (1 : Int32).toNatClampNeg (by decide)) (h_k0.2.2.2.2 (0 : Int32).toNatClampNeg (by decide))  ) (cwV 1 E.1.2.2.2.2 (gWs (C := "StarWalk$Place") mw_3_232 mw_3_61 mw_3_62 mw_1_4 mw_3_63) rfl rfl rfl (by decide +kernel) ⟨by decide, by decide⟩) (h_k0.2.2.2.2 (1 : Int32).toNatClampNeg (by decide)).1 ((ce_o (h_k0.2.2.2.2 (1 : Int32).toNatClampNeg (by decide)).2).trans rfl) rfl rfl hl.1 rfl (Nat.le_of_ble_eq_true rfl) dX3_extend_70 ⟨Nat.le_refl _, Nat.le_refl _⟩ (fun u10 H lo hp hPS => ?_)
            obtain ⟨hp, hex, hfr⟩ := hp
            obtain ⟨hwf, p11⟩ := hp
            have I : Wo w g s.heap u10 H lo := ⟨hPS.1, hPS.2, hwf⟩
            have rzu10 : ∀ k j : Nat, ¬ (k0 ≤ k ∧ k < k0 + 9) → u10.1 k j = v.1 k j := fun k j h => (hfr k j (fun z => h (by have cl0 : (0 : Int32).toNatClampNeg = 0 := rfl; have cl1 : (1 : Int32).toNatClampNeg = 1 := rfl; omega))).trans (rzv8 k j h)
            refine lv_aload_n hx hb dX3_extend_73 rfl (lv_at hl 1 rfl) ?_
            refine lv_aload_n hx hb dX3_extend_74 rfl (lv_at hl 0 rfl) ?_
            refine g_Search_places E I h_k0.1 mw_1_239 dX3_extend_75 ?_
            refine lv_iload_n hx hb dX3_extend_78 rfl (lv_at hl 2 rfl) ?_
            refine lv_iconst (v := 1) hx hb dX3_extend_79 (by decide) ?_
            refine lv_iadd hx hb dX3_extend_80 ?_
            refine lv_topi (fun x12 ex12 => ?_)
            obtain rfl : x12 = 1 := ex12.trans (by decide)
            refine ga_21 E I h_k0.2.1 (by decide) dX3_extend_81 ?_
            refine lv_iload hx hb dX3_extend_82 (lv_at hl 5 rfl) ?_
            refine cVi E I (c_X0_step l w g u10 k1 (k0 + 1 + (3 + (1 : Int32).toNatClampNeg)) y27_5 E.2.2.1 I.2.2 h_k1 (h_k0.2.2.2.2 (1 : Int32).toNatClampNeg (by decide))  ) (cwV 2 E.1.2.2.2.2 (gWs (C := "StarWalk$Night") mw_4_4 mw_3_177 mw_3_178 mw_1_3 mw_3_179) rfl rfl rfl (by decide +kernel) ⟨by decide, by decide⟩) h_k1.1.1 ((ce_o h_k1.1.2).trans rfl) rfl rfl hl.1 rfl (Nat.le_of_ble_eq_true rfl) dX3_extend_84 ⟨Nat.le_refl _, Nat.le_refl _⟩ (fun r13 u14 H lo hp hPS => ?_)
            obtain ⟨hp, hex, hfr⟩ := hp
            obtain ⟨hwf, p15⟩ := hp
            have I : Wo w g s.heap u14 H lo := ⟨hPS.1, hPS.2, hwf⟩
            have rzu14 : ∀ k j : Nat, ¬ (k0 ≤ k ∧ k < k0 + 9) → u14.1 k j = v.1 k j := fun k j h => (hfr k j (fun z => h (by have cl1 : (1 : Int32).toNatClampNeg = 1 := rfl; omega))).trans (rzu10 k j h)
            refine lv_istore (lv' := [(4, .int r13), (0, .ref (wq w k0)), (1, .ref (wq w k1)), (2, .int 0), (3, .int a1), (5, .int y27_5)]) hx hb dX3_extend_87 hl (by decide) rfl (fun ls hl => ?_)
            refine lv_aload_n hx hb dX3_extend_89 rfl (lv_at hl 1 rfl) ?_
            refine lv_aload_n hx hb dX3_extend_90 rfl (lv_at hl 2 rfl) ?_
            refine lv_iload_n hx hb dX3_extend_91 rfl (lv_at hl 3 rfl) ?_
            refine lv_iconst (v := 1) hx hb dX3_extend_92 (by decide) ?_
            refine lv_iadd hx hb dX3_extend_93 ?_
            refine lv_topi (fun x16 ex16 => ?_)
            obtain rfl : x16 = 1 := ex16.trans (by decide)
            refine lv_iload_n hx hb dX3_extend_94 rfl (lv_at hl 4 rfl) ?_
            refine cVv E I (c_X3_extend_v1 l w g u14 k0 k1 a1 E.2.2.1 I.2.2 h_k0 h_k1  ) (cwV 3 E.1.2.2.2.2 (gWs (C := "StarWalk$Search") mw_3_233 mw_3_235 mw_s_20 mw_1_6 mw_3_236) rfl rfl rfl (by decide +kernel) ⟨by decide, by decide⟩) h_k0.1.1 ((ce_o h_k0.1.2).trans rfl) rfl rfl hl.1 rfl (Nat.le_of_ble_eq_true rfl) dX3_extend_95 ⟨Nat.le_refl _, Nat.le_refl _⟩ (fun u17 H lo hp hPS => ?_)
            obtain ⟨hp, hex, hfr⟩ := hp
            obtain ⟨hwf, p18⟩ := hp
            have I : Wo w g s.heap u17 H lo := ⟨hPS.1, hPS.2, hwf⟩
            have rzu17 : ∀ k j : Nat, ¬ (k0 ≤ k ∧ k < k0 + 9) → u17.1 k j = v.1 k j := fun k j h => (hfr k j (fun z => h (by omega))).trans (rzu14 k j h)
            exact B_98 _ _ u17 I r13 (by omega) (by omega) (by omega) rzu17 ls (lv_sub hl [1, 2, 3, 4, 0, 5] rfl)
  have B_10 : ∀ (H : Heap) (lo : List Loc), Wo w g s.heap v H lo → (∀ k j : Nat, ¬ (k0 ≤ k ∧ k < k0 + 9) → v.1 k j = v.1 k j) → ∀ (ls : Array Slot), lv_has ls 6 [(0, .ref (wq w k0)), (2, .int 0)] → W pg l en (rmL 9) s m ar bl me cd H lo 0 0 (Zv w bl ar s post) (F0 m 10 ls []) := by
    intro H lo  I  rB10_Z ls hl
    refine lv_aload_n hx hb dX3_extend_10 rfl (lv_at hl 0 rfl) ?_
    refine lv_aload_n hx hb dX3_extend_11 rfl (lv_at hl 0 rfl) ?_
    refine g_Search_places E I h_k0.1 mw_1_239 dX3_extend_12 ?_
    refine lv_iload_n hx hb dX3_extend_15 rfl (lv_at hl 1 rfl) ?_
    refine ga_21 E I h_k0.2.1 (by decide) dX3_extend_16 ?_
    refine cVv E I (c_X3_judge l w g v k0 (k0 + 1 + (3 + (0 : Int32).toNatClampNeg)) E.2.2.1 I.2.2 h_k0 (h_k0.2.2.2.2 (0 : Int32).toNatClampNeg (by decide))  ) (cwV 1 E.1.2.2.2.2 (gWs (C := "StarWalk$Search") mw_3_237 mw_3_239 mw_s_21 mw_1_6 mw_4_0) rfl rfl rfl (by decide +kernel) ⟨by decide, by decide⟩) h_k0.1.1 ((ce_o h_k0.1.2).trans rfl) rfl rfl hl.1 rfl (Nat.le_of_ble_eq_true rfl) dX3_extend_17 ⟨Nat.le_refl _, Nat.le_refl _⟩ (fun u19 H lo hp hPS => ?_)
    obtain ⟨hp, hex, hfr⟩ := hp
    obtain ⟨hwf, p20⟩ := hp
    have I : Wo w g s.heap u19 H lo := ⟨hPS.1, hPS.2, hwf⟩
    have rzu19 : ∀ k j : Nat, ¬ (k0 ≤ k ∧ k < k0 + 9) → u19.1 k j = v.1 k j := fun k j h => (hfr k j (fun z => h (by have cl0 : (0 : Int32).toNatClampNeg = 0 := rfl; omega))).trans (rB10_Z k j h)
    exact rV E I hr hlk (by rw [← hpost]; exact ⟨⟨I.2.2, trivial⟩, trivial, rzu19⟩) dX3_extend_20
  refine lv_iload_n hx hb dX3_extend_0 rfl (lv_at hl 2 rfl) ?_
  refine lv_iload_n hx hb dX3_extend_1 rfl (lv_at hl 3 rfl) ?_
  refine bi_ge E (a := 0) (b := a1.toInt) rfl rfl (tgt := 10) dX3_extend_2 (by decide) (fun c21 => ?_) (fun c21 => ?_)
  ·
    exact B_10 _ _ I  rz0 ls (lv_sub hl [0, 2] rfl)
  ·
    refine lv_iload_n hx hb dX3_extend_5 rfl (lv_at hl 2 rfl) ?_
    refine lv_iconst (v := 4) hx hb dX3_extend_6 (by decide) ?_
    refine bi_lt E (a := 0) (b := 4) rfl rfl (tgt := 21) dX3_extend_7 (by decide) (fun c22 => ?_) (fun c22 => ?_)
    ·
      refine lv_iconst (v := 1) hx hb dX3_extend_21 (by decide) ?_
      refine lv_istore (lv' := [(4, .int 1), (0, .ref (wq w k0)), (1, .ref (wq w k1)), (2, .int 0), (3, .int a1)]) hx hb dX3_extend_22 hl (by decide) rfl (fun ls hl => ?_)
      refine lv_iconst (v := 0) hx hb dX3_extend_24 (by decide) ?_
      refine lv_istore (lv' := [(5, .int 0), (4, .int 1), (0, .ref (wq w k0)), (1, .ref (wq w k1)), (2, .int 0), (3, .int a1)]) hx hb dX3_extend_25 hl (by decide) rfl (fun ls hl => ?_)
      exact L_27 ((2147483647 - (0 : Int32).toInt).toNat + 1) _ _ v I (1 : Int32) (0 : Int32) (by decide) (by decide) (by omega) rz0 (Nat.lt_succ_self _) ls (lv_sub hl [2, 3, 4, 5, 1, 0] rfl)
    ·
      exfalso; omega
set_option maxHeartbeats 4000000 in
set_option maxRecDepth 100000 in
theorem c_X3_findBest (l : Launch) (w : Wp) (g : Nat → Nat → Int32) (v : St) (k0 : Nat) (k1 : Nat) (a0 : Int32) (hq : Inj w) (hw : WF (wk w) g v) (h_k0 : oE w k0) (h_k1 : oN w k1) : CTv w l yX3_findBest (wsy yX3_findBest prog_5_method_2_code 3 none) (rmL 10) [.ref (wq w k0), .ref (wq w k1), .int a0] v (fun (u : St) => (WF (wk w) g u ∧ True) ∧ (True) ∧ (∀ k j : Nat, ¬ (k0 ≤ k ∧ k < k0 + 9) → u.1 k j = v.1 k j)) := by
  generalize hpost : (fun (u : St) => (WF (wk w) g u ∧ True) ∧ (True) ∧ (∀ k j : Nat, ¬ (k0 ≤ k ∧ k < k0 + 9) → u.1 k j = v.1 k j)) = post
  refine CTv.of prog_5_method_2_code 3 none "StarWalk$Search" (by decide +kernel) rfl hq hw (Nat.le_of_ble_eq_true rfl) ?_
  intro pg en s m ar bl me cd ls E I hr hlk hl
  have hx := E.1.1
  have hb := E.1.2.1
  have hl : lv_has ls 3 [(0, .ref (wq w k0)), (1, .ref (wq w k1)), (2, .int a0)] := hl
  have rz0 : ∀ k j : Nat, ¬ (k0 ≤ k ∧ k < k0 + 9) → v.1 k j = v.1 k j := fun _ _ _ => rfl
  refine lv_aload_n hx hb dX3_findBest_0 rfl (lv_at hl 0 rfl) ?_
  refine lv_iconst (v := 0) hx hb dX3_findBest_1 (by decide) ?_
  refine p_Search_found E I h_k0.1 mw_2_7 (b01 (by decide)) dX3_findBest_2 (fun H lo I => ?_)
  generalize ev1 : up1 v k0 5 (0 : Int32) = v1 at I
  have rzv1 : ∀ k j : Nat, ¬ (k0 ≤ k ∧ k < k0 + 9) → v1.1 k j = v.1 k j := fun k j h => fz_u ev1 (by omega) (rz0 k j h)
  refine lv_aload_n hx hb dX3_findBest_5 rfl (lv_at hl 0 rfl) ?_
  refine g_Search_places E I h_k0.1 mw_1_239 dX3_findBest_6 ?_
  refine lv_iconst (v := 0) hx hb dX3_findBest_9 (by decide) ?_
  refine ga_21 E I h_k0.2.1 (by decide) dX3_findBest_10 ?_
  refine lv_aload_n hx hb dX3_findBest_11 rfl (lv_at hl 1 rfl) ?_
  refine g_Night_place E I h_k1.1 mw_1_110 dX3_findBest_12 ?_
  refine cVv E I (c_X2_become l w g v1 (k0 + 1 + (3 + (0 : Int32).toNatClampNeg)) (k1 + 5) E.2.2.1 I.2.2 (h_k0.2.2.2.2 (0 : Int32).toNatClampNeg (by decide)) h_k1.2.2.2.2.2.1  ) (cwV 1 E.1.2.2.2.2 (gWs (C := "StarWalk$Place") mw_3_232 mw_3_61 mw_3_62 mw_1_4 mw_3_63) rfl rfl rfl (by decide +kernel) ⟨by decide, by decide⟩) (h_k0.2.2.2.2 (0 : Int32).toNatClampNeg (by decide)).1 ((ce_o (h_k0.2.2.2.2 (0 : Int32).toNatClampNeg (by decide)).2).trans rfl) rfl rfl hl.1 rfl (Nat.le_of_ble_eq_true rfl) dX3_findBest_15 ⟨Nat.le_refl _, Nat.le_refl _⟩ (fun u2 H lo hp hPS => ?_)
  obtain ⟨hp, hex, hfr⟩ := hp
  obtain ⟨hwf, p3⟩ := hp
  have I : Wo w g s.heap u2 H lo := ⟨hPS.1, hPS.2, hwf⟩
  have rzu2 : ∀ k j : Nat, ¬ (k0 ≤ k ∧ k < k0 + 9) → u2.1 k j = v.1 k j := fun k j h => (hfr k j (fun z => h (by have cl0 : (0 : Int32).toNatClampNeg = 0 := rfl; omega))).trans (rzv1 k j h)
  refine lv_aload_n hx hb dX3_findBest_18 rfl (lv_at hl 0 rfl) ?_
  refine lv_aload_n hx hb dX3_findBest_19 rfl (lv_at hl 1 rfl) ?_
  refine lv_iconst (v := 0) hx hb dX3_findBest_20 (by decide) ?_
  refine lv_iload_n hx hb dX3_findBest_21 rfl (lv_at hl 2 rfl) ?_
  refine cVv E I (c_X3_extend_v0 l w g u2 k0 k1 a0 E.2.2.1 I.2.2 h_k0 h_k1  ) (cwV 3 E.1.2.2.2.2 (gWs (C := "StarWalk$Search") mw_3_233 mw_3_235 mw_s_20 mw_1_6 mw_3_236) rfl rfl rfl (by decide +kernel) ⟨by decide, by decide⟩) h_k0.1.1 ((ce_o h_k0.1.2).trans rfl) rfl rfl hl.1 rfl (Nat.le_of_ble_eq_true rfl) dX3_findBest_22 ⟨Nat.le_refl _, Nat.le_refl _⟩ (fun u4 H lo hp hPS => ?_)
  obtain ⟨hp, hex, hfr⟩ := hp
  obtain ⟨hwf, p5⟩ := hp
  have I : Wo w g s.heap u4 H lo := ⟨hPS.1, hPS.2, hwf⟩
  have rzu4 : ∀ k j : Nat, ¬ (k0 ≤ k ∧ k < k0 + 9) → u4.1 k j = v.1 k j := fun k j h => (hfr k j (fun z => h (by omega))).trans (rzu2 k j h)
  exact rV E I hr hlk (by rw [← hpost]; exact ⟨⟨I.2.2, trivial⟩, trivial, rzu4⟩) dX3_findBest_25
