set_option maxHeartbeats 4000000 in
set_option maxRecDepth 100000 in
theorem oW0 {D : va_G} {cy : Nat → ClassId} {q sa sv : Nat → Nat} : oW (D, cy, 91, q, kz ks7, sa, sv) 0 := by
  refine ⟨⟨by exact Nat.le_of_ble_eq_true rfl, rfl⟩, ⟨⟨by exact Nat.le_of_ble_eq_true rfl, rfl⟩, ⟨by exact Nat.le_of_ble_eq_true rfl, rfl⟩, ⟨⟨by exact Nat.le_of_ble_eq_true rfl, rfl⟩, ⟨by exact Nat.le_of_ble_eq_true rfl, rfl⟩, ⟨by exact Nat.le_of_ble_eq_true rfl, rfl⟩, ⟨by exact Nat.le_of_ble_eq_true rfl, rfl⟩, ⟨by exact Nat.le_of_ble_eq_true rfl, rfl⟩, ⟨by exact Nat.le_of_ble_eq_true rfl, rfl⟩, ⟨by exact Nat.le_of_ble_eq_true rfl, rfl⟩, ⟨by exact Nat.le_of_ble_eq_true rfl, rfl⟩, ⟨by exact Nat.le_of_ble_eq_true rfl, rfl⟩⟩⟩, ⟨⟨by exact Nat.le_of_ble_eq_true rfl, rfl⟩, ⟨by exact Nat.le_of_ble_eq_true rfl, rfl⟩, ⟨by exact Nat.le_of_ble_eq_true rfl, rfl⟩, ⟨by exact Nat.le_of_ble_eq_true rfl, rfl⟩, ⟨by exact Nat.le_of_ble_eq_true rfl, rfl⟩, ⟨by exact Nat.le_of_ble_eq_true rfl, rfl⟩, ⟨by exact Nat.le_of_ble_eq_true rfl, rfl⟩, ⟨by exact Nat.le_of_ble_eq_true rfl, rfl⟩, ⟨by exact Nat.le_of_ble_eq_true rfl, rfl⟩⟩, ⟨⟨by exact Nat.le_of_ble_eq_true rfl, rfl⟩, ⟨⟨by exact Nat.le_of_ble_eq_true rfl, rfl⟩, ⟨by exact Nat.le_of_ble_eq_true rfl, rfl⟩, ⟨by exact Nat.le_of_ble_eq_true rfl, rfl⟩, ⟨by exact Nat.le_of_ble_eq_true rfl, rfl⟩, ⟨by exact Nat.le_of_ble_eq_true rfl, rfl⟩, ⟨by exact Nat.le_of_ble_eq_true rfl, rfl⟩, ⟨by exact Nat.le_of_ble_eq_true rfl, rfl⟩, ⟨by exact Nat.le_of_ble_eq_true rfl, rfl⟩, ⟨by exact Nat.le_of_ble_eq_true rfl, rfl⟩⟩, ⟨by exact Nat.le_of_ble_eq_true rfl, rfl⟩⟩, ?_, ?_, ⟨by exact Nat.le_of_ble_eq_true rfl, rfl⟩, ⟨by exact Nat.le_of_ble_eq_true rfl, rfl⟩, ⟨by exact Nat.le_of_ble_eq_true rfl, rfl⟩, ⟨by exact Nat.le_of_ble_eq_true rfl, rfl⟩, ?_, ?_⟩
  · exact ⟨⟨by exact Nat.le_of_ble_eq_true rfl, rfl⟩, ⟨by exact Nat.le_of_ble_eq_true rfl, rfl⟩, ⟨by exact Nat.le_of_ble_eq_true rfl, rfl⟩, ⟨by exact Nat.le_of_ble_eq_true rfl, rfl⟩, (fun i hi => by rcases (show i = 0 ∨ i = 1 ∨ i = 2 ∨ i = 3 ∨ i = 4 by omega) with rfl | rfl | rfl | rfl | rfl <;> exact ⟨by exact Nat.le_of_ble_eq_true rfl, rfl⟩)⟩
  · exact ⟨⟨by exact Nat.le_of_ble_eq_true rfl, rfl⟩, ⟨⟨by exact Nat.le_of_ble_eq_true rfl, rfl⟩, ⟨by exact Nat.le_of_ble_eq_true rfl, rfl⟩, ⟨by exact Nat.le_of_ble_eq_true rfl, rfl⟩, ⟨by exact Nat.le_of_ble_eq_true rfl, rfl⟩, ⟨by exact Nat.le_of_ble_eq_true rfl, rfl⟩, ⟨by exact Nat.le_of_ble_eq_true rfl, rfl⟩, ⟨by exact Nat.le_of_ble_eq_true rfl, rfl⟩, ⟨by exact Nat.le_of_ble_eq_true rfl, rfl⟩, ⟨by exact Nat.le_of_ble_eq_true rfl, rfl⟩⟩, ⟨by exact Nat.le_of_ble_eq_true rfl, rfl⟩, (fun i hi => by rcases (show i = 0 ∨ i = 1 ∨ i = 2 ∨ i = 3 ∨ i = 4 ∨ i = 5 ∨ i = 6 ∨ i = 7 ∨ i = 8 by omega) with rfl | rfl | rfl | rfl | rfl | rfl | rfl | rfl | rfl <;> exact ⟨by exact Nat.le_of_ble_eq_true rfl, rfl⟩)⟩
  · exact fun i hi => by rcases (show i = 0 ∨ i = 1 by omega) with rfl | rfl <;> exact ⟨⟨by exact Nat.le_of_ble_eq_true rfl, rfl⟩, ⟨by exact Nat.le_of_ble_eq_true rfl, rfl⟩, ⟨by exact Nat.le_of_ble_eq_true rfl, rfl⟩, ⟨by exact Nat.le_of_ble_eq_true rfl, rfl⟩, ⟨by exact Nat.le_of_ble_eq_true rfl, rfl⟩, ⟨by exact Nat.le_of_ble_eq_true rfl, rfl⟩, ⟨by exact Nat.le_of_ble_eq_true rfl, rfl⟩, ⟨by exact Nat.le_of_ble_eq_true rfl, rfl⟩, ⟨by exact Nat.le_of_ble_eq_true rfl, rfl⟩⟩
  · exact fun i hi => by rcases (show i = 0 ∨ i = 1 ∨ i = 2 ∨ i = 3 by omega) with rfl | rfl | rfl | rfl <;> exact ⟨⟨by exact Nat.le_of_ble_eq_true rfl, rfl⟩, ⟨by exact Nat.le_of_ble_eq_true rfl, rfl⟩⟩
set_option maxHeartbeats 4000000 in
set_option maxRecDepth 100000 in
theorem oM0 {D : va_G} {cy : Nat → ClassId} {q sa sv : Nat → Nat} : oM (D, cy, 10, q, kz ks8, sa, sv) 0 := ⟨⟨by exact Nat.le_of_ble_eq_true rfl, rfl⟩, ⟨by exact Nat.le_of_ble_eq_true rfl, rfl⟩, ⟨by exact Nat.le_of_ble_eq_true rfl, rfl⟩, ⟨by exact Nat.le_of_ble_eq_true rfl, rfl⟩, ⟨by exact Nat.le_of_ble_eq_true rfl, rfl⟩, ⟨by exact Nat.le_of_ble_eq_true rfl, rfl⟩, ⟨by exact Nat.le_of_ble_eq_true rfl, rfl⟩, ⟨by exact Nat.le_of_ble_eq_true rfl, rfl⟩, ⟨by exact Nat.le_of_ble_eq_true rfl, rfl⟩, ⟨by exact Nat.le_of_ble_eq_true rfl, rfl⟩⟩
def tmS (i : Nat) : Term := .string "StarWalk$Tape" (([75, 84, 88, 94, 96, 98, 100, 105, 110, 115, 120] : List Nat).getD i 0)
set_option maxHeartbeats 4000000 in
set_option maxRecDepth 100000 in
theorem st_len : ∀ i : Nat, i < 11 → sln.getD i 0 < 2 ^ 31 := by decide +kernel
set_option maxHeartbeats 4000000 in
set_option maxRecDepth 100000 in
theorem st_ex : ∀ i : Nat, i < 11 → Cond.exactly (tmS i) "java/lang/String" ∈ flatC (Jvm.Cond.and given_1 narrow_1) := by decide +kernel
set_option maxHeartbeats 4000000 in
set_option maxRecDepth 100000 in
theorem st_co : ∀ i : Nat, i < 11 → Cond.eq (.field (tmS i) "java/lang/String" "coder" "B") (.int 0) ∈ flatC (Jvm.Cond.and given_1 narrow_1) := by decide +kernel
set_option maxHeartbeats 4000000 in
set_option maxRecDepth 100000 in
theorem st_ar : ∀ i : Nat, i < 11 → Cond.arrayOf (.field (tmS i) "java/lang/String" "value" "[B") .byte ∈ flatC (Jvm.Cond.and given_1 narrow_1) := by decide +kernel
set_option maxHeartbeats 4000000 in
set_option maxRecDepth 100000 in
theorem st_le : ∀ i : Nat, i < 11 → Cond.eq (.length (.field (tmS i) "java/lang/String" "value" "[B")) (.int (Int32.ofNat (sln.getD i 0))) ∈ flatC (Jvm.Cond.and given_1 narrow_1) := by decide +kernel
set_option maxHeartbeats 4000000 in
set_option maxRecDepth 100000 in
theorem st_el : ∀ i : Nat, i < 11 → ∀ j : Nat, j < sln.getD i 0 → Cond.eq (.elem (.field (tmS i) "java/lang/String" "value" "[B") (.int (Int32.ofNat j))) (.int ((sbt.getD i []).getD j 0)) ∈ flatC (Jvm.Cond.and given_1 narrow_1) := by decide +kernel
def ixS (i : Nat) : Nat := ([75, 84, 88, 94, 96, 98, 100, 105, 110, 115, 120] : List Nat).getD i 0
def prS (c : Jvm.Cond) : Option (Nat × Nat) := match c with
  | .not (.eq (.string _ a) (.string _ b)) => some (a, b)
  | _ => none
def okS (c : Jvm.Cond) : Bool := match c with
  | .not (.eq (.string s _) (.string t _)) => s == "StarWalk$Tape" && t == "StarWalk$Tape"
  | _ => true
set_option maxHeartbeats 4000000 in
set_option maxRecDepth 100000 in
theorem st_ok : ∀ c ∈ flatC (Jvm.Cond.and given_1 narrow_1), okS c = true := by decide +kernel
set_option maxHeartbeats 4000000 in
set_option maxRecDepth 100000 in
theorem st_pr : ∀ i : Nat, i < 11 → ∀ j : Nat, j < 11 → i ≠ j → (((flatC (Jvm.Cond.and given_1 narrow_1)).filterMap prS).any (fun p => p.1 == ixS i && p.2 == ixS j) = true ∨ ((flatC (Jvm.Cond.and given_1 narrow_1)).filterMap prS).any (fun p => p.1 == ixS j && p.2 == ixS i) = true) := by decide +kernel
theorem st_me {a b : Nat} (h : ((flatC (Jvm.Cond.and given_1 narrow_1)).filterMap prS).any (fun p => p.1 == a && p.2 == b) = true) : Cond.not (Cond.eq (.string "StarWalk$Tape" a) (.string "StarWalk$Tape" b)) ∈ flatC (Jvm.Cond.and given_1 narrow_1) := by
  obtain ⟨⟨a1, b1⟩, hm, h2⟩ := List.any_eq_true.mp h
  simp only [Bool.and_eq_true, beq_iff_eq] at h2
  obtain ⟨rfl, rfl⟩ := h2
  obtain ⟨c, hc, hp⟩ := List.mem_filterMap.mp hm
  have ho := st_ok c hc
  unfold prS at hp
  split at hp
  · rename_i s a2 t b2
    obtain ⟨rfl, rfl⟩ := Prod.mk.inj (Option.some.inj hp)
    have e : s = "StarWalk$Tape" ∧ t = "StarWalk$Tape" := by
      simp only [okS, Bool.and_eq_true, beq_iff_eq] at ho
      exact ho
    obtain ⟨rfl, rfl⟩ := e
    exact hc
  · cases hp
theorem st_ne : ∀ i : Nat, i < 11 → ∀ j : Nat, j < 11 → i ≠ j → (Cond.not (Cond.eq (tmS i) (tmS j)) ∈ flatC (Jvm.Cond.and given_1 narrow_1) ∨ Cond.not (Cond.eq (tmS j) (tmS i)) ∈ flatC (Jvm.Cond.and given_1 narrow_1)) := fun i hi j hj h => (st_pr i hi j hj h).imp st_me st_me
set_option maxHeartbeats 4000000 in
set_option maxRecDepth 100000 in
theorem st_cs : Cond.eq (.static "java/lang/String" "COMPACT_STRINGS" "Z") (.int 1) ∈ flatC (Jvm.Cond.and given_1 narrow_1) := by decide +kernel
set_option maxHeartbeats 4000000 in
set_option maxRecDepth 100000 in
theorem st_si : Cond.isRef (.static "jdk/internal/util/Preconditions" "SIOOBE_FORMATTER" "Ljava/util/function/BiFunction;") ∈ flatC (Jvm.Cond.and given_1 narrow_1) := by decide +kernel
theorem splP {D : va_G} {cl : List vw_C} {w1 w2 : va_W} {H : Heap} (hP : va_P D cl (w1 ++ w2) H) : va_P D cl w1 H ∧ va_P D cl w2 H :=
  ⟨fun k x hx => hP k x (by rw [List.getElem?_append_left (List.getElem?_eq_some_iff.mp hx).1]; exact hx), fun k x hx => hP (w1.length + k) x (by rw [List.getElem?_append_right (by omega), Nat.add_sub_cancel_left]; exact hx)⟩
theorem splD {A : Nat → Prop} {w1 w2 : va_W} (hD : va_D A (w1 ++ w2)) : va_D A w1 ∧ va_D A w2 ∧ ∀ (i j : Nat) (x y : Nat × va_E), w1[i]? = some x → w2[j]? = some y → x.1 = y.1 → False := by
  have hl : ∀ (k : Nat) (x : Nat × va_E), w1[k]? = some x → (w1 ++ w2)[k]? = some x := fun k x hx => by rw [List.getElem?_append_left (List.getElem?_eq_some_iff.mp hx).1]; exact hx
  have hr : ∀ (k : Nat) (x : Nat × va_E), w2[k]? = some x → (w1 ++ w2)[w1.length + k]? = some x := fun k x hx => by rw [List.getElem?_append_right (by omega), Nat.add_sub_cancel_left]; exact hx
  refine ⟨⟨fun i j x y hx hy e => hD.1 i j x y (hl i x hx) (hl j y hy) e, fun k x hx => hD.2 k x (hl k x hx)⟩, ⟨fun i j x y hx hy e => by have := hD.1 _ _ x y (hr i x hx) (hr j y hy) e; omega, fun k x hx => hD.2 _ x (hr k x hx)⟩, fun i j x y hx hy e => ?_⟩
  have h1 := hD.1 _ _ x y (hl i x hx) (hr j y hy) e
  have h2 := (List.getElem?_eq_some_iff.mp hx).1
  omega
set_option maxHeartbeats 8000000 in
set_option maxRecDepth 100000 in
theorem whole_start {p : Program} {e : Env} {s : State} {m : MethodId} {below : List Frame} {meth : Method} {c : Code} (l : Launch) {b L : Nat} {xs : Nat → Int32} (hL : L ≤ 320) (C0 : lw_At p s m meth c b L xs) : W p l e room_1 s m #[Value.ref b] below meth c s.heap [] 0 0 (lw_Z below #[Value.ref b] s) (entryFrame m ([Value.ref b] : List Value).toArray 4) := by
  obtain ⟨hx, hb, hr, hml, hown, hts, hXb, hbl, hlocks, hgv⟩ := id C0
  have hs := flat_of_before _ hgv
  have hA0 : ∀ a : Nat, a < s.heap.size → ¬ (fun q : Nat => s.heap.size ≤ q) a := fun a h => Nat.not_le.mpr h
  have htg : ∀ w ∈ lw_g, w.before #[Value.ref b] s = true := fun w h => hts w (List.mem_filter.mp h).1
  have S : CallFix p m c code 4 s #[Value.ref b] lw_g "StarWalkLaw" := ⟨hx, hb, hml, hown, htg⟩
  obtain ⟨c0, iS0, hKn0⟩ := u_known (C := RX0) (T := TX0) (N := 18) (n := 18) htg hin0 (hts _ mw_1_32)
  obtain ⟨c1, iS1, hKn1⟩ := u_known (C := RX1) (T := TX1) (N := 4) (n := 4) htg hin1 (hts _ mw_2_22)
  obtain ⟨c2, iS2, hKn2⟩ := u_known (C := RX2) (T := TX2) (N := 4) (n := 4) htg hin2 (hts _ mw_1_38)
  obtain ⟨c3, iS3, hKn3⟩ := u_known (C := RX3) (T := TX3) (N := 6) (n := 6) htg hin3 (hts _ mw_1_231)
  obtain ⟨c4, iS4, hKn4⟩ := u_known (C := RX4) (T := TX4) (N := 3) (n := 3) htg hin4 (hts _ mw_2_49)
  obtain ⟨c5, iS5, hKn5⟩ := u_known (C := RX5) (T := TX5) (N := 10) (n := 10) htg hin5 (hts _ mw_1_26)
  obtain ⟨c6, iS6, hKn6⟩ := u_known (C := RX6) (T := TX6) (N := 4) (n := 4) htg hin6 (hts _ mw_1_207)
  obtain ⟨c7, iS7, hKn7⟩ := u_known (C := RX7) (T := TX7) (N := 11) (n := 11) htg hin7 (hts _ mw_1_18)
  obtain ⟨c8, iS8, hKn8⟩ := u_known (C := RX8) (T := TX8) (N := 31) (n := 31) htg hin8 (hts _ mw_4_157)
  obtain ⟨y0, ky0, cm0, hy0a, hy0b, hy0c⟩ := Cond.arrayClass_spec (hts _ mw_1_71)
  obtain ⟨y1, ky1, cm1, hy1a, hy1b, hy1c⟩ := Cond.arrayClass_spec (hts _ mw_1_72)
  obtain ⟨y2, ky2, cm2, hy2a, hy2b, hy2c⟩ := Cond.arrayClass_spec (hts _ mw_2_67)
  obtain ⟨cm3, y3, ky3, hy3a, -, hy3b, hy3c, hy3d⟩ := Cond.arrayOver_spec (hts _ mw_2_46)
  obtain ⟨cm4, y4, ky4, hy4a, -, hy4b, hy4c, hy4d⟩ := Cond.arrayOver_spec (hts _ mw_1_237)
  obtain ⟨cm5, y5, ky5, hy5a, -, hy5b, hy5c, hy5d⟩ := Cond.arrayOver_spec (hts _ mw_2_48)
  obtain ⟨D, hKc⟩ : ∃ D : va_G, ∀ (k : Nat) (q : vw_C), vwCl[k]? = some q → u_Kn s q.1 q.2.1 q.2.2 (D.1 k) (D.2 k) := by
    refine ⟨((fun k => if k = 0 then c0 else if k = 1 then c1 else if k = 2 then c2 else if k = 3 then c3 else if k = 4 then c4 else if k = 5 then c5 else if k = 6 then c6 else if k = 7 then c7 else c8), (fun k => if k = 0 then iS0 else if k = 1 then iS1 else if k = 2 then iS2 else if k = 3 then iS3 else if k = 4 then iS4 else if k = 5 then iS5 else if k = 6 then iS6 else if k = 7 then iS7 else iS8)), ?_⟩
    intro k q hq
    match k, hq with
    | 0, hq => cases hq; exact hKn0
    | 1, hq => cases hq; exact hKn1
    | 2, hq => cases hq; exact hKn2
    | 3, hq => cases hq; exact hKn3
    | 4, hq => cases hq; exact hKn4
    | 5, hq => cases hq; exact hKn5
    | 6, hq => cases hq; exact hKn6
    | 7, hq => cases hq; exact hKn7
    | 8, hq => cases hq; exact hKn8
    | k + 9, hq => simp [vwCl] at hq
  obtain ⟨cy, hKa⟩ : ∃ cy : Nat → ClassId, ∀ (k : Nat) (q : ClassId × FieldType), (tys cy)[k]? = some q → ArrOfT s q.1 q.2 ∧ va_RA s q.1 q.2 := by
    refine ⟨(fun k => if k = 0 then y0 else if k = 1 then y1 else if k = 2 then y2 else if k = 3 then y3 else if k = 4 then y4 else y5), ?_⟩
    intro k q hq
    match k, hq with
    | 0, hq => cases hq; exact ⟨fun N z => ⟨(fun k h => by cases h), ky0, hy0b, cm0, hy0c⟩, hy0a⟩
    | 1, hq => cases hq; exact ⟨fun N z => ⟨(fun k h => by cases h), ky1, hy1b, cm1, hy1c⟩, hy1a⟩
    | 2, hq => cases hq; exact ⟨fun N z => ⟨(fun k h => by cases h), ky2, hy2b, cm2, hy2c⟩, hy2a⟩
    | 3, hq => cases hq; exact ⟨fun N z => ⟨(fun k h => by cases h), ky3, hy3b, cm3, hy3c⟩, ky3, cm3, hy3b, hy3c, hy3a, hy3d⟩
    | 4, hq => cases hq; exact ⟨fun N z => ⟨(fun k h => by cases h), ky4, hy4b, cm4, hy4c⟩, ky4, cm4, hy4b, hy4c, hy4a, hy4d⟩
    | 5, hq => cases hq; exact ⟨fun N z => ⟨(fun k h => by cases h), ky5, hy5b, cm5, hy5c⟩, ky5, cm5, hy5b, hy5c, hy5a, hy5d⟩
    | k + 6, hq => simp [tys] at hq
  have hK : va_K D vwCl (tys cy) s := ⟨hKc, hKa⟩
  obtain ⟨sa, sv, hSt, hEv⟩ := vk_Sof (tm := tmS) (len := sln) (byt := sbt) (A := fun q : Nat => s.heap.size ≤ q) (N := 11) st_len (fun i hi => hs _ (st_ex i hi)) (fun i hi => hs _ (st_co i hi)) (fun i hi => hs _ (st_ar i hi)) (fun i hi => hs _ (st_le i hi)) (fun i hi j hj => hs _ (st_el i hi j hj)) (fun i j hi hj hn => (st_ne i hi j hj hn).imp (hs _) (hs _)) hA0
  have hXn : Xn s := ⟨va_Nw.of rfl (hts _ mw_1_27), va_Nw.of rfl (hts _ mw_1_39), va_Nw.of rfl (hts _ mw_1_208), va_Nw.of rfl (hts _ mw_1_238), va_Nw.of rfl (hts _ mw_2_30), va_Nw.of rfl (hts _ mw_2_45), va_Nw.of rfl (hts _ mw_2_50), va_Nw.of rfl (hts _ mw_2_228), va_Nw.of rfl (hts _ mw_4_57), va_Nw.of rfl (hts _ mw_4_60)⟩
  have hXr : Xr (wz sa sv) s := ⟨vk_R.of (hts _ mw_2_142) (hEv 0 (by decide)), vk_R.of (hts _ mw_2_219) (hEv 1 (by decide)), vk_R.of (hts _ mw_2_231) (hEv 2 (by decide)), vk_R.of (hts _ mw_3_0) (hEv 3 (by decide)), vk_R.of (hts _ mw_3_1) (hEv 4 (by decide)), vk_R.of (hts _ mw_3_2) (hEv 5 (by decide)), vk_R.of (hts _ mw_3_3) (hEv 6 (by decide)), vk_R.of (hts _ mw_3_12) (hEv 7 (by decide)), vk_R.of (hts _ mw_3_17) (hEv 8 (by decide)), vk_R.of (hts _ mw_3_22) (hEv 9 (by decide)), vk_R.of (hts _ mw_3_31) (hEv 10 (by decide))⟩
  have hZ := va_Zof (hts _ mw_2_156) (hts _ mw_1_10) (va_eqi (hs _ st_cs)) hA0
  have hZq := va_Zqof (hts _ mw_2_172) (hts _ mw_1_12) (hs _ st_si) hA0
  have hXg : Xg sa sv (fun q : Nat => s.heap.size ≤ q) s s.heap := ⟨hXn, hXr, hSt, hZ, hZq⟩
  have hX : Xk D cy sa sv s.heap.size s := ⟨hK, ⟨va_AO.of (hts _ mw_1_237), va_AO.of (hts _ mw_2_46), va_AO.of (hts _ mw_2_48)⟩, hXg, Nat.le_refl _⟩
  have hA : ∀ q : Nat, s.heap.size ≤ q → (fun q : Nat => s.heap.size ≤ q) q := fun _ h => h
  have hAb : ∀ q : Nat, (fun q : Nat => s.heap.size ≤ q) q → s.heap.size ≤ q := fun _ h => h
  have hS : va_S (fun q : Nat => s.heap.size ≤ q) s.heap s.heap [] := va_S.rf
  have hP : va_P D vwCl [] s.heap := fun k q h => by simp at h
  have hD : va_D (fun q : Nat => s.heap.size ≤ q) [] := ⟨fun i j p q h => by simp at h, fun k q h => by simp at h⟩
  have hl := lv_entry ([.ref b]) (n := 4) (Nat.le_of_ble_eq_true rfl)
  rw [lg_entry_eq]
  generalize (lg_sl ([.ref b]) ++ List.replicate (4 - (lg_sl ([.ref b])).length) Slot.unset).toArray = ls at hl ⊢
  have hl : lv_has ls 4 [(0, .ref b)] := hl
  refine va_new (ci := 7) (fs := f0_7) (C := RX7) (T := TX7) (N := 11) hx hb htg hin7 tyX7 tyX7_ok S.2.2.2.1 (Sw S mw_1_17 rfl) (Sw S mw_1_18 rfl) (Sw S mw_1_1 rfl) hK hP hD hS hA rfl f0h_7 (by exact Nat.le_of_ble_eq_true rfl) (by exact Nat.le_of_ble_eq_true rfl) dL_law_0 (fun q0 H hP9 hD9 hS9 => ?_)
  refine lv_dup hx hb dL_law_3 rfl ?_
  refine kI S hX hAb hP9 hD9 hS9 hA (k_X7 l D cy sa sv s.heap.size q0 H.size) mw_1_19 mw_1_20 mw_1_1 mw_1_21 rfl rfl rfl (by decide +kernel) ⟨by decide, by decide⟩ hl.1 (by exact Nat.le_of_ble_eq_true rfl) dL_law_4 ⟨(by exact Nat.le_of_ble_eq_true rfl), (by exact Nat.le_of_ble_eq_true rfl)⟩ (fun u0 H lo hw0 hu0 hP hD hS => ?_)
  subst hu0
  refine lv_astore_n (lv' := [(1, .ref (u0.1 0)), (0, .ref b)]) hx hb dL_law_7 rfl hl (by decide) rfl (fun ls hl => ?_)
  refine va_new (ci := 8) (fs := f0_8) (C := RX8) (T := TX8) (N := 31) hx hb htg hin8 tyX8 tyX8_ok S.2.2.2.1 (Sw S mw_4_156 rfl) (Sw S mw_4_157 rfl) (Sw S mw_1_9 rfl) hK hP hD hS hA rfl f0h_8 (by exact Nat.le_of_ble_eq_true rfl) (by exact Nat.le_of_ble_eq_true rfl) dL_law_8 (fun q1 H hP9 hD9 hS9 => ?_)
  refine lv_dup hx hb dL_law_11 rfl ?_
  refine kI S hX hAb hP9 hD9 hS9 hA (k_X8 l D cy sa sv s.heap.size q1 H.size) mw_4_158 mw_4_159 mw_1_9 mw_4_160 rfl rfl rfl (by decide +kernel) ⟨by decide, by decide⟩ hl.1 (by exact Nat.le_of_ble_eq_true rfl) dL_law_12 ⟨(by exact Nat.le_of_ble_eq_true rfl), (by exact Nat.le_of_ble_eq_true rfl)⟩ (fun u1 H lo hw1 hu1 hP hD hS => ?_)
  subst hu1
  refine lv_astore_n (lv' := [(2, .ref (u1.1 0)), (1, .ref (u0.1 0)), (0, .ref b)]) hx hb dL_law_15 rfl hl (by decide) rfl (fun ls hl => ?_)
  refine lv_iconst (v := 0) hx hb dL_law_16 (by decide) ?_
  refine lv_istore_n (lv' := [(3, .int 0), (2, .ref (u1.1 0)), (1, .ref (u0.1 0)), (0, .ref b)]) hx hb dL_law_17 rfl hl (by decide) rfl (fun ls hl => ?_)
  refine W.widen (k := 600000) (n := 7302250) (by exact Nat.le_of_ble_eq_true rfl) (by exact Nat.le_of_ble_eq_true rfl) ?_
  obtain ⟨hPC, hPM⟩ := splP hP
  obtain ⟨hDC, hDM, hap⟩ := splD hD
  have hPC : va_P D vwCl (wd (D, cy, 91, u0.1, kz ks7, sa, sv) u0.2) H := hPC
  have hDC : va_D (fun q : Nat => s.heap.size ≤ q) (wd (D, cy, 91, u0.1, kz ks7, sa, sv) u0.2) := hDC
  have hap2 : ∀ q, Aw (D, cy, 91, u0.1, kz ks7, sa, sv) q → ¬ Aw (D, cy, 10, u1.1, kz ks8, sa, sv) q := fun q h1 h2 => by
    obtain ⟨k1, hk1, e1⟩ := h1
    obtain ⟨k2, hk2, e2⟩ := h2
    exact hap k1 k2 _ _ (wd_get (w := (D, cy, 91, u0.1, kz ks7, sa, sv)) (v := u0.2) hk1) (wd_get (w := (D, cy, 10, u1.1, kz ks8, sa, sv)) (v := u1.2) hk2) (e1.trans e2.symm)
  have F : Lf (D, cy, 91, u0.1, kz ks7, sa, sv) (D, cy, 10, u1.1, kz ks8, sa, sv) p m c code 4 s #[Value.ref b] "StarWalkLaw" := ⟨S, ⟨hK, injD hDC, Xg.to hXg (fun q h => awD hDC q h), awD hDC⟩, ⟨hK, injD hDM, Xg.to hXg (fun q h => awD hDM q h), awD hDM⟩, hap2⟩
  exact law_loop l hL C0 F oW0 oM0 _ _ 401 H lo u0.2 u1.2 ⟨hPC, hPM, hS, hw0.1, hw1.1⟩ (by rw [hw0.2, hw1.2]; exact Sim.start) 0 (by decide) (by decide) ls (lv_sub hl [3, 2, 1, 0] rfl)
