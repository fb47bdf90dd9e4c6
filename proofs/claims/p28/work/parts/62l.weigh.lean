/-! the class weighs -/
def weighG (e0 e1 : Int32) (nx : Nat → St → Int64 × St) (k0 : Nat) (v : St) : Int64 × St :=
xl (fun (self_91 : Int64 → Int32 → St → Int64 × St) (y91_4 : Int64) (y91_6 : Int32) (v_91 : St) =>
xl (fun (y195_4 : Int64) (v_195 : St) =>
xl (y91_6 + 1) fun x1 =>
(self_91 y195_4 x1 v_195)) fun J_195 =>
xl (fun (y155_7 : Int32) (z155_1 : Int32) (z155_2 : Int32) (z155_3 : Int32) (v_155 : St) =>
xl (F_X7_withBit z155_1 z155_2 z155_3 v_155) fun r2 =>
xl (up1 v_155 (k0 + 1) 11 r2) fun v5 =>
xl (v5.1 (k0 + 1 + 6) e0.toNatClampNeg) fun x6 =>
xm (F_X0_step (k0 + 1) (k0 + 10 + (1 + e1.toNatClampNeg)) x6 v5) fun r7 u8 =>
xm (nx k0 u8) fun r12 u13 =>
xl (y155_7.toInt64 * r12) fun q15 =>
xl (y91_4 + q15) fun q16 =>
(J_195 q16 u13)) fun J_155 =>
xl (fun (z117_0 : Int32) (v_117 : St) =>
if 0 < z117_0.toInt then (
xl (F_X2_become (k0 + 10 + (1 + e1.toNatClampNeg)) (k0 + 10 + (1 + e0.toNatClampNeg)) v_117) fun u18 =>
xl (u18.1 (k0 + 1) 11) fun x20 =>
xl (u18.1 (k0 + 10 + (1 + e0.toNatClampNeg)) 0) fun x21 =>
if y91_6.toInt = 1 then (
(J_155 z117_0 x20 x21 (1 : Int32) u18)) else (
(J_155 z117_0 x20 x21 (0 : Int32) u18))) else (
(J_195 y91_4 v_117))) fun J_117 =>
if 1 < y91_6.toInt then (
(y91_4, v_91)) else (
if y91_6.toInt = 1 then (
xl (v_91.1 k0 2) fun x27 =>
(J_117 x27 v_91)) else (
xl (v_91.1 k0 2) fun x25 =>
xl ((10 : Int32) - x25) fun x26 =>
(J_117 x26 v_91)))) fun P_91 =>
xl (xl (v.1 k0 3) fun x28 =>
if x28.toInt = 0 then (
xl (F_X0_isAtWell (k0 + 1) (k0 + 10 + (1 + e0.toNatClampNeg)) v) fun r30 =>
xl (F_X7_oneIf r30 v) fun r33 =>
(r33.toInt64, v)) else (
xl (v.1 (k0 + 10 + (1 + e0.toNatClampNeg)) 1) fun x37 =>
(x37.toInt64, v))) fun J_24 =>
xl (F_X0_hasPlanned (k0 + 1) e0 v) fun r40 =>
if r40.toInt = 0 then (
(J_24 )) else (
xl (F_X2_canStep (k0 + 10 + (1 + e0.toNatClampNeg)) v) fun r46 =>
if r46.toInt = 0 then (
xl (F_X2_become (k0 + 10 + (1 + e1.toNatClampNeg)) (k0 + 10 + (1 + e0.toNatClampNeg)) v) fun u50 =>
xm (nx k0 u50) fun r53 u54 =>
xl ((10 : Int64) * r53) fun q56 =>
(q56, u54)) else (
(lp P_91 (fun _ _ _ => ((0 : Int64), v)) ((2147483647 - (0 : Int32).toInt).toNat + 1) (0 : Int64) (0 : Int32) v)))
theorem wv_7 : F_X1_weigh_v7 = weighG 7 8 F_X1_weigh_v8 := by
  funext k0 v
  unfold F_X1_weigh_v7 weighG
  rfl
theorem wv_6 : F_X1_weigh_v6 = weighG 6 7 F_X1_weigh_v7 := by
  funext k0 v
  unfold F_X1_weigh_v6 weighG
  rfl
theorem wv_5 : F_X1_weigh_v5 = weighG 5 6 F_X1_weigh_v6 := by
  funext k0 v
  unfold F_X1_weigh_v5 weighG
  rfl
theorem wv_4 : F_X1_weigh_v4 = weighG 4 5 F_X1_weigh_v5 := by
  funext k0 v
  unfold F_X1_weigh_v4 weighG
  rfl
theorem wv_3 : F_X1_weigh_v3 = weighG 3 4 F_X1_weigh_v4 := by
  funext k0 v
  unfold F_X1_weigh_v3 weighG
  rfl
theorem wv_2 : F_X1_weigh_v2 = weighG 2 3 F_X1_weigh_v3 := by
  funext k0 v
  unfold F_X1_weigh_v2 weighG
  rfl
theorem wv_1 : F_X1_weigh_v1 = weighG 1 2 F_X1_weigh_v2 := by
  funext k0 v
  unfold F_X1_weigh_v1 weighG
  rfl
theorem wv_0 : F_X1_weigh_v0 = weighG 0 1 F_X1_weigh_v1 := by
  funext k0 v
  unfold F_X1_weigh_v0 weighG
  rfl
theorem AtR.q {k p p2 : Nat} {c m c2 m2 : St} (h : AtR k p c m) (hk : ∀ j : Nat, j < 11 → c2.1 k j = c.1 k j) (h1 : ∀ i j : Nat, 1 ≤ i → i ≤ 4 → c2.1 (k + i) j = c.1 (k + i) j) (hp : ∀ j : Nat, j < 4 → c2.1 p2 j = c.1 p j) (hm : Q28 m m2) (h11 : c2.1 k 11 = m2.1 2 28) : AtR k p2 c2 m2 := by
  obtain ⟨⟨s1, w1⟩, ⟨f1, f2, -⟩, hs, hwk, ⟨q1, q2, q3, q4⟩⟩ := h
  refine ⟨⟨?_, ?_⟩, ⟨?_, ?_, h11⟩, fun i hi => ?_, fun i hi => ?_, ⟨?_, ?_, ?_, ?_⟩⟩
  · rw [hk 3 (by omega), hm 0 3 (by omega)]; exact s1
  · rw [hk 6 (by omega), hm 0 4 (by omega)]; exact w1
  · rw [hk 7 (by omega), hm 0 4 (by omega), hm 2 23 (by omega)]; exact f1
  · rw [hk 10 (by omega), hm 2 26 (by omega)]; exact f2
  · rw [hm 0 3 (by omega)] at hi
    rw [h1 1 i (by omega) (by omega), h1 2 i (by omega) (by omega), h1 3 i (by omega) (by omega), hk 4 (by omega), hm 2 (4 * i) (by omega), hm 2 (4 * i + 1) (by omega), hm 2 (4 * i + 2) (by omega), hm 2 (4 * i + 3) (by omega)]
    exact hs i hi
  · rw [hm 0 4 (by omega)] at hi
    rw [h1 4 i (by omega) (by omega), hm 2 (20 + i) (by omega)]
    exact hwk i hi
  · rw [hp 3 (by omega), hm 2 27 (by omega)]; exact q1
  · rw [hp 0 (by omega), hm 2 29 (by omega)]; exact q2
  · rw [hp 1 (by omega), hm 2 30 (by omega), hm 2 29 (by omega)]; exact q3
  · rw [hp 2 (by omega), hm 2 31 (by omega), hm 2 29 (by omega)]; exact q4
/-- the value of a place: at the well, or the miles -/
def vzO (fl : Int32) (z : St) : Nat := if fl.toInt = 0 then (if (F_X8_isAtWell 0 z).toInt = 0 then 0 else 1) else (z.1 2 30).toInt.toNat
theorem vzO_q (fl : Int32) : Vq (vzO fl) := fun z z' h => by
  have e : F_X8_isAtWell 0 z' = F_X8_isAtWell 0 z := by
    simp only [F_X8_isAtWell, F_X8_sizeOf, xl_d, Nat.reduceAdd, cn30, cn24, cn31, cn25]
    rw [h 2 30 (by omega), h 2 24 (by omega), h 2 31 (by omega), h 2 25 (by omega)]
  unfold vzO
  rw [e, h 2 30 (by omega)]
def WP (al : Nat → Int32) (n D : Nat) (x z : St) : Prop := AtR 42 (52 + D) x (up1 z 2 28 (x.1 42 11)) ∧ ((x.1 42 14).toInt = (n : Int) ∧ n ≤ 8) ∧ (x.1 42 8 = z.1 2 24 ∧ x.1 42 9 = z.1 2 25) ∧ ∀ j : Nat, j < n → x.1 48 j = al j ∧ amO (al j).toInt (z.1 0 3).toInt
def FrD (D : Nat) (x u : St) : Prop := ∀ a b : Nat, (a < 53 + D ∨ 61 ≤ a) → (a ≠ 42 ∨ b ≠ 11) → u.1 a b = x.1 a b
theorem WP.iz {al : Nat → Int32} {n D : Nat} {x z : St} (h : WP al n D x z) : Iz z ∧ (x.1 (52 + D) 3 = z.1 2 27 ∧ x.1 (52 + D) 0 = z.1 2 29 ∧ x.1 (52 + D) 1 = z.1 2 30 ∧ x.1 (52 + D) 2 = z.1 2 31) ∧ 0 ≤ (z.1 2 30).toInt ∧ (z.1 2 30).toInt ≤ 30 := by
  obtain ⟨⟨⟨s1, w1⟩, ⟨f1, f2, -⟩, hs, hwk, ⟨q1, q2, q3, q4⟩⟩, -⟩ := h
  rw [up1_n _ _ (by omega)] at w1
  rw [up1_n _ _ (by omega), up1_n _ _ (by omega)] at f1
  rw [up1_n _ _ (by omega)] at q1 q2
  rw [up1_n _ _ (by omega), up1_n _ _ (by omega)] at q3 q4
  exact ⟨⟨fun z0 => ⟨f1.2.1, by have := f1.2.2 z0; omega⟩, q2.2⟩, ⟨q1.1, q2.1, q3.1, q4.1⟩, by omega, by omega⟩
theorem WP.fr {al : Nat → Int32} {n D : Nat} {x u z : St} (h : WP al n D x z) (f : FrD D x u) : WP al n D u z := by
  obtain ⟨h1, h2, h3, h4⟩ := h
  refine ⟨h1.q (fun j hj => f _ _ (by omega) (by omega)) (fun i j _ _ => f _ _ (by omega) (by omega)) (fun j _ => f _ _ (by omega) (by omega)) (((Q28.rf z).l _).r _) (up1_s _ _ _ _).symm, ?_, ?_, fun j hj => ?_⟩
  · rw [f 42 14 (by omega) (by omega)]; exact h2
  · rw [f 42 8 (by omega) (by omega), f 42 9 (by omega) (by omega)]; exact h3
  · rw [f 48 j (by omega) (by omega)]; exact h4 j hj
/-- the next place begins as this one -/
theorem WP.nx {al : Nat → Int32} {n D : Nat} {x z : St} (h : WP al n D x z) (hD : D < 8) (C : Int32) : WP al n (D + 1) (up1 (F_X2_become (53 + D) (52 + D) x) 42 11 C) z ∧ FrD D x (up1 (F_X2_become (53 + D) (52 + D) x) 42 11 C) := by
  obtain ⟨b0, b1, b2, b3, b4⟩ := beP (53 + D) (52 + D) (by omega) x
  generalize F_X2_become (53 + D) (52 + D) x = y at *
  obtain ⟨h1, h2, h3, h4⟩ := h
  have f : ∀ a b : Nat, (a ≠ 53 + D ∨ 4 ≤ b) → (a ≠ 42 ∨ b ≠ 11) → (up1 y 42 11 C).1 a b = x.1 a b := fun a b q1 q2 => by rw [up1_n _ _ (by omega)]; exact b4 a b q1
  refine ⟨⟨?_, ?_, ?_, fun j hj => ?_⟩, fun a b q1 q2 => f a b (by omega) q2⟩
  · refine h1.q (fun j hj => f _ _ (by omega) (by omega)) (fun i j _ _ => f _ _ (by omega) (by omega)) (fun j hj => ?_) (((Q28.rf z).l _).r _) (up1_s _ _ _ _).symm
    rw [up1_n _ _ (by omega), show 52 + (D + 1) = 53 + D by omega]
    rcases (show j = 0 ∨ j = 1 ∨ j = 2 ∨ j = 3 by omega) with e | e | e | e
    · rw [e]; exact b0
    · rw [e]; exact b1
    · rw [e]; exact b2
    · rw [e]; exact b3
  · rw [f 42 14 (by omega) (by omega)]; exact h2
  · rw [f 42 8 (by omega) (by omega), f 42 9 (by omega) (by omega)]; exact h3
  · rw [f 48 j (by omega) (by omega)]; exact h4 j hj
theorem WP.bec {al : Nat → Int32} {n D : Nat} {x z : St} (h : WP al n D x z) (hD : D < 8) : WP al n (D + 1) (F_X2_become (53 + D) (52 + D) x) z ∧ FrD D x (F_X2_become (53 + D) (52 + D) x) := by
  have e := h.nx hD ((F_X2_become (53 + D) (52 + D) x).1 42 11)
  rw [up1_id rfl] at e
  exact e
def OG (al : Nat → Int32) (n v : Nat) (fl : Int32) (D : Nat) (f : St → Int64 × St) : Prop := ∀ x z : St, WP al n D x z → (x.1 41 2).toInt = (v : Int) → x.1 41 3 = fl → D ≤ n → (∃ W : Nat, (f x).1.toInt = (W : Int) ∧ W ≤ 30 * 10 ^ (n - D) ∧ W * 10 ^ (10 - hr z) = Rr (vzO fl) al v (n - D) D z * 10 ^ (n - D)) ∧ FrD D x (f x).2
/-- the end of the plan -/
theorem WP.leaf {al : Nat → Int32} {n v D : Nat} {fl : Int32} {x z : St} (h : WP al n D x z) (hv : v ≤ 10) (hfl : x.1 41 3 = fl) (hn : n = D) {U : Int64 × St} (hU : (if (x.1 41 3).toInt = 0 then ((F_X7_oneIf (F_X0_isAtWell 42 (52 + D) x) x).toInt64, x) else ((x.1 (52 + D) 1).toInt64, x)) = U) : (∃ W : Nat, U.1.toInt = (W : Int) ∧ W ≤ 30 * 10 ^ (n - D) ∧ W * 10 ^ (10 - hr z) = Rr (vzO fl) al v (n - D) D z * 10 ^ (n - D)) ∧ FrD D x U.2 := by
  obtain ⟨-, ⟨p3, p0, p1, p2⟩, l0, l1⟩ := h.iz
  have ew := atW h.2.2.1.1 h.2.2.1.2 p1 p2
  have e0 : n - D = 0 := by omega
  rw [e0, Rr_0 (vzO_q fl) hv, Nat.pow_zero, Nat.mul_one, Nat.mul_one]
  have c0 : (0 : Int32).toInt = 0 := rfl
  have c1 : (1 : Int32).toInt = 1 := rfl
  rw [ew, p1, hfl] at hU
  have key : U.1.toInt = ((vzO fl z : Nat) : Int) ∧ vzO fl z ≤ 30 ∧ U.2 = x := by
    rw [← hU]
    unfold vzO
    by_cases q : fl.toInt = 0
    · rw [if_pos q, if_pos q]
      refine ⟨?_, ?_, rfl⟩
      · show (F_X7_oneIf (F_X8_isAtWell 0 z) x).toInt64.toInt = _
        rw [i64_of]
        simp only [F_X7_oneIf]
        by_cases w : (F_X8_isAtWell 0 z).toInt = 0
        · rw [if_pos w, if_pos w]; exact c0
        · rw [if_neg w, if_neg w]; exact c1
      · by_cases w : (F_X8_isAtWell 0 z).toInt = 0
        · rw [if_pos w]; omega
        · rw [if_neg w]; omega
    · rw [if_neg q, if_neg q]
      refine ⟨?_, by omega, rfl⟩
      show (z.1 2 30).toInt64.toInt = _
      rw [i64_of]
      omega
  exact ⟨⟨vzO fl z, key.1, key.2.1, rfl⟩, by rw [key.2.2]; exact fun _ _ _ _ => rfl⟩
/-- one kind of hour -/
theorem OG.core {al : Nat → Int32} {n v D : Nat} {fl : Int32} {f : St → Int64 × St} (hD : D < 8) (dn : D < n) (hf : OG al n v fl (D + 1) f) {x z s : St} (hW : WP al n D x z) (hv : (x.1 41 2).toInt = (v : Int)) (hfl : x.1 41 3 = fl) (g : 0 < (z.1 2 27).toInt ∧ (z.1 2 29).toInt < 10) (hs : FrD D x s) {b : Nat} (hb : b < 2) {u : St} (hu : F_X2_become (53 + D) (52 + D) s = u) {C : Int32} (hC : F_X7_withBit (u.1 42 11) (u.1 (52 + D) 0) (Int32.ofNat b) u = C) {t : Int32 × St} (ht : F_X0_step 42 (53 + D) ((up1 u 42 11 C).1 48 D) (up1 u 42 11 C) = t) : (C >>> (Int32.ofNat (hr z) &&& 31)) &&& 1 = Int32.ofNat b ∧ (∃ W : Nat, (f t.2).1.toInt = (W : Int) ∧ W ≤ 30 * 10 ^ (n - (D + 1)) ∧ W * 10 ^ (9 - hr z) = Rr (vzO fl) al v (n - (D + 1)) (D + 1) (F_X8_steps 0 (al D) (up1 z 2 28 C)).2 * 10 ^ (n - (D + 1))) ∧ FrD D x (f t.2).2 := by
  have hW2 := hW.fr hs
  obtain ⟨hz, -, -⟩ := hW.iz
  obtain ⟨r1, r2, r3⟩ := hr_i hz
  obtain ⟨n1, n2⟩ := hW2.nx hD C
  obtain ⟨-, m2⟩ := hW2.bec hD
  rw [hu] at n1 n2 m2
  have p0 : u.1 (52 + D) 0 = Int32.ofNat (hr z) := by
    rw [m2 _ _ (by omega) (by omega), ← r1]
    exact hW2.iz.2.1.2.1
  have hbit : (C >>> (Int32.ofNat (hr z) &&& 31)) &&& 1 = Int32.ofNat b := by
    rw [← hC, p0]
    exact wbB _ (by omega) hb _
  refine ⟨hbit, ?_⟩
  have ea : (up1 u 42 11 C).1 48 D = al D := (n1.2.2.2 D dn).1
  rw [ea] at ht
  have hA := n1.1
  rw [up1_s, show 52 + (D + 1) = 53 + D by omega] at hA
  have ham : amO (al D).toInt (z.1 0 3).toInt := (hW.2.2.2 D dn).2
  obtain ⟨-, g2, g3, g4, -⟩ := hA.step (a := al D) (by omega) (by rw [up1_n _ _ (by omega)]; exact ham)
  rw [ht] at g2 g3
  have g5 : 0 < ((up1 z 2 28 C).1 2 27).toInt ∧ ((up1 z 2 28 C).1 2 29).toInt < 10 := by rw [up1_n _ _ (by omega), up1_n _ _ (by omega)]; exact g
  have hh := hr_st (hz.zc C) (al D) g5
  rw [hr_zc] at hh
  generalize hZ : (F_X8_steps 0 (al D) (up1 z 2 28 C)).2 = Z at *
  have w3 : WP al n (D + 1) t.2 Z := by
    refine ⟨?_, ?_, ?_, fun j hj => ?_⟩
    · exact g2.q (fun _ _ => rfl) (fun _ _ _ _ => rfl) (fun _ _ => by rw [show 52 + (D + 1) = 53 + D by omega]) ((Q28.rf Z).r _) (up1_s _ _ _ _).symm
    · rw [g3 42 14 (by omega)]; exact n1.2.1
    · rw [g3 42 8 (by omega), g3 42 9 (by omega), g4 2 24 (by omega), g4 2 25 (by omega), up1_n _ _ (by omega), up1_n _ _ (by omega)]; exact n1.2.2.1
    · rw [g3 48 j (by omega), g4 0 3 (by omega), up1_n (v := z) _ (by omega)]; exact n1.2.2.2 j hj
  have fx : FrD D x t.2 := fun a b q1 q2 => by rw [g3 a b (by omega), n2 a b q1 q2, hs a b q1 q2]
  obtain ⟨⟨W, o1, o2, o3⟩, o4⟩ := hf t.2 Z w3 (by rw [fx 41 2 (by omega) (by omega)]; exact hv) (by rw [fx 41 3 (by omega) (by omega)]; exact hfl) (by omega)
  refine ⟨⟨W, o1, o2, ?_⟩, fun a b q1 q2 => ?_⟩
  · rw [hh, show 10 - (hr z + 1) = 9 - hr z by omega] at o3
    exact o3
  · rw [o4 a b (by omega) q2, fx a b q1 q2]
