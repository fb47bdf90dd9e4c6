/-! a step -/
def v0 : St := (fun _ _ => 0, fun _ _ => 0)
theorem pk_v (a b : Int32) (v : St) : F_X0_pullOfKind a b v = F_X0_pullOfKind a b v0 := by simp only [F_X0_pullOfKind, xl_d]
theorem pm_v (a b : Int32) (v : St) : F_X8_pullOf a b v = F_X8_pullOf a b v0 := by simp only [F_X8_pullOf, xl_d]
theorem pk_t : ∀ k : Nat, k < 4 → ∀ h : Nat, h < 11 → F_X0_pullOfKind (Int32.ofNat k) (Int32.ofNat h) v0 = F_X8_pullOf (Int32.ofNat k) (Int32.ofNat h) v0 ∧ 0 ≤ (F_X8_pullOf (Int32.ofNat k) (Int32.ofNat h) v0).toInt ∧ (F_X8_pullOf (Int32.ofNat k) (Int32.ofNat h) v0).toInt ≤ 10 := by decide +kernel
/-- a night of the class, a place of it, and the row `at` of the reference -/
def AtR (k p : Nat) (c m : St) : Prop := ((c.1 k 3 = m.1 0 3 ∧ 0 ≤ (m.1 0 3).toInt ∧ (m.1 0 3).toInt ≤ 5) ∧ (c.1 k 6 = m.1 0 4 ∧ 0 ≤ (m.1 0 4).toInt ∧ (m.1 0 4).toInt ≤ 3)) ∧ ((c.1 k 7 = m.1 2 23 ∧ 0 ≤ (m.1 2 23).toInt ∧ (¬ (m.1 0 4).toInt = 0 → (m.1 2 23).toInt < (m.1 0 4).toInt)) ∧ c.1 k 10 = m.1 2 26 ∧ c.1 k 11 = m.1 2 28) ∧ (∀ i : Nat, (i : Int) < (m.1 0 3).toInt → c.1 (k + 1) i = m.1 2 (4 * i) ∧ c.1 (k + 2) i = m.1 2 (4 * i + 1) ∧ (c.1 (k + 3) i = m.1 2 (4 * i + 2) ∧ 0 ≤ (m.1 2 (4 * i + 2)).toInt ∧ (m.1 2 (4 * i + 2)).toInt ≤ 6) ∧ (c.1 k 4 >>> (Int32.ofNat i &&& 31)) &&& 1 = m.1 2 (4 * i + 3)) ∧ (∀ i : Nat, (i : Int) < (m.1 0 4).toInt → c.1 (k + 4) i = m.1 2 (20 + i) ∧ 0 ≤ (m.1 2 (20 + i)).toInt ∧ (m.1 2 (20 + i)).toInt ≤ 3) ∧ ((c.1 p 3 = m.1 2 27 ∧ 0 ≤ (m.1 2 27).toInt ∧ (m.1 2 27).toInt ≤ 99) ∧ (c.1 p 0 = m.1 2 29 ∧ 0 ≤ (m.1 2 29).toInt ∧ (m.1 2 29).toInt ≤ 10) ∧ (c.1 p 1 = m.1 2 30 ∧ 0 ≤ (m.1 2 30).toInt ∧ (m.1 2 30).toInt ≤ 3 * (m.1 2 29).toInt) ∧ c.1 p 2 = m.1 2 31 ∧ -30 * (m.1 2 29).toInt ≤ (m.1 2 31).toInt ∧ (m.1 2 31).toInt ≤ 30 * (m.1 2 29).toInt)
theorem AtR.pull {k p : Nat} {c m : St} (h : AtR k p c m) {a : Int32} (ha : 0 ≤ a.toInt ∧ a.toInt ≤ 10) : F_X0_pullOfRow k a c = F_X8_pullNow 0 a m ∧ 0 ≤ (F_X8_pullNow 0 a m).toInt ∧ (F_X8_pullNow 0 a m).toInt ≤ 10 := by
  obtain ⟨⟨-, w1⟩, ⟨f1, -⟩, -, hw, -⟩ := h
  have c0 : (0 : Int32).toInt = 0 := rfl
  have hk := hasWk k (c.1 k 7) c
  rw [w1.1, f1.1] at hk
  simp only [F_X0_pullOfRow, F_X8_pullNow, xl_d, Nat.reduceAdd, cn23]
  rw [w1.1, f1.1]
  by_cases z : (m.1 0 4).toInt = 0
  · rw [if_pos (hk.mpr (by omega)), if_pos z]
    exact ⟨rfl, by omega, by omega⟩
  · have f2 := f1.2.2 z
    rw [if_neg (fun y => hk.mp y ⟨f1.2.1, f2⟩), if_neg z]
    have n23 := cnI (x := m.1 2 23) f1.2.1
    have e20 : ((20 : Int32) + m.1 2 23).toInt = 20 + (m.1 2 23).toInt := adI rfl rfl (by omega) (by omega)
    have n20 := cnI (x := (20 : Int32) + m.1 2 23) (by omega)
    have q := hw (m.1 2 23).toNatClampNeg (by omega)
    rw [q.1, show ((20 : Int32) + m.1 2 23).toNatClampNeg = 20 + (m.1 2 23).toNatClampNeg by omega, pk_v, pm_v]
    obtain ⟨kn, hkn⟩ := Int.eq_ofNat_of_zero_le q.2.1
    obtain ⟨hn, hhn⟩ := Int.eq_ofNat_of_zero_le ha.1
    have t := pk_t kn (by omega) hn (by omega)
    rw [← i32_of (x := m.1 2 (20 + (m.1 2 23).toNatClampNeg)) hkn (by omega), ← i32_of (x := a) hhn (by omega)] at t
    rw [t.1]
    generalize F_X8_pullOf (m.1 2 (20 + (m.1 2 23).toNatClampNeg)) a v0 = x at t ⊢
    by_cases z3 : (m.1 0 4).toInt = 3
    · rw [if_pos z3, if_pos z3]
      have e1 : (x - 1).toInt = x.toInt - 1 := sbI rfl rfl (by omega) (by omega)
      by_cases zp : 0 < x.toInt
      · rw [if_pos zp]
        refine ⟨?_, by omega, by omega⟩
        by_cases z1 : (0 : Int32) < x - 1
        · rw [if_pos z1]
        · rw [if_neg z1]
          rw [Int32.lt_iff_toInt_lt] at z1
          exact Int32.toInt_inj.mp (by omega)
      · rw [if_neg zp]
        refine ⟨?_, by omega, by omega⟩
        rw [if_neg (by rw [Int32.lt_iff_toInt_lt]; omega)]
        exact Int32.toInt_inj.mp (by omega)
    · rw [if_neg z3, if_neg z3]
      exact ⟨rfl, t.2.1, t.2.2⟩
theorem AtR.up {k p : Nat} {c m : St} (h : AtR k p c m) {a b : Int32} (ha : 0 ≤ a.toInt ∧ a.toInt < (m.1 0 3).toInt) : (F_X0_isStarUp k a b c).toInt = 0 ↔ (F_X8_isUp 0 a b m).toInt = 0 := by
  obtain ⟨⟨s1, -⟩, ⟨-, -, f28⟩, hs, -, -⟩ := h
  have c0 : (0 : Int32).toInt = 0 := rfl
  have c1 : (1 : Int32).toInt = 1 := rfl
  have hst := hasSt k a c
  rw [s1.1] at hst
  have n0 := cnI (x := a) ha.1
  have m4 : ((4 : Int32) * a).toInt = 4 * a.toInt := mlI rfl rfl (by omega) (by omega)
  have m40 : ((4 : Int32) * a + 0).toInt = 4 * a.toInt + 0 := adI m4 rfl (by omega) (by omega)
  have m41 : ((4 : Int32) * a + 1).toInt = 4 * a.toInt + 1 := adI m4 rfl (by omega) (by omega)
  have n40 := cnI (x := (4 : Int32) * a + 0) (by omega)
  have n41 := cnI (x := (4 : Int32) * a + 1) (by omega)
  have q := hs a.toNatClampNeg (by omega)
  have hcl := isCl k b c
  rw [f28] at hcl
  simp only [F_X0_isStarUp, F_X8_isUp, xl_d, Nat.reduceAdd, cn28]
  rw [show ((4 : Int32) * a + 0).toNatClampNeg = 4 * a.toNatClampNeg by omega, show ((4 : Int32) * a + 1).toNatClampNeg = 4 * a.toNatClampNeg + 1 by omega, if_neg (fun z => hst.mp z ha), q.1, q.2.1]
  have hi := inI (x := b) (b := (m.1 2 (4 * a.toNatClampNeg)).toInt64) (c := (m.1 2 (4 * a.toNatClampNeg + 1)).toInt64) (lo := (m.1 2 (4 * a.toNatClampNeg)).toInt) (hi := (m.1 2 (4 * a.toNatClampNeg + 1)).toInt) m (i64_of _) (i64_of _)
  repeat' split
  all_goals omega
theorem isUp01 {k : Nat} {a b : Int32} {c : St} (h : ¬ (0 ≤ a.toInt ∧ a.toInt < (c.1 k 3).toInt)) : F_X0_isStarUp k a b c = 0 := by
  simp only [F_X0_isStarUp, xl_d]
  rw [if_pos ((hasSt k a c).mpr h)]
/-- pass -/
theorem psC (p : Nat) (x y z : Int32) (c : St) : (F_X2_pass p x y z c).1 p 0 = c.1 p 0 + 1 ∧ (F_X2_pass p x y z c).1 p 1 = c.1 p 1 + x ∧ (F_X2_pass p x y z c).1 p 2 = c.1 p 2 + y ∧ (F_X2_pass p x y z c).1 p 3 = (if (0 : Int32) < c.1 p 3 - z then c.1 p 3 - z else 0) ∧ ∀ a b : Nat, (a ≠ p ∨ 4 ≤ b) → (F_X2_pass p x y z c).1 a b = c.1 a b := by
  simp only [F_X2_pass, xl_d]
  have a1 : ∀ v : Int32, (up1 c p 0 v).1 p 1 = c.1 p 1 := fun v => up1_n _ _ (by omega)
  have a2 : ∀ v w : Int32, (up1 (up1 c p 0 v) p 1 w).1 p 2 = c.1 p 2 := fun v w => by rw [up1_n _ _ (by omega), up1_n _ _ (by omega)]
  have a3 : ∀ v w x : Int32, (up1 (up1 (up1 c p 0 v) p 1 w) p 2 x).1 p 3 = c.1 p 3 := fun v w x => by rw [up1_n _ _ (by omega), up1_n _ _ (by omega), up1_n _ _ (by omega)]
  rw [a1, a2, a3]
  refine ⟨?_, ?_, ?_, ?_, fun a b z => ?_⟩
  · rw [up1_n _ _ (by omega), up1_n _ _ (by omega), up1_n _ _ (by omega), up1_s]
  · rw [up1_n _ _ (by omega), up1_n _ _ (by omega), up1_s]
  · rw [up1_n _ _ (by omega), up1_s]
  · rw [up1_s]
  · rw [up1_n _ _ (by omega), up1_n _ _ (by omega), up1_n _ _ (by omega), up1_n _ _ (by omega)]
theorem cnS {p : Nat} {c : St} : (F_X2_canStep p c).toInt = 0 ↔ ¬ (0 < (c.1 p 3).toInt ∧ (c.1 p 0).toInt < 10) := by
  have c0 : (0 : Int32).toInt = 0 := rfl
  have c1 : (1 : Int32).toInt = 1 := rfl
  simp only [F_X2_canStep, xl_d]
  repeat' split
  all_goals omega
theorem cwM {m : St} : (F_X8_canWalk 0 m).toInt = 0 ↔ ¬ (0 < (m.1 2 27).toInt ∧ (m.1 2 29).toInt < 10) := by
  have c0 : (0 : Int32).toInt = 0 := rfl
  have c1 : (1 : Int32).toInt = 1 := rfl
  simp only [F_X8_canWalk, xl_d, Nat.reduceAdd, cn27, cn29]
  repeat' split
  all_goals omega
/-- what a step does: more miles, more to the side, water drunk, whether it was blind -/
def SO (m u : St) (x y z : Int32) (b : Int) : Prop := u.1 2 29 = m.1 2 29 + 1 ∧ u.1 2 30 = m.1 2 30 + x ∧ u.1 2 31 = m.1 2 31 + y ∧ u.1 2 27 = (if z.toInt < (m.1 2 27).toInt then m.1 2 27 - z else 0) ∧ u.1 0 19 = (if b = 0 then m.1 0 19 else m.1 0 19 + 1) ∧ ∀ s t : Nat, ((s ≠ 2 ∨ (t ≠ 27 ∧ t ≠ 29 ∧ t ≠ 30 ∧ t ≠ 31)) ∧ (s ≠ 0 ∨ t ≠ 19)) → u.1 s t = m.1 s t
theorem AtR.st {k p : Nat} {c m u : St} {x y z : Int32} {b : Int} (h : AtR k p c m) (hp : p < k ∨ k + 5 ≤ p) (hw : 0 < (m.1 2 27).toInt ∧ (m.1 2 29).toInt < 10) (hz : 0 ≤ z.toInt ∧ z.toInt ≤ 2) (hxx : 0 ≤ x.toInt ∧ x.toInt ≤ 3) (hyy : -30 ≤ y.toInt ∧ y.toInt ≤ 30) (hu : SO m u x y z b) : AtR k p (F_X2_pass p x y z c) u := by
  obtain ⟨u29, u30, u31, u27, u19, uf⟩ := hu
  obtain ⟨p0, p1, p2, p3, pf⟩ := psC p x y z c
  obtain ⟨⟨s1, w1⟩, ⟨f1, f2, f3⟩, hs, hwk, ⟨q1, q2, q3, q4⟩⟩ := h
  have e29 : (m.1 2 29 + 1).toInt = (m.1 2 29).toInt + 1 := adI rfl rfl (by omega) (by omega)
  have ez : (m.1 2 27 - z).toInt = (m.1 2 27).toInt - z.toInt := sbI rfl rfl (by omega) (by omega)
  have c0 : (0 : Int32).toInt = 0 := rfl
  have e27 : (if (0 : Int32) < m.1 2 27 - z then m.1 2 27 - z else 0) = (if z.toInt < (m.1 2 27).toInt then m.1 2 27 - z else (0 : Int32)) := by
    by_cases g : z.toInt < (m.1 2 27).toInt
    · rw [if_pos g, if_pos (by rw [Int32.lt_iff_toInt_lt]; omega)]
    · rw [if_neg g, if_neg (by rw [Int32.lt_iff_toInt_lt]; omega)]
  refine ⟨⟨?_, ?_⟩, ⟨?_, ?_, ?_⟩, fun i hi => ?_, fun i hi => ?_, ⟨?_, ?_, ?_, ?_⟩⟩
  · rw [pf k 3 (by omega), uf 0 3 (by omega)]; exact s1
  · rw [pf k 6 (by omega), uf 0 4 (by omega)]; exact w1
  · rw [pf k 7 (by omega), uf 0 4 (by omega), uf 2 23 (by omega)]; exact f1
  · rw [pf k 10 (by omega), uf 2 26 (by omega)]; exact f2
  · rw [pf k 11 (by omega), uf 2 28 (by omega)]; exact f3
  · rw [uf 0 3 (by omega)] at hi
    rw [pf (k + 1) i (by omega), pf (k + 2) i (by omega), pf (k + 3) i (by omega), pf k 4 (by omega), uf 2 (4 * i) (by omega), uf 2 (4 * i + 1) (by omega), uf 2 (4 * i + 2) (by omega), uf 2 (4 * i + 3) (by omega)]
    exact hs i hi
  · rw [uf 0 4 (by omega)] at hi
    rw [pf (k + 4) i (by omega), uf 2 (20 + i) (by omega)]
    exact hwk i hi
  · rw [p3, u27, q1.1, e27]
    refine ⟨rfl, ?_, ?_⟩
    · split <;> omega
    · split <;> omega
  · rw [p0, u29, q2.1]
    exact ⟨rfl, by omega, by omega⟩
  · rw [p1, u30, u29, q3.1]
    have e30 : (m.1 2 30 + x).toInt = (m.1 2 30).toInt + x.toInt := adI rfl rfl (by omega) (by omega)
    exact ⟨rfl, by omega, by omega⟩
  · rw [p2, u31, u29, q4.1]
    have e31 : (m.1 2 31 + y).toInt = (m.1 2 31).toInt + y.toInt := adI rfl rfl (by omega) (by omega)
    exact ⟨rfl, by omega, by omega⟩
