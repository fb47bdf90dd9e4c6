/-! answers that only read -/
theorem sizeI (x : Int32) (v : St) : F_X8_sizeOf x v = (if 0 ≤ x then x else 0 - x) := by
  have e : (0 ≤ x) ↔ ¬ (x.toInt < 0) := by
    rw [Int32.le_iff_toInt_le]
    have c0 : (0 : Int32).toInt = 0 := rfl
    omega
  simp only [F_X8_sizeOf, xl_d]
  by_cases d : x.toInt < 0
  · rw [if_pos d, if_neg (fun z => e.mp z d), Int32.zero_sub]
  · rw [if_neg d, if_pos (e.mpr d)]
theorem wthB {k p : Nat} {c m : St} (h9 : c.1 k 9 = m.1 2 25) (h2 : c.1 p 2 = m.1 2 31) (v : St) : F_X0_isWithinBroad k p c = if (m.1 2 25).toInt < (F_X8_sizeOf (m.1 2 31) v).toInt then 0 else 1 := by
  rw [sizeI]
  simp only [F_X0_isWithinBroad, xl_d]
  rw [h9, h2]
theorem atW {k p : Nat} {c m : St} (h8 : c.1 k 8 = m.1 2 24) (h9 : c.1 k 9 = m.1 2 25) (h1 : c.1 p 1 = m.1 2 30) (h2 : c.1 p 2 = m.1 2 31) : F_X0_isAtWell k p c = F_X8_isAtWell 0 m := by
  have c0 : (0 : Int32).toInt = 0 := rfl
  have c1 : (1 : Int32).toInt = 1 := rfl
  simp only [F_X0_isAtWell, F_X8_isAtWell, xl_d, cn30, cn24, cn31, cn25, Nat.reduceAdd]
  rw [wthB h9 h2 m, h8, h1]
  by_cases d : (m.1 2 30).toInt < (m.1 2 24).toInt
  · rw [if_pos d, if_pos d]
  · rw [if_neg d, if_neg d]
    by_cases e : (m.1 2 25).toInt < (F_X8_sizeOf (m.1 2 31) m).toInt
    · rw [if_pos e, if_pos c0]
    · rw [if_neg e, if_neg (by omega)]
theorem oneI (x : Int32) (v w : St) : F_X7_oneIf x v = F_X8_flag x w := rfl
theorem ans_torn {c m : St} {r r2 : Int32} (h : Sim c m) (hC : r = F_X7_torn 0 c) (hM : r2 = F_X8_torn 0 m) : r = r2 := by
  simp only [F_X7_torn, F_X8_torn, xl_d] at hC hM
  rw [hC, hM]; exact h.2.2.2.2
theorem ans_walker {c m : St} {r r2 a0 : Int32} (h : Sim c m) (hC : r = F_X7_walker 0 a0 c) (hM : r2 = F_X8_walker 0 a0 m) : r = r2 := by
  have g := h.1
  have hs := hasWk 12 a0 c
  rw [g.1.2.1] at hs
  have hm := isWkM (a := a0) g.1.2.2
  simp only [F_X7_walker, xl_d, Nat.reduceAdd] at hC
  simp only [F_X8_walker, xl_d, Nat.reduceAdd] at hM
  by_cases p : 0 ≤ a0.toInt ∧ a0.toInt < (m.1 0 4).toInt
  · rw [if_neg (fun z => hs.mp z p)] at hC
    rw [if_neg (fun z => hm.mp z p)] at hM
    have h3 := g.1.2.2
    have a2 : ((20 : Int32) + a0).toInt = 20 + a0.toInt := adI rfl rfl (by omega) (by omega)
    have n2 := cnI (x := (20 : Int32) + a0) (by omega)
    have n0 := cnI (x := a0) (by omega)
    have ei : ((20 : Int32) + a0).toNatClampNeg = 0 + 20 + a0.toNatClampNeg := by omega
    rw [hC, hM, ei]
    exact (g.2.2.2.1 a0.toNatClampNeg (by omega)).1
  · rw [if_pos (hs.mpr p)] at hC
    rw [if_pos (hm.mpr p)] at hM
    rw [hC, hM]
theorem ans_plan {c m : St} {r r2 a0 : Int32} (h : Sim c m) (hC : r = F_X7_plan 0 a0 c) (hM : r2 = F_X8_plan 0 a0 m) : r = r2 := by
  have g := h.1
  have gp := g.2.2.2.2.1
  have hs := hasPl 12 a0 c
  rw [gp.1.1] at hs
  have h3 := gp.1.2
  rw [Nat.zero_add] at h3 hs
  have e : (m.1 1 32 - 1).toInt = (m.1 1 32).toInt - 1 := sbI rfl rfl (by omega) (by omega)
  have hm := inI (x := a0) (b := 0) (c := (m.1 1 32 - 1).toInt64) (lo := 0) (hi := (m.1 1 32).toInt - 1) m rfl (by rw [i64_of, e])
  simp only [F_X7_plan, xl_d, Nat.reduceAdd] at hC
  simp only [F_X8_plan, xl_d, Nat.reduceAdd, cn32] at hM
  by_cases p : 0 ≤ a0.toInt ∧ a0.toInt < (m.1 1 32).toInt
  · rw [if_neg (fun z => hs.mp z p)] at hC
    rw [if_neg (fun z => hm.mp z (by omega))] at hM
    have a2 : ((33 : Int32) + a0).toInt = 33 + a0.toInt := adI rfl rfl (by omega) (by omega)
    have n2 := cnI (x := (33 : Int32) + a0) (by omega)
    have n0 := cnI (x := a0) (by omega)
    have ei : ((33 : Int32) + a0).toNatClampNeg = 0 + 33 + a0.toNatClampNeg := by omega
    rw [hC, hM, ei]
    exact (gp.2 a0.toNatClampNeg (by rw [Nat.zero_add]; omega)).1
  · rw [if_pos (hs.mpr p)] at hC
    rw [if_pos (hm.mpr (by omega))] at hM
    rw [hC, hM]
theorem ans_star {c m : St} {r r2 a0 a1 : Int32} (h : Sim c m) (hC : r = F_X7_star 0 a0 a1 c) (hM : r2 = F_X8_star 0 a0 a1 m) : r = r2 := by
  have g := h.1
  have hs := hasSt 12 a0 c
  rw [g.1.1.1] at hs
  have hm := isStM (a := a0) g.1.1.2
  have hi := inI (x := a1) (b := 0) (c := 3) (lo := 0) (hi := 3) m rfl rfl
  simp only [F_X7_star, xl_d, Nat.reduceAdd, onKn] at hC
  simp only [F_X8_star, xl_d, Nat.reduceAdd] at hM
  by_cases p : 0 ≤ a0.toInt ∧ a0.toInt < (m.1 0 3).toInt
  · rw [if_neg (fun z => hs.mp z p)] at hC
    rw [if_neg (fun z => hm.mp z p)] at hM
    have h5 := g.1.1.2
    have m4 : ((4 : Int32) * a0).toInt = 4 * a0.toInt := mlI rfl rfl (by omega) (by omega)
    have n0 := cnI (x := a0) (by omega)
    have gi := g.2.2.1.2 a0.toNatClampNeg (by omega)
    have e0 : Int32.ofNat a0.toNatClampNeg = a0 := (i32_of (x := a0) (n := a0.toNatClampNeg) (by omega) (by omega)).symm
    rw [e0] at gi
    by_cases q : 0 ≤ a1.toInt ∧ a1.toInt ≤ 3
    · rw [if_neg (fun z => hi.mp z q)] at hM
      have a2 : ((4 : Int32) * a0 + a1).toInt = 4 * a0.toInt + a1.toInt := adI m4 rfl (by omega) (by omega)
      have n2 := cnI (x := (4 : Int32) * a0 + a1) (by omega)
      by_cases q0 : a1.toInt = 0
      · rw [if_pos q0] at hC
        rw [hC, hM, show ((4 : Int32) * a0 + a1).toNatClampNeg = 0 + 4 * a0.toNatClampNeg by omega]
        exact gi.1
      · rw [if_neg q0] at hC
        by_cases q1 : a1.toInt = 1
        · rw [if_pos q1] at hC
          rw [hC, hM, show ((4 : Int32) * a0 + a1).toNatClampNeg = 0 + 4 * a0.toNatClampNeg + 1 by omega]
          exact gi.2.1
        · rw [if_neg q1] at hC
          by_cases q2 : a1.toInt = 2
          · rw [if_pos q2] at hC
            rw [hC, hM, show ((4 : Int32) * a0 + a1).toNatClampNeg = 0 + 4 * a0.toNatClampNeg + 2 by omega]
            exact gi.2.2.1.1
          · rw [if_neg q2, if_pos (by omega)] at hC
            rw [hC, hM, show ((4 : Int32) * a0 + a1).toNatClampNeg = 0 + 4 * a0.toNatClampNeg + 3 by omega]
            exact gi.2.2.2
    · rw [if_pos (hi.mpr q)] at hM
      rw [if_neg (by omega), if_neg (by omega), if_neg (by omega), if_neg (by omega)] at hC
      rw [hC, hM]
  · rw [if_pos (hs.mpr p)] at hC
    rw [if_pos (hm.mpr p)] at hM
    rw [hC, hM]
theorem ans_pull {c m : St} {r r2 a0 : Int32} {w : St} (h : Sim c m) (hC : r = F_X7_pull 0 a0 c) (hM : (r2, w) = F_X8_pull 0 a0 m) : r = r2 := by
  have hs := isHrC (a := a0) (c := c)
  have hm := isHrM (a := a0) (m := m)
  have hA := h.1.at (p := 17) (stM1 m).1 ((stM1 m).2 0 3 (by omega)) ((stM1 m).2 0 4 (by omega)) (fun _ _ => rfl)
  simp only [F_X7_pull, xl_d, Nat.reduceAdd] at hC
  simp only [F_X8_pull, xl_d, Nat.reduceAdd] at hM
  by_cases p : 0 ≤ a0.toInt ∧ a0.toInt ≤ 9
  · rw [if_neg (fun z => hs.mp z p)] at hC
    rw [if_neg (fun z => hm.mp z p)] at hM
    rw [hC, (Prod.mk.inj hM).1]
    exact (hA.pull (a := a0) (by omega)).1
  · rw [if_pos (hs.mpr p)] at hC
    rw [if_pos (hm.mpr p)] at hM
    rw [hC, (Prod.mk.inj hM).1]
theorem ans_rule {c m : St} {r r2 a0 : Int32} {w : St} (h : Sim c m) (hC : r = F_X7_rule 0 a0 c) (hM : (r2, w) = F_X8_rule 0 a0 m) : r = r2 := by
  have g := h.1
  obtain ⟨f1, f2, f3, f4, f5, f6, f7, f8, f9⟩ := g.2.1
  obtain ⟨s1, s2⟩ := stM1 m
  simp only [F_X7_rule, xl_d, Nat.reduceAdd] at hC
  simp only [F_X8_rule, xl_d, Nat.reduceAdd, cn31, cn32] at hM
  have hw := atW (k := 12) (p := 17) (c := c) (m := F_X8_starts 0 m) (by rw [s1 24 (by omega)]; exact f2) (by rw [s1 25 (by omega)]; exact f3) (by rw [s1 30 (by omega)]; exact f8.1) (by rw [s1 31 (by omega)]; exact f9.1)
  rw [hw] at hC
  generalize F_X8_isAtWell 0 (F_X8_starts 0 m) = q at hC hM
  rw [s2 0 3 (by omega), s2 0 4 (by omega), s2 1 _ (by omega), s2 1 31 (by omega), s2 1 32 (by omega)] at hM
  have hx : 0 ≤ a0.toInt → a0.toInt ≤ 12 → ((23 : Int32) + a0 - 2).toNatClampNeg = (21 + a0.toInt).toNat := fun z1 z2 => by
    have b1 : ((23 : Int32) + a0).toInt = 23 + a0.toInt := adI rfl rfl (by omega) (by omega)
    have b2 : ((23 : Int32) + a0 - 2).toInt = 23 + a0.toInt - 2 := sbI b1 rfl (by omega) (by omega)
    have b3 := cnI (x := (23 : Int32) + a0 - 2) (by omega)
    omega
  generalize ((23 : Int32) + a0 - 2).toNatClampNeg = y at hM hx
  by_cases q0 : a0.toInt = 0
  · rw [if_pos q0] at hC hM; rw [hC, (Prod.mk.inj hM).1]; exact g.1.1.1
  rw [if_neg q0] at hC hM
  by_cases q1 : a0.toInt = 1
  · rw [if_pos q1] at hC hM; rw [hC, (Prod.mk.inj hM).1]; exact g.1.2.1
  rw [if_neg q1] at hC hM
  by_cases q2 : a0.toInt = 2
  · obtain rfl : y = 23 := by have := hx (by omega) (by omega); omega
    rw [if_pos q2] at hC hM; rw [hC, (Prod.mk.inj hM).1]; exact f1.1
  rw [if_neg q2] at hC hM
  by_cases q3 : a0.toInt = 3
  · obtain rfl : y = 24 := by have := hx (by omega) (by omega); omega
    rw [if_pos q3] at hC hM; rw [hC, (Prod.mk.inj hM).1]; exact f2
  rw [if_neg q3] at hC hM
  by_cases q4 : a0.toInt = 4
  · obtain rfl : y = 25 := by have := hx (by omega) (by omega); omega
    rw [if_pos q4] at hC hM; rw [hC, (Prod.mk.inj hM).1]; exact f3
  rw [if_neg q4] at hC hM
  by_cases q5 : a0.toInt = 5
  · obtain rfl : y = 26 := by have := hx (by omega) (by omega); omega
    rw [if_pos q5] at hC hM; rw [hC, (Prod.mk.inj hM).1]; exact f4
  rw [if_neg q5] at hC hM
  by_cases q6 : a0.toInt = 6
  · obtain rfl : y = 27 := by have := hx (by omega) (by omega); omega
    rw [if_pos q6] at hC hM; rw [hC, (Prod.mk.inj hM).1]; exact f5.1
  rw [if_neg q6] at hC hM
  by_cases q7 : a0.toInt = 7
  · obtain rfl : y = 28 := by have := hx (by omega) (by omega); omega
    rw [if_pos q7] at hC hM; rw [hC, (Prod.mk.inj hM).1]; exact f6
  rw [if_neg q7] at hC hM
  by_cases q8 : a0.toInt = 8
  · obtain rfl : y = 29 := by have := hx (by omega) (by omega); omega
    rw [if_pos q8] at hC hM; rw [hC, (Prod.mk.inj hM).1]; exact f7.1
  rw [if_neg q8] at hC hM
  by_cases q9 : a0.toInt = 9
  · obtain rfl : y = 30 := by have := hx (by omega) (by omega); omega
    rw [if_pos q9] at hC hM; rw [hC, (Prod.mk.inj hM).1]; exact f8.1
  rw [if_neg q9] at hC hM
  by_cases q10 : a0.toInt = 10
  · rw [if_pos q10] at hC hM; rw [hC, (Prod.mk.inj hM).1]
    have f9 : c.1 17 2 = m.1 1 31 := f9.1
    rw [f9]
  rw [if_neg q10] at hC hM
  by_cases q11 : a0.toInt = 11
  · rw [if_pos q11] at hC hM; rw [hC, (Prod.mk.inj hM).1]; rfl
  rw [if_neg q11] at hC hM
  by_cases q12 : a0.toInt = 12
  · rw [if_pos q12] at hC hM; rw [hC, (Prod.mk.inj hM).1]
    exact g.2.2.2.2.1.1.1
  rw [if_neg q12] at hC hM
  rw [hC, (Prod.mk.inj hM).1]
/-! bits one by one -/
theorem wbt_a : ∀ i : Nat, i < 10 → ∀ a : Nat, a < 2 ^ i → Int32.ofNat a &&& (((1 : Int32) <<< (Int32.ofNat i &&& 31)) ^^^ (-1)) = Int32.ofNat a ∧ Int32.ofNat a ||| ((0 : Int32) <<< (Int32.ofNat i &&& 31)) = Int32.ofNat a ∧ (Int32.ofNat a ||| ((1 : Int32) <<< (Int32.ofNat i &&& 31))).toInt = ((a + 2 ^ i : Nat) : Int) := by decide +kernel
theorem wbtC {a b x : Int32} {i : Nat} (v : St) (hb : b.toInt = (i : Int)) (hi : i < 10) (ha : 0 ≤ a.toInt ∧ a.toInt < ((2 ^ i : Nat) : Int)) : F_X7_withBit a b x v = a ||| (F_X8_flag x v <<< (b &&& 31)) ∧ 0 ≤ (F_X7_withBit a b x v).toInt ∧ (F_X7_withBit a b x v).toInt < ((2 ^ (i + 1) : Nat) : Int) := by
  have hp : 2 ^ i ≤ 2 ^ 9 := Nat.pow_le_pow_right (by omega) (by omega)
  have eb := i32_of (x := b) (n := i) hb (by omega)
  have ea := i32_of (x := a) (n := a.toInt.toNat) (by omega) (by omega)
  have t := wbt_a i hi a.toInt.toNat (by omega)
  rw [← eb, ← ea] at t
  have hq : 2 ^ (i + 1) = 2 * 2 ^ i := by rw [Nat.pow_succ, Nat.mul_comm]
  simp only [F_X7_withBit, F_X8_flag, xl_d]
  by_cases d : x.toInt = 0
  · rw [if_pos d, if_pos d, t.1, t.2.1]
    exact ⟨rfl, by omega, by omega⟩
  · rw [if_neg d, if_neg d]
    refine ⟨rfl, ?_, ?_⟩ <;> (rw [t.2.2]; omega)
theorem flagE {x y : Int32} (v w : St) (h : x.toInt = 0 ↔ y.toInt = 0) : F_X8_flag x v = F_X8_flag y w := by
  simp only [F_X8_flag]
  by_cases d : x.toInt = 0
  · rw [if_pos d, if_pos (h.mp d)]
  · rw [if_neg d, if_neg (fun z => d (h.mpr z))]
theorem flag_v (x : Int32) (v w : St) : F_X8_flag x v = F_X8_flag x w := rfl
theorem ans_up {c m : St} {r r2 a0 : Int32} {w : St} (h : Sim c m) (hC : r = F_X7_up 0 a0 c) (hM : (r2, w) = F_X8_up 0 a0 m) : r = r2 := by
  have c0 : (0 : Int32).toInt = 0 := rfl
  have hs := isHrC (a := a0) (c := c)
  have hm := isHrM (a := a0) (m := m)
  have hA := h.1.at (p := 17) (stM1 m).1 ((stM1 m).2 0 3 (by omega)) ((stM1 m).2 0 4 (by omega)) (fun _ _ => rfl)
  generalize hMs : F_X8_starts 0 m = u at hA
  have h5 := hA.1.1
  unfold F_X7_up at hC
  unfold F_X8_up at hM
  rw [hMs] at hM
  obtain ⟨N, hN⟩ : ∃ N : Nat, N = (2147483647 - (0 : Int32).toInt).toNat := ⟨_, rfl⟩
  rw [← hN] at hC hM
  obtain ⟨P, eP, hC⟩ := xl_e hC.symm
  obtain ⟨Q, eQ, hM⟩ := xl_e hM.symm
  have Lp : ∀ (n : Nat) (y a : Int32) (i : Nat), (2147483647 - y.toInt).toNat < n → y.toInt = (i : Int) → (i : Int) ≤ (u.1 0 3).toInt → 0 ≤ a.toInt ∧ a.toInt < ((2 ^ i : Nat) : Int) → lp P (fun _ _ => (0 : Int32)) n a y = (lp Q (fun _ _ _ => ((0 : Int32), m)) n a y u).1 := by
    intro n
    induction n with
    | zero => intro y a i hm; exact absurd hm (Nat.not_lt_zero _)
    | succ n ih =>
      intro y a i hm hy h1 ha
      rw [lp_s, lp_s]
      by_cases d : y.toInt < (u.1 0 3).toInt
      · have ey : (y + 1).toInt = y.toInt + 1 := adI rfl rfl (by omega) (by omega)
        have hb := wbtC (x := F_X0_isStarUp 12 y a0 c) c hy (by omega) ha
        have hu := hA.up (a := y) (b := a0) (by omega)
        have ep : P (lp P (fun _ _ => (0 : Int32)) n) a y = lp P (fun _ _ => (0 : Int32)) n (F_X7_withBit a y (F_X0_isStarUp 12 y a0 c) c) (y + 1) := by
          generalize lp P (fun _ _ => (0 : Int32)) n = sf
          rw [eP]
          simp only [xl_d, Nat.reduceAdd]
          rw [if_pos (by rw [h5.1]; exact d)]
        have eq : Q (lp Q (fun _ _ _ => ((0 : Int32), m)) n) a y u = lp Q (fun _ _ _ => ((0 : Int32), m)) n (F_X7_withBit a y (F_X0_isStarUp 12 y a0 c) c) (y + 1) u := by
          rw [hb.1, flagE c u hu]
          generalize lp Q (fun _ _ _ => ((0 : Int32), m)) n = sf
          rw [eQ]
          simp only [xl_d, Nat.reduceAdd]
          rw [if_pos d]
        rw [ep, eq]
        exact ih (y + 1) _ (i + 1) (by omega) (by omega) (by omega) hb.2
      · have ep : P (lp P (fun _ _ => (0 : Int32)) n) a y = a := by
          generalize lp P (fun _ _ => (0 : Int32)) n = sf
          rw [eP]
          simp only [xl_d, Nat.reduceAdd]
          rw [if_neg (by rw [h5.1]; exact d)]
        have eq : Q (lp Q (fun _ _ _ => ((0 : Int32), m)) n) a y u = (a, u) := by
          generalize lp Q (fun _ _ _ => ((0 : Int32), m)) n = sf
          rw [eQ]
          simp only [xl_d, Nat.reduceAdd]
          rw [if_neg d]
        rw [ep, eq]
  rw [xl_d] at hC hM
  by_cases p : 0 ≤ a0.toInt ∧ a0.toInt ≤ 9
  · rw [if_neg (fun z => hs.mp z p)] at hC
    rw [if_neg (fun z => hm.mp z p), xl_d] at hM
    have := Lp (N + 1) 0 0 0 (by rw [← hN]; exact Nat.lt_succ_self N) rfl (by omega) ⟨by decide, by decide⟩
    rw [hM, hC] at this
    exact this
  · rw [if_pos (hs.mpr p)] at hC
    rw [if_pos (hm.mpr p)] at hM
    rw [← hC]; exact (Prod.mk.inj hM).1
/-! how many stars are known -/
def lowB (K : Int32) (i : Nat) : Int32 := i.rec 0 (fun j a => a ||| (((K >>> (Int32.ofNat j &&& 31)) &&& 1) <<< (Int32.ofNat j &&& 31)))
def sumB (K : Int32) (i : Nat) : Int32 := i.rec 0 (fun j a => a + ((K >>> (Int32.ofNat j &&& 31)) &&& 1))
theorem lowB_t : ∀ s : Nat, s < 6 → ∀ k : Nat, k < 2 ^ s → lowB (Int32.ofNat k) s = Int32.ofNat k := by decide +kernel
theorem sumB_t : ∀ k : Nat, k < 32 → F_J6_bitCount_0f7a4 (Int32.ofNat k) v0 = sumB (Int32.ofNat k) 5 ∧ 0 ≤ (sumB (Int32.ofNat k) 5).toInt ∧ (sumB (Int32.ofNat k) 5).toInt ≤ 5 := by decide +kernel
theorem knM {c m : St} (h : NR 12 0 c m) : F_X8_known 0 m = c.1 12 4 := by
  have c0 : (0 : Int32).toInt = 0 := rfl
  have h5 := h.1.1.2
  generalize hu : F_X8_known 0 m = u
  unfold F_X8_known at hu
  obtain ⟨N, hN⟩ : ∃ N : Nat, N = (2147483647 - (0 : Int32).toInt).toNat := ⟨_, rfl⟩
  rw [← hN] at hu
  obtain ⟨P, eP, hu⟩ := xl_e hu
  have Lp : ∀ (n : Nat) (y : Int32) (i : Nat), (2147483647 - y.toInt).toNat < n → y.toInt = (i : Int) → (i : Int) ≤ (m.1 0 3).toInt → lp P (fun _ _ => (0 : Int32)) n (lowB (c.1 12 4) i) y = lowB (c.1 12 4) (m.1 0 3).toInt.toNat := by
    intro n
    induction n with
    | zero => intro y i hm; exact absurd hm (Nat.not_lt_zero _)
    | succ n ih =>
      intro y i hm hy h1
      rw [lp_s]
      by_cases d : y.toInt < (m.1 0 3).toInt
      · have ey : (y + 1).toInt = y.toInt + 1 := adI rfl rfl (by omega) (by omega)
        have m4 : ((4 : Int32) * y).toInt = 4 * y.toInt := mlI rfl rfl (by omega) (by omega)
        have a2 : ((4 : Int32) * y + 3).toInt = 4 * y.toInt + 3 := adI m4 rfl (by omega) (by omega)
        have n2 := cnI (x := (4 : Int32) * y + 3) (by omega)
        have gi := (h.2.2.1.2 i (by omega)).2.2.2
        have ep : P (lp P (fun _ _ => (0 : Int32)) n) (lowB (c.1 12 4) i) y = lp P (fun _ _ => (0 : Int32)) n (lowB (c.1 12 4) (i + 1)) (y + 1) := by
          generalize lp P (fun _ _ => (0 : Int32)) n = sf
          rw [eP]
          simp only [xl_d, Nat.reduceAdd]
          rw [if_pos d, show ((4 : Int32) * y + 3).toNatClampNeg = 0 + 4 * i + 3 by omega, ← gi, i32_of hy (by omega)]
          rfl
        rw [ep]
        exact ih (y + 1) (i + 1) (by omega) (by omega) (by omega)
      · have ep : P (lp P (fun _ _ => (0 : Int32)) n) (lowB (c.1 12 4) i) y = lowB (c.1 12 4) i := by
          generalize lp P (fun _ _ => (0 : Int32)) n = sf
          rw [eP]
          simp only [xl_d, Nat.reduceAdd]
          rw [if_neg d]
        rw [ep, show (m.1 0 3).toInt.toNat = i by omega]
  have hl := Lp (N + 1) 0 0 (by rw [← hN]; exact Nat.lt_succ_self N) rfl (by omega)
  have hk := h.2.2.1.1
  have hk2 := hk.2.2 (m.1 0 3).toInt.toNat (by omega) (by omega)
  have ek := i32_of (x := c.1 12 4) (n := (c.1 12 4).toInt.toNat) (by omega) (by omega)
  have t := lowB_t (m.1 0 3).toInt.toNat (by omega) (c.1 12 4).toInt.toNat (by omega)
  rw [← ek] at t
  rw [← hu, ← t]
  exact hl
theorem btM (K : Int32) (m : St) : F_X8_bitsOf K m = sumB K 5 := by
  have c0 : (0 : Int32).toInt = 0 := rfl
  generalize hu : F_X8_bitsOf K m = u
  unfold F_X8_bitsOf at hu
  obtain ⟨N, hN⟩ : ∃ N : Nat, N = (2147483647 - (0 : Int32).toInt).toNat := ⟨_, rfl⟩
  rw [← hN] at hu
  obtain ⟨P, eP, hu⟩ := xl_e hu
  have Lp : ∀ (n : Nat) (y : Int32) (i : Nat), (2147483647 - y.toInt).toNat < n → y.toInt = (i : Int) → (i : Int) ≤ 5 → lp P (fun _ _ => (0 : Int32)) n (sumB K i) y = sumB K 5 := by
    intro n
    induction n with
    | zero => intro y i hm; exact absurd hm (Nat.not_lt_zero _)
    | succ n ih =>
      intro y i hm hy h1
      rw [lp_s]
      by_cases d : y.toInt < 5
      · have ey : (y + 1).toInt = y.toInt + 1 := adI rfl rfl (by omega) (by omega)
        have ep : P (lp P (fun _ _ => (0 : Int32)) n) (sumB K i) y = lp P (fun _ _ => (0 : Int32)) n (sumB K (i + 1)) (y + 1) := by
          generalize lp P (fun _ _ => (0 : Int32)) n = sf
          rw [eP]
          simp only [xl_d, Nat.reduceAdd]
          rw [if_pos d, i32_of hy (by omega)]
          rfl
        rw [ep]
        exact ih (y + 1) (i + 1) (by omega) (by omega) (by omega)
      · have ep : P (lp P (fun _ _ => (0 : Int32)) n) (sumB K i) y = sumB K i := by
          generalize lp P (fun _ _ => (0 : Int32)) n = sf
          rw [eP]
          simp only [xl_d, Nat.reduceAdd]
          rw [if_neg d]
        rw [ep, show i = 5 by omega]
  rw [← hu]
  exact Lp (N + 1) 0 0 (by rw [← hN]; exact Nat.lt_succ_self N) rfl (by omega)
theorem btC {K : Int32} (c m : St) (h : 0 ≤ K.toInt ∧ K.toInt ≤ 31) : F_J6_bitCount_0f7a4 K c = F_X8_bitsOf K m ∧ 0 ≤ (F_X8_bitsOf K m).toInt ∧ (F_X8_bitsOf K m).toInt ≤ 5 := by
  have ek := i32_of (x := K) (n := K.toInt.toNat) (by omega) (by omega)
  have t := sumB_t K.toInt.toNat (by omega)
  rw [← ek] at t
  rw [btM]
  exact t
theorem ans_count {c m : St} {r r2 a0 : Int32} (h : Sim c m) (hC : r = F_X7_count 0 a0 c) (hM : r2 = F_X8_count 0 a0 m) : r = r2 := by
  have g := h.1
  have hk := g.2.2.1.1
  have c1 : ((-1 : Int32)).toInt = -1 := rfl
  simp only [F_X7_count, xl_d, Nat.reduceAdd, Nat.reduceMul, cn0, cn1] at hC
  simp only [F_X8_count, xl_d, Nat.reduceAdd, cn0, cn1, cn41] at hM
  rw [knM g, ← (btC c m ⟨hk.1, hk.2.1⟩).1] at hM
  by_cases q0 : a0.toInt = 0
  · rw [if_pos q0] at hC hM; rw [hC, hM]
  rw [if_neg q0] at hC hM
  by_cases q1 : a0.toInt = 1
  · rw [if_pos q1] at hC hM; rw [hC, hM]; exact g.2.2.2.2.2.1.1
  rw [if_neg q1] at hC hM
  by_cases q2 : a0.toInt = 2
  · rw [if_pos q2] at hC hM; rw [hC, hM, (h.2.1 0 (by omega)).1, (h.2.1 1 (by omega)).1]; rfl
  rw [if_neg q2] at hC hM
  by_cases q3 : a0.toInt = 3
  · rw [if_pos q3] at hC hM; rw [hC, hM]; exact h.2.2.1.1.1
  rw [if_neg q3] at hC hM
  by_cases q4 : a0.toInt = 4
  · rw [if_pos q4] at hC hM
    have hs := h.2.2.2.1 0 (by omega)
    obtain ⟨t1, t2, -⟩ := hs
    have t2 : c.1 83 1 = m.1 7 0 := t2.1
    have t1 : ((c.1 83 0).toInt = -1 ∧ (m.1 6 0).toInt = -4) ∨ (c.1 83 0 = m.1 6 0 ∧ 0 ≤ (m.1 6 0).toInt ∧ (m.1 6 0).toInt ≤ 2) := t1
    rcases t1 with t1 | t1
    · rw [if_pos t1.1] at hC; rw [if_pos t1.2] at hM; rw [hC, hM]
    · rw [if_neg (by rw [t1.1]; omega)] at hC; rw [if_neg (by omega)] at hM; rw [hC, hM, t2]
  rw [if_neg q4] at hC hM
  rw [hC, hM]
/-! the trial night and the reference's row -/
theorem AtR.fr {k p : Nat} {c m c2 m2 : St} (h : AtR k p c m) (e0 : c2.1 k = c.1 k) (e1 : c2.1 (k + 1) = c.1 (k + 1)) (e2 : c2.1 (k + 2) = c.1 (k + 2)) (e3 : c2.1 (k + 3) = c.1 (k + 3)) (e4 : c2.1 (k + 4) = c.1 (k + 4)) (ep : c2.1 p = c.1 p) (em : m2.1 2 = m.1 2) (h3 : m2.1 0 3 = m.1 0 3) (h4 : m2.1 0 4 = m.1 0 4) : AtR k p c2 m2 := by
  unfold AtR at h ⊢
  rw [e0, e1, e2, e3, e4, ep, em, h3, h4]
  exact h
def amO (a s : Int) : Prop := a = 5 ∨ a = 6 ∨ (0 ≤ a ∧ a < s)
def TR (c m : St) : Prop := AtR 22 27 c m ∧ (c.1 22 8 = m.1 2 24 ∧ c.1 22 9 = m.1 2 25) ∧ (c.1 22 14 = m.1 2 32 ∧ 0 ≤ (m.1 2 32).toInt ∧ (m.1 2 32).toInt ≤ 8) ∧ ∀ i : Nat, (i : Int) < (m.1 2 32).toInt → c.1 28 i = m.1 2 (33 + i) ∧ amO (m.1 2 (33 + i)).toInt (m.1 0 3).toInt
theorem TR.fr {c m c2 m2 : St} (h : TR c m) (hc : ∀ a b : Nat, 22 ≤ a → a < 29 → c2.1 a b = c.1 a b) (hm : ∀ a b : Nat, (a = 2 ∨ (a = 0 ∧ (b = 3 ∨ b = 4))) → m2.1 a b = m.1 a b) : TR c2 m2 := by
  have ec : ∀ a : Nat, 22 ≤ a → a < 29 → c2.1 a = c.1 a := fun a z1 z2 => funext fun b => hc a b z1 z2
  have em : m2.1 2 = m.1 2 := funext fun b => hm 2 b (by omega)
  have e3 := hm 0 3 (by omega)
  refine ⟨h.1.fr (ec _ (by omega) (by omega)) (ec _ (by omega) (by omega)) (ec _ (by omega) (by omega)) (ec _ (by omega) (by omega)) (ec _ (by omega) (by omega)) (ec _ (by omega) (by omega)) em e3 (hm 0 4 (by omega)), ?_⟩
  rw [ec 22 (by omega) (by omega), ec 28 (by omega) (by omega), em, e3]
  exact h.2
/-- what was seen -/
def SQ (c m : St) : Prop := (c.1 22 17 = m.1 1 41 ∧ 0 ≤ (m.1 1 41).toInt ∧ (m.1 1 41).toInt ≤ 6) ∧ ∀ i : Nat, (i : Int) < (m.1 1 41).toInt → c.1 29 i = m.1 1 (42 + 2 * i) ∧ c.1 30 i = m.1 1 (42 + 2 * i + 1) ∧ 0 ≤ (m.1 1 (42 + 2 * i)).toInt ∧ (m.1 1 (42 + 2 * i)).toInt ≤ 8
theorem NR.tr {c m : St} (h : NR 12 0 c m) : TR (F_X6_begin 21 12 c) (F_X8_starts 0 m) ∧ SQ (F_X6_begin 21 12 c) m ∧ ∀ a b : Nat, (a < 22 ∨ 31 ≤ a) → (F_X6_begin 21 12 c).1 a b = c.1 a b := by
  have e : F_X6_begin 21 12 c = F_X0_become 22 12 c := by simp only [F_X6_begin, xl_d, Nat.reduceAdd]
  rw [e]
  obtain ⟨b1, b2, b3, b4, b5, b6, b7⟩ := beN 22 12 (by omega) c
  obtain ⟨s1, s2⟩ := stM1 m
  generalize F_X0_become 22 12 c = u at *
  generalize F_X8_starts 0 m = w at *
  have n : NR 22 0 u m := h.mv rfl rfl (fun _ _ => rfl) b1 b2 b3 b4 b5 b6
  have hA : AtR 22 27 u w := n.at s1 (s2 0 3 (by omega)) (s2 0 4 (by omega)) (fun _ _ => rfl)
  obtain ⟨-, ⟨f1, f2, f3, f4, f5, f6, f7, f8, f9⟩, -, -, ⟨p1, p2⟩, ⟨q1, q2⟩⟩ := n
  simp only [Nat.zero_add, Nat.reduceAdd] at f2 f3 p1 p2 q1 q2
  refine ⟨⟨hA, ⟨by rw [s1 24 (by omega)]; exact f2, by rw [s1 25 (by omega)]; exact f3⟩, by rw [s1 32 (by omega)]; exact p1, fun i hi => ?_⟩, ⟨q1, q2⟩, b7⟩
  rw [s1 32 (by omega)] at hi
  rw [s1 (33 + i) (by omega), s2 0 3 (by omega)]
  have := p2 i hi
  refine ⟨this.1, ?_⟩
  unfold amO
  omega
/-- the reference's row behind i of its aims -/
def sq (m : St) (i : Nat) : St := i.rec m (fun j x => (F_X8_steps 0 (m.1 2 (33 + j)) x).2)
theorem sq_s (m : St) (i : Nat) : sq m (i + 1) = (F_X8_steps 0 (m.1 2 (33 + i)) (sq m i)).2 := rfl
def Fm (m x : St) : Prop := ∀ s t : Nat, ((s ≠ 2 ∨ (t ≠ 27 ∧ t ≠ 29 ∧ t ≠ 30 ∧ t ≠ 31)) ∧ (s ≠ 0 ∨ (t ≠ 19 ∧ t ≠ 20))) → x.1 s t = m.1 s t
def Fc (c u : St) : Prop := ∀ s t : Nat, ((s ≠ 21 ∨ (t ≠ 2 ∧ t ≠ 3)) ∧ (s ≠ 27 ∨ 4 ≤ t) ∧ s ≠ 31) → u.1 s t = c.1 s t
def WG (c m u w : St) : Prop := TR u w ∧ (u.1 21 2 = w.1 0 19 ∧ u.1 21 3 = w.1 0 20) ∧ Fc c u ∧ Fm m w ∧ TR u (sq m (m.1 2 32).toInt.toNat) ∧ (∀ j : Nat, (j : Int) ≤ (m.1 2 32).toInt → u.1 31 j = (sq m j).1 2 31) ∧ ∀ j : Nat, (j : Int) ≤ (m.1 2 32).toInt → Fm m (sq m j)
theorem TR.stp {c m : St} (h : TR c m) {i : Nat} (hi : (i : Int) < (m.1 2 32).toInt) : (F_X0_step 22 27 (m.1 2 (33 + i)) c).1 = (F_X8_steps 0 (m.1 2 (33 + i)) m).1 ∧ TR (F_X0_step 22 27 (m.1 2 (33 + i)) c).2 (F_X8_steps 0 (m.1 2 (33 + i)) m).2 := by
  obtain ⟨g1, g2, g3, g4, -⟩ := h.1.step (by omega) (h.2.2.2 i hi).2
  refine ⟨g1, g2, ⟨?_, ?_⟩, ?_, fun j hj => ?_⟩
  · rw [g3 22 8 (by omega), g4 2 24 (by omega)]; exact h.2.1.1
  · rw [g3 22 9 (by omega), g4 2 25 (by omega)]; exact h.2.1.2
  · rw [g3 22 14 (by omega), g4 2 32 (by omega)]; exact h.2.2.1
  · rw [g4 2 32 (by omega)] at hj
    have := h.2.2.1
    rw [g3 28 j (by omega), g4 2 (33 + j) (by omega), g4 0 3 (by omega)]
    exact h.2.2.2 j hj
theorem TR.walk {c m : St} (h : TR c m) : WG c m (F_X6_walkPlan 21 c) (F_X8_plansGo 0 m) := by
  have c0 : (0 : Int32).toInt = 0 := rfl
  have c1 : (1 : Int32).toInt = 1 := rfl
  have h8 := h.2.2.1
  generalize hu : F_X6_walkPlan 21 c = u
  generalize hw : F_X8_plansGo 0 m = w
  unfold F_X6_walkPlan at hu
  unfold F_X8_plansGo at hw
  obtain ⟨N, hN⟩ : ∃ N : Nat, N = (2147483647 - (0 : Int32).toInt).toNat := ⟨_, rfl⟩
  rw [← hN] at hu hw
  obtain ⟨P, eP, hu⟩ := xl_e hu
  obtain ⟨Q, eQ, hw⟩ := xl_e hw
  simp only [xl_d, Nat.reduceAdd] at hu hw
  have Lp : ∀ (n : Nat) (y : Int32) (i : Nat) (x z : St), (2147483647 - y.toInt).toNat < n → y.toInt = (i : Int) → (i : Int) ≤ (m.1 2 32).toInt → TR x z → x.1 21 2 = z.1 0 19 → x.1 21 3 = z.1 0 20 → Fc c x → Fm m z → TR x (sq m i) → (∀ j : Nat, j ≤ i → x.1 31 j = (sq m j).1 2 31) → (∀ j : Nat, j ≤ i → Fm m (sq m j)) → WG c m (lp P (fun _ _ => c) n y x) (lp Q (fun _ _ => m) n y z) := by
    intro n
    induction n with
    | zero => intro y i x z hm; exact absurd hm (Nat.not_lt_zero _)
    | succ n ih =>
      intro y i x z hm hy h1 hT hb hr hfc hfm hS hsd hsm
      rw [lp_s, lp_s]
      have e32 : z.1 2 32 = m.1 2 32 := hfm 2 32 (by omega)
      have ecn := cnI (x := y) (by omega)
      have k14 : x.1 22 14 = m.1 2 32 := by rw [hT.2.2.1.1, e32]
      have hpl := hasPl 22 y x
      rw [k14] at hpl
      by_cases d : y.toInt < (m.1 2 32).toInt
      · have ey : (y + 1).toInt = y.toInt + 1 := adI rfl rfl (by omega) (by omega)
        have ecn1 := cnI (x := y + 1) (by omega)
        have y33 : ((33 : Int32) + y).toInt = 33 + y.toInt := adI rfl rfl (by omega) (by omega)
        have ecn3 := cnI (x := (33 : Int32) + y) (by omega)
        have e33 : z.1 2 (33 + i) = m.1 2 (33 + i) := hfm 2 _ (by omega)
        have es33 : (sq m i).1 2 (33 + i) = m.1 2 (33 + i) := hsm i (Nat.le_refl i) 2 _ (by omega)
        have es32 : (sq m i).1 2 32 = m.1 2 32 := hsm i (Nat.le_refl i) 2 _ (by omega)
        have hx28 := (hT.2.2.2 i (by rw [e32]; omega)).1
        have st1 := hT.stp (i := i) (by rw [e32]; omega)
        have st2 := hS.stp (i := i) (by rw [es32]; omega)
        obtain ⟨-, -, g3, g4, g5⟩ := hT.1.step (by omega) (hT.2.2.2 i (by rw [e32]; omega)).2
        obtain ⟨-, -, -, q4, -⟩ := hS.1.step (by omega) (hS.2.2.2 i (by rw [es32]; omega)).2
        rw [e33] at hx28 st1 g3 g4 g5
        rw [es33, ← sq_s] at st2
        rw [es33, ← sq_s] at q4
        generalize hA : m.1 2 (33 + i) = a at *
        generalize hX : F_X0_step 22 27 a x = X at *
        generalize hZ : F_X8_steps 0 a z = Z at *
        obtain ⟨r, x1⟩ := X
        obtain ⟨r', z1⟩ := Z
        simp only at st1 st2 g3 g4 g5 q4
        obtain ⟨rfl, st1⟩ := st1
        have fcx : Fc c x1 := fun s t hs => by rw [g3 s t (by omega)]; exact hfc s t hs
        have fmz : Fm m z1 := fun s t hs => by rw [g4 s t (by omega)]; exact hfm s t hs
        have fms : Fm m (sq m (i + 1)) := fun s t hs => by rw [q4 s t (by omega)]; exact hsm i (Nat.le_refl i) s t hs
        have hsm' : ∀ j : Nat, j ≤ i + 1 → Fm m (sq m j) := fun j hj => by
          by_cases e : j = i + 1
          · rw [e]; exact fms
          · exact hsm j (by omega)
        have sd27 : x1.1 27 2 = (sq m (i + 1)).1 2 31 := st2.2.1.2.2.2.2.2.2.2.1
        -- the class's step, whatever it counts
        have fin : ∀ (x2 z2 : St), (∀ s t : Nat, (s ≠ 21 ∨ (t ≠ 2 ∧ t ≠ 3)) → x2.1 s t = x1.1 s t) → (∀ s t : Nat, (s ≠ 0 ∨ t ≠ 20) → z2.1 s t = z1.1 s t) → x2.1 21 2 = z2.1 0 19 → x2.1 21 3 = z2.1 0 20 → WG c m (lp P (fun _ _ => c) n (y + 1) (up1 x2 31 (y + 1).toNatClampNeg (x2.1 27 2))) (lp Q (fun _ _ => m) n (y + 1) z2) := by
          intro x2 z2 hx2 hz2 hb2 hr2
          refine ih (y + 1) (i + 1) _ _ (by omega) (by omega) (by omega) ?_ ?_ ?_ ?_ ?_ ?_ ?_ hsm'
          · exact st1.fr (fun s t _ _ => by rw [up1_n _ _ (by omega)]; exact hx2 s t (by omega)) (fun s t _ => hz2 s t (by omega))
          · rw [up1_n _ _ (by omega)]; exact hb2
          · rw [up1_n _ _ (by omega)]; exact hr2
          · intro s t hs
            rw [up1_n _ _ (by omega), hx2 s t (by omega)]
            exact fcx s t hs
          · intro s t hs
            rw [hz2 s t (by omega)]
            exact fmz s t hs
          · exact st2.2.fr (fun s t _ _ => by rw [up1_n _ _ (by omega)]; exact hx2 s t (by omega)) (fun _ _ _ => rfl)
          · intro j hj
            by_cases e : j = i + 1
            · rw [e, show (y + 1).toNatClampNeg = i + 1 by omega, up1_s, hx2 27 2 (by omega)]
              exact sd27
            · rw [up1_n _ _ (by omega), hx2 31 j (by omega), g3 31 j (by omega)]
              exact hsd j (by omega)
        have er : x1.1 21 3 = z1.1 0 20 := by rw [g3 21 3 (by omega), g4 0 20 (by omega)]; exact hr
        generalize hsf : lp P (fun _ _ => c) n = sf at fin ⊢
        generalize hsg : lp Q (fun _ _ => m) n = sg at fin ⊢
        have ep : P sf y x = (if r.toInt = 0 then (if (x1.1 21 3).toInt = (-4) then sf (y + 1) (up1 (up1 x1 21 3 y) 31 (y + 1).toNatClampNeg ((up1 x1 21 3 y).1 27 2)) else sf (y + 1) (up1 (up1 x1 21 3 (x1.1 21 3)) 31 (y + 1).toNatClampNeg ((up1 x1 21 3 (x1.1 21 3)).1 27 2))) else (if (F_X0_isBlind 22 a (x.1 27 0) x).toInt = 0 then sf (y + 1) (up1 x1 31 (y + 1).toNatClampNeg (x1.1 27 2)) else sf (y + 1) (up1 (up1 x1 21 2 (x1.1 21 2 + 1)) 31 (y + 1).toNatClampNeg ((up1 x1 21 2 (x1.1 21 2 + 1)).1 27 2)))) := by
          rw [eP]
          simp only [xl_d, xm_d, Nat.reduceAdd]
          rw [if_pos (by omega), if_neg (fun zz => hpl.mp zz ⟨by omega, d⟩), show y.toNatClampNeg = i by omega, hx28, hX]
        have eq : Q sg y z = (if r.toInt = 0 then (if (z1.1 0 20).toInt = (-4) then sg (y + 1) (up1 z1 0 20 y) else sg (y + 1) (up1 z1 0 20 (z1.1 0 20))) else sg (y + 1) (up1 z1 0 20 (z1.1 0 20))) := by
          rw [eQ]
          simp only [xl_d, xm_d, Nat.reduceAdd, cn32]
          rw [if_pos (by rw [e32]; exact d), show ((33 : Int32) + y).toNatClampNeg = 33 + i by omega, e33, hZ]
        rw [ep, eq]
        rcases g5 with ⟨-, gr, gb⟩ | ⟨-, gr, gz, gx⟩
        · have hr0 : ¬ r.toInt = 0 := by rw [gr]; omega
          rw [if_neg hr0, if_neg hr0]
          by_cases b0 : (F_X0_isBlind 22 a (x.1 27 0) x).toInt = 0
          · rw [if_pos b0]
            rw [if_pos b0] at gb
            refine fin x1 _ (fun _ _ _ => rfl) (fun s t hs => up1_n _ _ (by omega)) ?_ ?_
            · rw [up1_n _ _ (by omega), gb, g3 21 2 (by omega)]; exact hb
            · rw [up1_s]; exact er
          · rw [if_neg b0]
            rw [if_neg b0] at gb
            refine fin (up1 x1 21 2 (x1.1 21 2 + 1)) _ (fun s t hs => up1_n _ _ (by omega)) (fun s t hs => up1_n _ _ (by omega)) ?_ ?_
            · rw [up1_s, up1_n _ _ (by omega), gb, g3 21 2 (by omega), hb]
            · rw [up1_s, up1_n _ _ (by omega)]; exact er
        · have hr0 : r.toInt = 0 := by rw [gr]; rfl
          have eb : x1.1 21 2 = z1.1 0 19 := by rw [gx, gz]; exact hb
          rw [if_pos hr0, if_pos hr0, er]
          by_cases b0 : (z1.1 0 20).toInt = -4
          · rw [if_pos b0, if_pos b0]
            refine fin (up1 x1 21 3 y) _ (fun s t hs => up1_n _ _ (by omega)) (fun s t hs => up1_n _ _ (by omega)) ?_ ?_
            · rw [up1_n _ _ (by omega), up1_n _ _ (by omega)]; exact eb
            · rw [up1_s, up1_s]
          · rw [if_neg b0, if_neg b0]
            refine fin (up1 x1 21 3 (z1.1 0 20)) _ (fun s t hs => up1_n _ _ (by omega)) (fun s t hs => up1_n _ _ (by omega)) ?_ ?_
            · rw [up1_n _ _ (by omega), up1_n _ _ (by omega)]; exact eb
            · rw [up1_s, up1_s]
      · have ep : P (lp P (fun _ _ => c) n) y x = x := by
          generalize lp P (fun _ _ => c) n = sf
          rw [eP]
          simp only [xl_d, xm_d, Nat.reduceAdd]
          by_cases d8 : y.toInt < 8
          · rw [if_pos d8, if_pos (hpl.mpr (by omega))]
          · rw [if_neg d8]
        have eq : Q (lp Q (fun _ _ => m) n) y z = z := by
          generalize lp Q (fun _ _ => m) n = sf
          rw [eQ]
          simp only [xl_d, xm_d, Nat.reduceAdd, cn32]
          rw [if_neg (by rw [e32]; exact d)]
        rw [ep, eq]
        have ei : (m.1 2 32).toInt.toNat = i := by omega
        exact ⟨hT, ⟨hb, hr⟩, hfc, hfm, by rw [ei]; exact hS, fun j hj => hsd j (by omega), fun j hj => hsm j (by omega)⟩
  have fcx : Fc c (up1 (up1 (up1 c 21 2 0) 21 3 (-4)) 31 (0 : Int32).toNatClampNeg ((up1 (up1 c 21 2 0) 21 3 (-4)).1 27 2)) := fun s t hs => by rw [up1_n _ _ (by omega), up1_n _ _ (by omega), up1_n _ _ (by omega)]
  have fmz : Fm m (up1 (up1 m 0 20 (-4)) 0 19 0) := fun s t hs => by rw [up1_n _ _ (by omega), up1_n _ _ (by omega)]
  rw [← hu, ← hw]
  refine Lp (N + 1) 0 0 _ _ (by rw [← hN]; exact Nat.lt_succ_self N) rfl (by omega) ?_ ?_ ?_ fcx fmz ?_ ?_ ?_
  · exact h.fr (fun s t _ _ => by rw [up1_n _ _ (by omega), up1_n _ _ (by omega), up1_n _ _ (by omega)]) (fun s t _ => by rw [up1_n _ _ (by omega), up1_n _ _ (by omega)])
  · rw [up1_n _ _ (by omega), up1_n _ _ (by omega), up1_s, up1_s]
  · rw [up1_n _ _ (by omega), up1_s, up1_n _ _ (by omega), up1_s]
  · exact h.fr (fun s t _ _ => by rw [up1_n _ _ (by omega), up1_n _ _ (by omega), up1_n _ _ (by omega)]) (fun _ _ _ => rfl)
  · intro j hj
    obtain rfl : j = 0 := by omega
    rw [cn0, up1_s, up1_n _ _ (by omega), up1_n _ _ (by omega)]
    exact h.1.2.2.2.2.2.2.2.1
  · intro j hj
    obtain rfl : j = 0 := by omega
    exact fun _ _ _ => rfl
theorem TR.well {c m : St} (h : TR c m) : F_X0_isAtWell 22 27 c = F_X8_isAtWell 0 m := atW h.2.1.1 h.2.1.2 h.1.2.2.2.2.2.2.1.1 h.1.2.2.2.2.2.2.2.1
theorem ans_runs {c m : St} {r r2 a0 : Int32} {u w : St} (h : Sim c m) (hC : (r, u) = F_X7_runs 0 a0 c) (hM : (r2, w) = F_X8_runs 0 a0 m) : r = r2 := by
  have hT := h.1.tr.1
  obtain ⟨w1, w2, -⟩ := hT.walk
  have hm := inI (x := a0) (b := 0) (c := 6) (lo := 0) (hi := 6) m rfl rfl
  have hwl := w1.well
  simp only [F_X7_runs, xl_d, Nat.reduceAdd] at hC
  simp only [F_X8_runs, xl_d, Nat.reduceAdd, cn30, cn31, cn27, cn29] at hM
  generalize F_X6_walkPlan 21 (F_X6_begin 21 12 c) = x at *
  generalize F_X8_plansGo 0 (F_X8_starts 0 m) = z at *
  by_cases p : 0 ≤ a0.toInt ∧ a0.toInt ≤ 6
  · rw [if_neg (by omega), if_neg (by omega)] at hC
    rw [if_neg (fun zz => hm.mp zz p)] at hM
    obtain ⟨⟨f5, -⟩, ⟨f7, -⟩, ⟨f8, -⟩, ⟨f9, -⟩⟩ := w1.1.2.2.2.2
    by_cases q0 : a0.toInt = 0
    · rw [if_pos q0] at hC hM; rw [(Prod.mk.inj hC).1, (Prod.mk.inj hM).1]; exact f8
    rw [if_neg q0] at hC hM
    by_cases q1 : a0.toInt = 1
    · rw [if_pos q1] at hC hM; rw [(Prod.mk.inj hC).1, (Prod.mk.inj hM).1, f9]
    rw [if_neg q1] at hC hM
    by_cases q2 : a0.toInt = 2
    · rw [if_pos q2] at hC hM; rw [(Prod.mk.inj hC).1, (Prod.mk.inj hM).1]; exact f5
    rw [if_neg q2] at hC hM
    by_cases q3 : a0.toInt = 3
    · rw [if_pos q3] at hC hM; rw [(Prod.mk.inj hC).1, (Prod.mk.inj hM).1]; exact f7
    rw [if_neg q3] at hC hM
    by_cases q4 : a0.toInt = 4
    · rw [if_pos q4] at hC hM; rw [(Prod.mk.inj hC).1, (Prod.mk.inj hM).1]; exact w2.1
    rw [if_neg q4] at hC hM
    by_cases q5 : a0.toInt = 5
    · rw [if_pos q5] at hC hM; rw [(Prod.mk.inj hC).1, (Prod.mk.inj hM).1, hwl]; rfl
    rw [if_neg q5] at hC hM
    rw [(Prod.mk.inj hC).1, (Prod.mk.inj hM).1]; exact w2.2
  · rw [if_pos (hm.mpr p)] at hM
    have hC : (r, u) = (-1, c) := by
      by_cases q1 : a0.toInt < 0
      · rw [if_pos q1] at hC; exact hC
      · rw [if_neg q1, if_pos (by omega)] at hC; exact hC
    rw [(Prod.mk.inj hC).1, (Prod.mk.inj hM).1]
/-! one thing changed -/
theorem TR.chg {c m c2 m2 : St} (h : TR c m) (hc : ∀ a b : Nat, 22 ≤ a → a < 28 → ¬ (a = 22 ∧ (b = 4 ∨ b = 7 ∨ b = 11)) → ¬ (a = 27 ∧ b = 3) → c2.1 a b = c.1 a b) (hm : ∀ a b : Nat, ((a = 2 ∧ b < 33 ∧ b ≠ 23 ∧ b ≠ 27 ∧ b ≠ 28 ∧ b ≠ 3 ∧ b ≠ 7 ∧ b ≠ 11 ∧ b ≠ 15 ∧ b ≠ 19) ∨ (a = 0 ∧ (b = 3 ∨ b = 4))) → m2.1 a b = m.1 a b) (h7 : c2.1 22 7 = m2.1 2 23 ∧ 0 ≤ (m2.1 2 23).toInt ∧ (¬ (m.1 0 4).toInt = 0 → (m2.1 2 23).toInt < (m.1 0 4).toInt)) (h11 : c2.1 22 11 = m2.1 2 28) (h27 : c2.1 27 3 = m2.1 2 27 ∧ 0 ≤ (m2.1 2 27).toInt ∧ (m2.1 2 27).toInt ≤ 99) (hk : ∀ i : Nat, (i : Int) < (m.1 0 3).toInt → (c2.1 22 4 >>> (Int32.ofNat i &&& 31)) &&& 1 = m2.1 2 (4 * i + 3)) (hp : ∀ i : Nat, (i : Int) < (m.1 2 32).toInt → c2.1 28 i = m2.1 2 (33 + i) ∧ amO (m2.1 2 (33 + i)).toInt (m.1 0 3).toInt) : TR c2 m2 := by
  obtain ⟨⟨⟨a1, a2⟩, ⟨-, b2, -⟩, s, w, -, d2, d3, d4⟩, ⟨e1, e2⟩, p1, -⟩ := h
  have m3 := hm 0 3 (by omega)
  have m4 := hm 0 4 (by omega)
  have m32 := hm 2 32 (by omega)
  refine ⟨⟨⟨?_, ?_⟩, ⟨?_, ?_, h11⟩, fun i hi => ?_, fun i hi => ?_, h27, ?_, ?_, ?_⟩, ⟨?_, ?_⟩, ?_, fun i hi => ?_⟩
  · rw [hc 22 3 (by omega) (by omega) (by omega) (by omega), m3]; exact a1
  · rw [hc 22 6 (by omega) (by omega) (by omega) (by omega), m4]; exact a2
  · rw [m4]; exact h7
  · rw [hc 22 10 (by omega) (by omega) (by omega) (by omega), hm 2 26 (by omega)]; exact b2
  · rw [m3] at hi
    rw [hc (22 + 1) i (by omega) (by omega) (by omega) (by omega), hc (22 + 2) i (by omega) (by omega) (by omega) (by omega), hc (22 + 3) i (by omega) (by omega) (by omega) (by omega), hm 2 (4 * i) (by omega), hm 2 (4 * i + 1) (by omega), hm 2 (4 * i + 2) (by omega)]
    exact ⟨(s i hi).1, (s i hi).2.1, (s i hi).2.2.1, hk i hi⟩
  · rw [m4] at hi
    rw [hc (22 + 4) i (by omega) (by omega) (by omega) (by omega), hm 2 (20 + i) (by omega)]
    exact w i hi
  · rw [hc 27 0 (by omega) (by omega) (by omega) (by omega), hm 2 29 (by omega)]; exact d2
  · rw [hc 27 1 (by omega) (by omega) (by omega) (by omega), hm 2 30 (by omega), hm 2 29 (by omega)]; exact d3
  · rw [hc 27 2 (by omega) (by omega) (by omega) (by omega), hm 2 31 (by omega), hm 2 29 (by omega)]; exact d4
  · rw [hc 22 8 (by omega) (by omega) (by omega) (by omega), hm 2 24 (by omega)]; exact e1
  · rw [hc 22 9 (by omega) (by omega) (by omega) (by omega), hm 2 25 (by omega)]; exact e2
  · rw [hc 22 14 (by omega) (by omega) (by omega) (by omega), m32]; exact p1
  · rw [m32] at hi
    rw [m3]
    exact hp i hi
theorem nn_ {c : St} {k j : Nat} {x : Int32} (a b : Nat) (z : a ≠ k ∨ b ≠ j) : (up1 c k j x).1 a b = c.1 a b := up1_n _ _ z
theorem TR.front {c m : St} (h : TR c m) {w : Int32} (hw : 0 ≤ w.toInt ∧ w.toInt < (m.1 0 4).toInt) : TR (up1 c 22 7 w) (up1 m 2 23 w) := by
  have h3 := h.1.1.1.2
  have h8 := h.2.2.1.2
  refine h.chg (fun a b _ _ _ _ => nn_ a b (by omega)) (fun a b _ => nn_ a b (by omega)) ⟨?_, ?_, ?_⟩ ?_ ?_ (fun i hi => ?_) (fun i hi => ?_)
  · rw [up1_s, up1_s]
  · rw [up1_s]; omega
  · rw [up1_s]; omega
  · rw [nn_ 22 11 (by omega), nn_ 2 28 (by omega)]; exact h.1.2.1.2.2
  · rw [nn_ 27 3 (by omega), nn_ 2 27 (by omega)]; exact h.1.2.2.2.2.1
  · rw [nn_ 22 4 (by omega), nn_ 2 (4 * i + 3) (by omega)]; exact (h.1.2.2.1 i hi).2.2.2
  · rw [nn_ 28 i (by omega), nn_ 2 (33 + i) (by omega)]; exact h.2.2.2 i hi
theorem TR.water {c m : St} (h : TR c m) {w : Int32} (hw : 0 ≤ w.toInt ∧ w.toInt ≤ 40) : TR (up1 c 27 3 w) (up1 m 2 27 w) := by
  have h3 := h.1.1.1.2
  have h8 := h.2.2.1.2
  refine h.chg (fun a b _ _ _ _ => nn_ a b (by omega)) (fun a b _ => nn_ a b (by omega)) ?_ ?_ ⟨?_, ?_, ?_⟩ (fun i hi => ?_) (fun i hi => ?_)
  · rw [nn_ 22 7 (by omega), nn_ 2 23 (by omega)]; exact h.1.2.1.1
  · rw [nn_ 22 11 (by omega), nn_ 2 28 (by omega)]; exact h.1.2.1.2.2
  · rw [up1_s, up1_s]
  · rw [up1_s]; omega
  · rw [up1_s]; omega
  · rw [nn_ 22 4 (by omega), nn_ 2 (4 * i + 3) (by omega)]; exact (h.1.2.2.1 i hi).2.2.2
  · rw [nn_ 28 i (by omega), nn_ 2 (33 + i) (by omega)]; exact h.2.2.2 i hi
theorem TR.cloud {c m : St} (h : TR c m) (w : Int32) : TR (up1 c 22 11 w) (up1 m 2 28 w) := by
  have h3 := h.1.1.1.2
  have h8 := h.2.2.1.2
  refine h.chg (fun a b _ _ _ _ => nn_ a b (by omega)) (fun a b _ => nn_ a b (by omega)) ?_ ?_ ?_ (fun i hi => ?_) (fun i hi => ?_)
  · rw [nn_ 22 7 (by omega), nn_ 2 23 (by omega)]; exact h.1.2.1.1
  · rw [up1_s, up1_s]
  · rw [nn_ 27 3 (by omega), nn_ 2 27 (by omega)]; exact h.1.2.2.2.2.1
  · rw [nn_ 22 4 (by omega), nn_ 2 (4 * i + 3) (by omega)]; exact (h.1.2.2.1 i hi).2.2.2
  · rw [nn_ 28 i (by omega), nn_ 2 (33 + i) (by omega)]; exact h.2.2.2 i hi
theorem TR.plan {c m : St} (h : TR c m) {w : Int32} {j : Nat} (hj : (j : Int) < (m.1 2 32).toInt) (hw : amO w.toInt (m.1 0 3).toInt) : TR (up1 c 28 j w) (up1 m 2 (33 + j) w) := by
  have h3 := h.1.1.1.2
  have h8 := h.2.2.1.2
  refine h.chg (fun a b _ _ _ _ => nn_ a b (by omega)) (fun a b _ => nn_ a b (by omega)) ?_ ?_ ?_ (fun i hi => ?_) (fun i hi => ?_)
  · rw [nn_ 22 7 (by omega), nn_ 2 23 (by omega)]; exact h.1.2.1.1
  · rw [nn_ 22 11 (by omega), nn_ 2 28 (by omega)]; exact h.1.2.1.2.2
  · rw [nn_ 27 3 (by omega), nn_ 2 27 (by omega)]; exact h.1.2.2.2.2.1
  · rw [nn_ 22 4 (by omega), nn_ 2 (4 * i + 3) (by omega)]; exact (h.1.2.2.1 i hi).2.2.2
  · by_cases e : i = j
    · rw [e, up1_s, up1_s]; exact ⟨rfl, hw⟩
    · rw [nn_ 28 i (by omega), nn_ 2 (33 + i) (by omega)]; exact h.2.2.2 i hi
/-- the stars known, told anew -/
theorem knJ {m : St} (K : Int32) (h5 : 0 ≤ (m.1 0 3).toInt ∧ (m.1 0 3).toInt ≤ 5) : (∀ i : Nat, (i : Int) < (m.1 0 3).toInt → (F_X8_knowsJust 0 K m).1 2 (4 * i + 3) = (K >>> (Int32.ofNat i &&& 31)) &&& 1) ∧ ∀ a b : Nat, (a ≠ 2 ∨ (b ≠ 3 ∧ b ≠ 7 ∧ b ≠ 11 ∧ b ≠ 15 ∧ b ≠ 19)) → (F_X8_knowsJust 0 K m).1 a b = (F_X8_starts 0 m).1 a b := by
  have c0 : (0 : Int32).toInt = 0 := rfl
  have s3 := (stM1 m).2 0 3 (by omega)
  generalize hu : F_X8_knowsJust 0 K m = u
  unfold F_X8_knowsJust at hu
  obtain ⟨N, hN⟩ : ∃ N : Nat, N = (2147483647 - (0 : Int32).toInt).toNat := ⟨_, rfl⟩
  rw [← hN] at hu
  obtain ⟨P, eP, hu⟩ := xl_e hu
  rw [xl_d] at hu
  generalize F_X8_starts 0 m = s at *
  have Lp : ∀ (n : Nat) (y : Int32) (i : Nat) (x : St), (2147483647 - y.toInt).toNat < n → y.toInt = (i : Int) → (i : Int) ≤ (m.1 0 3).toInt → (∀ j : Nat, j < i → x.1 2 (4 * j + 3) = (K >>> (Int32.ofNat j &&& 31)) &&& 1) → (∀ a b : Nat, (a ≠ 2 ∨ (b ≠ 3 ∧ b ≠ 7 ∧ b ≠ 11 ∧ b ≠ 15 ∧ b ≠ 19)) → x.1 a b = s.1 a b) → (∀ j : Nat, (j : Int) < (m.1 0 3).toInt → (lp P (fun _ _ => m) n y x).1 2 (4 * j + 3) = (K >>> (Int32.ofNat j &&& 31)) &&& 1) ∧ ∀ a b : Nat, (a ≠ 2 ∨ (b ≠ 3 ∧ b ≠ 7 ∧ b ≠ 11 ∧ b ≠ 15 ∧ b ≠ 19)) → (lp P (fun _ _ => m) n y x).1 a b = s.1 a b := by
    intro n
    induction n with
    | zero => intro y i x hm; exact absurd hm (Nat.not_lt_zero _)
    | succ n ih =>
      intro y i x hm hy h1 hz hf
      rw [lp_s]
      have ex : x.1 0 3 = m.1 0 3 := by rw [hf 0 3 (by omega), s3]
      by_cases d : y.toInt < (m.1 0 3).toInt
      · have ey : (y + 1).toInt = y.toInt + 1 := adI rfl rfl (by omega) (by omega)
        have m4 : ((4 : Int32) * y).toInt = 4 * y.toInt := mlI rfl rfl (by omega) (by omega)
        have a2 : ((4 : Int32) * y + 3).toInt = 4 * y.toInt + 3 := adI m4 rfl (by omega) (by omega)
        have n2 := cnI (x := (4 : Int32) * y + 3) (by omega)
        have ep : P (lp P (fun _ _ => m) n) y x = lp P (fun _ _ => m) n (y + 1) (up1 x 2 (4 * i + 3) ((K >>> (Int32.ofNat i &&& 31)) &&& 1)) := by
          generalize lp P (fun _ _ => m) n = sf
          rw [eP]
          simp only [xl_d, Nat.reduceAdd]
          rw [if_pos (by rw [ex]; exact d), show ((4 : Int32) * y + 3).toNatClampNeg = 4 * i + 3 by omega, ← i32_of hy (by omega)]
        rw [ep]
        refine ih (y + 1) (i + 1) _ (by omega) (by omega) (by omega) (fun j hj => ?_) (fun a b z => by rw [up1_n _ _ (by omega)]; exact hf a b z)
        by_cases e : j = i
        · rw [e, up1_s]
        · rw [up1_n _ _ (by omega)]; exact hz j (by omega)
      · have ep : P (lp P (fun _ _ => m) n) y x = x := by
          generalize lp P (fun _ _ => m) n = sf
          rw [eP]
          simp only [xl_d, Nat.reduceAdd]
          rw [if_neg (by rw [ex]; exact d)]
        rw [ep]
        exact ⟨fun j hj => hz j (by omega), hf⟩
  rw [← hu]
  exact Lp (N + 1) 0 0 s (by rw [← hN]; exact Nat.lt_succ_self N) rfl (by omega) (fun j hj => by omega) (fun _ _ _ => rfl)
theorem NR.know {c m : St} (h : NR 12 0 c m) (K : Int32) : TR (up1 (F_X6_begin 21 12 c) 22 4 K) (F_X8_knowsJust 0 K m) := by
  obtain ⟨hT, -, -⟩ := h.tr
  have s3 := (stM1 m).2 0 3 (by omega)
  have h8 := hT.2.2.1.2
  obtain ⟨k1, k2⟩ := knJ (m := m) K h.1.1.2
  refine hT.chg (fun a b _ _ _ _ => nn_ a b (by omega)) (fun a b _ => k2 a b (by omega)) ?_ ?_ ?_ (fun i hi => ?_) (fun i hi => ?_)
  · rw [nn_ 22 7 (by omega), k2 2 23 (by omega)]; exact hT.1.2.1.1
  · rw [nn_ 22 11 (by omega), k2 2 28 (by omega)]; exact hT.1.2.1.2.2
  · rw [nn_ 27 3 (by omega), k2 2 27 (by omega)]; exact hT.1.2.2.2.2.1
  · rw [s3] at hi
    rw [up1_s, k1 i hi]
  · rw [nn_ 28 i (by omega), k2 2 (33 + i) (by omega)]; exact hT.2.2.2 i hi
/-- neither loop touches the night -/
theorem NR.nx {c m c2 m2 : St} (h : NR 12 0 c m) (hc : ∀ a b : Nat, a < 21 → c2.1 a b = c.1 a b) (hm : ∀ a b : Nat, (a = 1 ∨ (a = 0 ∧ (b = 3 ∨ b = 4))) → m2.1 a b = m.1 a b) : NR 12 0 c2 m2 :=
  h.fr (hm _ _ (by omega)) (hm _ _ (by omega)) (fun b _ _ => hm _ _ (by omega)) (fun a b _ _ => hc _ _ (by omega))
theorem WG.nx {c m x z u w : St} (h : NR 12 0 c m) (g : WG x z u w) (hc : ∀ a b : Nat, a < 21 → x.1 a b = c.1 a b) (hm : ∀ a b : Nat, (a = 1 ∨ (a = 0 ∧ (b = 3 ∨ b = 4))) → z.1 a b = m.1 a b) : NR 12 0 u w :=
  h.nx (fun a b z => by rw [g.2.2.1 a b (by omega)]; exact hc a b z) (fun a b z => by rw [g.2.2.2.1 a b (by omega)]; exact hm a b z)
theorem ans_thirst {c m : St} {r r2 : Int32} {u w : St} (h : Sim c m) (hC : (r, u) = F_X7_thirst 0 c) (hM : (r2, w) = F_X8_thirst 0 m) : r = r2 := by
  have c0 : (0 : Int32).toInt = 0 := rfl
  unfold F_X7_thirst at hC
  unfold F_X8_thirst at hM
  obtain ⟨N, hN⟩ : ∃ N : Nat, N = (2147483647 - (0 : Int32).toInt).toNat := ⟨_, rfl⟩
  rw [← hN] at hC hM
  obtain ⟨P, eP, hC⟩ := xl_e hC.symm
  obtain ⟨Q, eQ, hM⟩ := xl_e hM.symm
  have Lp : ∀ (n : Nat) (y : Int32) (x z : St), (2147483647 - y.toInt).toNat < n → 0 ≤ y.toInt → y.toInt ≤ 41 → NR 12 0 x z → (lp P (fun _ _ => ((0 : Int32), c)) n y x).1 = (lp Q (fun _ _ => ((0 : Int32), m)) n y z).1 := by
    intro n
    induction n with
    | zero => intro y x z hm; exact absurd hm (Nat.not_lt_zero _)
    | succ n ih =>
      intro y x z hm h0 h1 hR
      rw [lp_s, lp_s]
      generalize lp P (fun _ _ => ((0 : Int32), c)) n = sf at *
      generalize lp Q (fun _ _ => ((0 : Int32), m)) n = sg at *
      rw [eP, eQ]
      simp only [xl_d, xm_d, Nat.reduceAdd, cn27]
      by_cases d : 40 < y.toInt
      · rw [if_pos d, if_pos d]
      · have ey : (y + 1).toInt = y.toInt + 1 := adI rfl rfl (by omega) (by omega)
        obtain ⟨hT, -, fb⟩ := hR.tr
        have hW := (hT.water (w := y) ⟨h0, by omega⟩).walk
        have fs := (stM1 z).2
        have hn := hW.nx hR (fun a b zz => by rw [nn_ a b (by omega)]; exact fb a b (by omega)) (fun a b zz => by rw [nn_ a b (by omega)]; exact fs a b (by omega))
        rw [if_neg d, if_neg d, hW.2.1.2]
        by_cases q : ((F_X8_plansGo 0 (up1 (F_X8_starts 0 z) 2 27 y)).1 0 20).toInt = -4
        · rw [if_pos q, if_pos q]
        · rw [if_neg q, if_neg q]
          exact ih (y + 1) _ _ (by omega) (by omega) (by omega) hn
  have := Lp (N + 1) 0 c m (by rw [← hN]; exact Nat.lt_succ_self N) (by omega) (by omega) h.1
  rw [hC, hM] at this
  exact this
/-! what was seen, held against the walk -/
def Es (m : St) (n k : Nat) : Prop := (m.1 1 (42 + 2 * k)).toInt = (n : Int) → ((sq m (min n (m.1 2 32).toInt.toNat)).1 2 31).toInt = (m.1 1 (42 + 2 * k + 1)).toInt
theorem soM {m : St} (hp : 0 ≤ (m.1 2 32).toInt ∧ (m.1 2 32).toInt ≤ 8) (hs : 0 ≤ (m.1 1 41).toInt ∧ (m.1 1 41).toInt ≤ 6) (hf : ∀ j : Nat, (j : Int) ≤ (m.1 2 32).toInt → Fm m (sq m j)) : ((F_X8_isSo 0 m).1.toInt = 0 ↔ ¬ ∀ n : Nat, n ≤ 8 → ∀ k : Nat, (k : Int) < (m.1 1 41).toInt → Es m n k) ∧ (F_X8_isSo 0 m).2 = sq m (m.1 2 32).toInt.toNat := by
  have c0 : (0 : Int32).toInt = 0 := rfl
  have c1 : (1 : Int32).toInt = 1 := rfl
  generalize hu : F_X8_isSo 0 m = u
  unfold F_X8_isSo at hu
  obtain ⟨N, hN⟩ : ∃ N : Nat, N = (2147483647 - (0 : Int32).toInt).toNat := ⟨_, rfl⟩
  rw [← hN] at hu
  obtain ⟨P, eP, hu⟩ := xl_e hu
  have Lp : ∀ (nf : Nat) (acc y : Int32) (n : Nat), (2147483647 - y.toInt).toNat < nf → y.toInt = (n : Int) → n ≤ 9 → ((lp P (fun _ _ _ => ((0 : Int32), m)) nf acc y (sq m (min n (m.1 2 32).toInt.toNat))).1.toInt = 0 ↔ (acc.toInt = 0 ∨ ¬ ∀ n' : Nat, n ≤ n' → n' ≤ 8 → ∀ k : Nat, (k : Int) < (m.1 1 41).toInt → Es m n' k)) ∧ (lp P (fun _ _ _ => ((0 : Int32), m)) nf acc y (sq m (min n (m.1 2 32).toInt.toNat))).2 = sq m (m.1 2 32).toInt.toNat := by
    intro nf
    induction nf with
    | zero => intro acc y n hm; exact absurd hm (Nat.not_lt_zero _)
    | succ nf ih =>
      intro acc y n hm hy h9
      rw [lp_s]
      generalize lp P (fun _ _ _ => ((0 : Int32), m)) nf = sf at ih ⊢
      generalize hx : P sf acc y (sq m (min n (m.1 2 32).toInt.toNat)) = X
      rw [eP] at hx
      obtain ⟨J, eJ, hx⟩ := xl_e hx
      obtain ⟨R, eR, hx⟩ := xl_e hx
      by_cases d : 8 < y.toInt
      · have hx := if_t d hx
        rw [← hx]
        refine ⟨⟨fun z => Or.inl z, fun z => z.elim id (fun q => absurd (fun n' a b => by omega) q)⟩, ?_⟩
        rw [show min n (m.1 2 32).toInt.toNat = (m.1 2 32).toInt.toNat by omega]
      · have hx := if_f d hx
        have ey : (y + 1).toInt = y.toInt + 1 := adI rfl rfl (by omega) (by omega)
        have hv := hf (min n (m.1 2 32).toInt.toNat) (by omega)
        have Lk : ∀ (nk : Nat) (ac k : Int32) (i : Nat), (2147483647 - k.toInt).toNat < nk → k.toInt = (i : Int) → (i : Int) ≤ (m.1 1 41).toInt → ∃ ac2 : Int32, (ac2.toInt = 0 ↔ (ac.toInt = 0 ∨ ¬ ∀ k' : Nat, i ≤ k' → (k' : Int) < (m.1 1 41).toInt → Es m n k')) ∧ lp R (fun _ _ _ => ((0 : Int32), m)) nk ac k (sq m (min n (m.1 2 32).toInt.toNat)) = sf ac2 (y + 1) (sq m (min (n + 1) (m.1 2 32).toInt.toNat)) := by
          intro nk
          induction nk with
          | zero => intro ac k i hm; exact absurd hm (Nat.not_lt_zero _)
          | succ nk ihk =>
            intro ac k i hmk hk hki
            rw [lp_s]
            have v41 : (sq m (min n (m.1 2 32).toInt.toNat)).1 1 41 = m.1 1 41 := hv 1 41 (by omega)
            have v32 : (sq m (min n (m.1 2 32).toInt.toNat)).1 2 32 = m.1 2 32 := hv 2 32 (by omega)
            by_cases dk : k.toInt < (m.1 1 41).toInt
            · have ek : (k + 1).toInt = k.toInt + 1 := adI rfl rfl (by omega) (by omega)
              have m2 : ((2 : Int32) * k).toInt = 2 * k.toInt := mlI rfl rfl (by omega) (by omega)
              have a2 : ((42 : Int32) + (2 : Int32) * k).toInt = 42 + 2 * k.toInt := adI rfl m2 (by omega) (by omega)
              have a3 : ((42 : Int32) + (2 : Int32) * k + 1).toInt = 42 + 2 * k.toInt + 1 := adI a2 rfl (by omega) (by omega)
              have n2 := cnI (x := (42 : Int32) + (2 : Int32) * k) (by omega)
              have n3 := cnI (x := (42 : Int32) + (2 : Int32) * k + 1) (by omega)
              have ep : ∃ ac' : Int32, (ac'.toInt = 0 ↔ (ac.toInt = 0 ∨ ¬ Es m n i)) ∧ R (lp R (fun _ _ _ => ((0 : Int32), m)) nk) ac k (sq m (min n (m.1 2 32).toInt.toNat)) = lp R (fun _ _ _ => ((0 : Int32), m)) nk ac' (k + 1) (sq m (min n (m.1 2 32).toInt.toNat)) := by
                generalize lp R (fun _ _ _ => ((0 : Int32), m)) nk = sr
                rw [eR]
                simp only [xl_d, xm_d, Nat.reduceAdd, cn41, cn32, cn31]
                rw [if_pos (by rw [v41]; exact dk), show ((42 : Int32) + (2 : Int32) * k).toNatClampNeg = 42 + 2 * i by omega, show ((42 : Int32) + (2 : Int32) * k + 1).toNatClampNeg = 42 + 2 * i + 1 by omega, hv 1 (42 + 2 * i) (by omega), hv 1 (42 + 2 * i + 1) (by omega)]
                by_cases z0 : ac.toInt = 0
                · refine ⟨0, ⟨fun _ => Or.inl z0, fun _ => c0⟩, ?_⟩
                  rw [if_pos z0]
                · rw [if_neg z0]
                  by_cases z1 : (m.1 1 (42 + 2 * i)).toInt = y.toInt
                  · rw [if_pos z1]
                    by_cases z2 : ((sq m (min n (m.1 2 32).toInt.toNat)).1 2 31).toInt = (m.1 1 (42 + 2 * i + 1)).toInt
                    · refine ⟨1, ⟨fun q => by omega, fun q => q.elim (fun q => absurd q z0) (fun q => absurd (fun _ => z2) q)⟩, ?_⟩
                      rw [if_pos z2]
                    · refine ⟨0, ⟨fun _ => Or.inr (fun q => z2 (q (by omega))), fun _ => c0⟩, ?_⟩
                      rw [if_neg z2]
                  · refine ⟨1, ⟨fun q => by omega, fun q => q.elim (fun q => absurd q z0) (fun q => absurd (fun q2 => absurd (by omega) z1) q)⟩, ?_⟩
                    rw [if_neg z1]
              obtain ⟨ac', ha', ep⟩ := ep
              rw [ep]
              obtain ⟨ac2, hb, hc⟩ := ihk ac' (k + 1) (i + 1) (by omega) (by omega) (by omega)
              refine ⟨ac2, ?_, hc⟩
              rw [hb, ha']
              constructor
              · rintro ((q | q) | q)
                · exact Or.inl q
                · exact Or.inr (fun t => q (t i (Nat.le_refl i) (by omega)))
                · exact Or.inr (fun t => q (fun k' e1 e2 => t k' (by omega) e2))
              · rintro (q | q)
                · exact Or.inl (Or.inl q)
                · by_cases t : Es m n i
                  · refine Or.inr (fun t2 => q (fun k' e1 e2 => ?_))
                    by_cases e : k' = i
                    · rw [e]; exact t
                    · exact t2 k' (by omega) e2
                  · exact Or.inl (Or.inr t)
            · refine ⟨ac, ⟨fun z => Or.inl z, fun z => z.elim id (fun q => absurd (fun k' a b => by omega) q)⟩, ?_⟩
              have y33 : ((33 : Int32) + y).toInt = 33 + y.toInt := adI rfl rfl (by omega) (by omega)
              have n33 := cnI (x := (33 : Int32) + y) (by omega)
              generalize lp R (fun _ _ _ => ((0 : Int32), m)) nk = sr
              rw [eR]
              simp only [xl_d, xm_d, Nat.reduceAdd, cn41, cn32, cn31]
              rw [if_neg (by rw [v41]; exact dk), v32]
              by_cases dn : y.toInt < (m.1 2 32).toInt
              · rw [if_pos dn, show ((33 : Int32) + y).toNatClampNeg = 33 + n by omega, hv 2 (33 + n) (by omega), eJ, show min n (m.1 2 32).toInt.toNat = n by omega, show min (n + 1) (m.1 2 32).toInt.toNat = n + 1 by omega, sq_s]
                rfl
              · rw [if_neg dn, eJ, show min (n + 1) (m.1 2 32).toInt.toNat = min n (m.1 2 32).toInt.toNat by omega]
                rfl
        obtain ⟨ac2, h1, h2⟩ := Lk (N + 1) acc 0 0 (by rw [← hN]; exact Nat.lt_succ_self N) rfl (by omega)
        have hx : sf ac2 (y + 1) (sq m (min (n + 1) (m.1 2 32).toInt.toNat)) = X := h2.symm.trans hx
        rw [← hx]
        have hi := ih ac2 (y + 1) (n + 1) (by omega) (by omega) (by omega)
        refine ⟨hi.1.trans ?_, hi.2⟩
        rw [h1]
        constructor
        · rintro ((q | q) | q)
          · exact Or.inl q
          · exact Or.inr (fun t => q (fun k' _ hk => t n (Nat.le_refl n) (by omega) k' hk))
          · exact Or.inr (fun t => q (fun n' e1 e2 => t n' (by omega) e2))
        · rintro (q | q)
          · exact Or.inl (Or.inl q)
          · by_cases t : ∀ k' : Nat, 0 ≤ k' → (k' : Int) < (m.1 1 41).toInt → Es m n k'
            · refine Or.inr (fun t2 => q (fun n' e1 e2 k hk => ?_))
              by_cases e : n' = n
              · rw [e]; exact t k (Nat.zero_le k) hk
              · exact t2 n' (by omega) e2 k hk
            · exact Or.inl (Or.inr t)
  have := Lp (N + 1) 1 0 0 (by rw [← hN]; exact Nat.lt_succ_self N) rfl (by omega)
  rw [show sq m (min 0 (m.1 2 32).toInt.toNat) = m by rw [Nat.zero_min]; rfl] at this
  rw [← hu]
  refine ⟨this.1.trans ⟨fun z => z.elim (fun q => by omega) (fun q t => q (fun n' _ e2 => t n' e2)), fun z => Or.inr (fun t => z (fun n' e2 => t n' (Nat.zero_le _) e2))⟩, this.2⟩
def Gs (m : St) (k : Nat) : Prop := ((sq m (min (m.1 1 (42 + 2 * k)).toInt.toNat (m.1 2 32).toInt.toNat)).1 2 31).toInt = (m.1 1 (42 + 2 * k + 1)).toInt
theorem seenC {c m : St} (h : TR c m) (hs : SQ c m) : ((F_X6_isAllAsSeen 21 c).1.toInt = 0 ↔ ¬ ∀ k : Nat, (k : Int) < (m.1 1 41).toInt → Gs m k) ∧ (F_X6_isAllAsSeen 21 c).2 = F_X6_walkPlan 21 c := by
  have c0 : (0 : Int32).toInt = 0 := rfl
  have c1 : (1 : Int32).toInt = 1 := rfl
  obtain ⟨-, -, g3, -, -, g6, -⟩ := h.walk
  have h8 := h.2.2.1
  generalize hu : F_X6_isAllAsSeen 21 c = u
  unfold F_X6_isAllAsSeen at hu
  obtain ⟨N, hN⟩ : ∃ N : Nat, N = (2147483647 - (0 : Int32).toInt).toNat := ⟨_, rfl⟩
  rw [← hN] at hu
  obtain ⟨P, eP, hu⟩ := xl_e hu
  rw [xl_d] at hu
  generalize F_X6_walkPlan 21 c = x at *
  have x17 : x.1 22 17 = m.1 1 41 := by rw [g3 22 17 (by omega)]; exact hs.1.1
  have x14 : x.1 22 14 = m.1 2 32 := by rw [g3 22 14 (by omega)]; exact h8.1
  have s6 := hs.1.2
  have Lp : ∀ (n : Nat) (y : Int32) (i : Nat), (2147483647 - y.toInt).toNat < n → y.toInt = (i : Int) → (i : Int) ≤ (m.1 1 41).toInt → ((lp P (fun _ _ => ((0 : Int32), c)) n y x).1.toInt = 0 ↔ ¬ ∀ k : Nat, i ≤ k → (k : Int) < (m.1 1 41).toInt → Gs m k) ∧ (lp P (fun _ _ => ((0 : Int32), c)) n y x).2 = x := by
    intro n
    induction n with
    | zero => intro y i hm; exact absurd hm (Nat.not_lt_zero _)
    | succ n ih =>
      intro y i hm hy h1
      rw [lp_s]
      generalize lp P (fun _ _ => ((0 : Int32), c)) n = sf at *
      rw [eP]
      simp only [xl_d, Nat.reduceAdd]
      by_cases d : y.toInt < (m.1 1 41).toInt
      · have ey : (y + 1).toInt = y.toInt + 1 := adI rfl rfl (by omega) (by omega)
        have n0 := cnI (x := y) (by omega)
        have hq := hs.2 i (by omega)
        have x29 : x.1 29 i = m.1 1 (42 + 2 * i) := by rw [g3 29 i (by omega)]; exact hq.1
        have x30 : x.1 30 i = m.1 1 (42 + 2 * i + 1) := by rw [g3 30 i (by omega)]; exact hq.2.1
        have emn : (if m.1 2 32 < m.1 1 (42 + 2 * i) then m.1 2 32 else m.1 1 (42 + 2 * i)).toNatClampNeg = min (m.1 1 (42 + 2 * i)).toInt.toNat (m.1 2 32).toInt.toNat := by
          have n1 := cnI (x := m.1 2 32) (by omega)
          have n2 := cnI (x := m.1 1 (42 + 2 * i)) (by omega)
          by_cases e : m.1 2 32 < m.1 1 (42 + 2 * i)
          · rw [if_pos e]
            have := Int32.lt_iff_toInt_lt.mp e
            omega
          · rw [if_neg e]
            have : ¬ (m.1 2 32).toInt < (m.1 1 (42 + 2 * i)).toInt := fun q => e (Int32.lt_iff_toInt_lt.mpr q)
            omega
        rw [if_pos (by rw [x17]; exact d), show y.toNatClampNeg = i by omega, x29, x30, x14, emn, g6 _ (by omega)]
        by_cases e : ((sq m (min (m.1 1 (42 + 2 * i)).toInt.toNat (m.1 2 32).toInt.toNat)).1 2 31).toInt = (m.1 1 (42 + 2 * i + 1)).toInt
        · rw [if_pos e]
          have hi := ih (y + 1) (i + 1) (by omega) (by omega) (by omega)
          refine ⟨hi.1.trans ⟨fun q t => q (fun k e1 e2 => t k (by omega) e2), fun q t => q (fun k e1 e2 => ?_)⟩, hi.2⟩
          by_cases e3 : k = i
          · rw [e3]; exact e
          · exact t k (by omega) e2
        · rw [if_neg e]
          exact ⟨⟨fun _ t => e (t i (Nat.le_refl i) (by omega)), fun _ => c0⟩, rfl⟩
      · rw [if_neg (by rw [x17]; exact d)]
        exact ⟨⟨fun q => absurd (c1.symm.trans q) (by decide), fun q => absurd (fun k e1 e2 => by omega) q⟩, rfl⟩
  have := Lp (N + 1) 0 0 (by rw [← hN]; exact Nat.lt_succ_self N) rfl (by omega)
  rw [← hu]
  exact ⟨this.1.trans ⟨fun q t => q (fun k _ e2 => t k e2), fun q t => q (fun k e2 => t k (Nat.zero_le k) e2)⟩, this.2⟩
theorem TR.seen {c m : St} (h : TR c m) (hs : SQ c m) : ((F_X6_isAllAsSeen 21 c).1.toInt = 0 ↔ (F_X8_isSo 0 m).1.toInt = 0) ∧ Fc c (F_X6_isAllAsSeen 21 c).2 ∧ Fm m (F_X8_isSo 0 m).2 := by
  obtain ⟨-, -, g3, -, -, -, g7⟩ := h.walk
  have h8 := h.2.2.1.2
  obtain ⟨a1, a2⟩ := seenC h hs
  obtain ⟨b1, b2⟩ := soM h8 hs.1.2 g7
  refine ⟨a1.trans (Iff.trans ?_ b1.symm), by rw [a2]; exact g3, by rw [b2]; exact g7 _ (by omega)⟩
  refine not_congr ⟨fun t n hn k hk e => ?_, fun t k hk => ?_⟩
  · have := t k hk
    unfold Gs at this
    rw [show (m.1 1 (42 + 2 * k)).toInt.toNat = n by omega] at this
    exact this
  · have hq := (hs.2 k hk).2.2
    exact t (m.1 1 (42 + 2 * k)).toInt.toNat (by omega) k hk (by omega)
theorem SQ.fr {c m c2 m2 : St} (h : SQ c m) (hc : ∀ a b : Nat, ((a = 22 ∧ b = 17) ∨ a = 29 ∨ a = 30) → c2.1 a b = c.1 a b) (hm : ∀ b : Nat, m2.1 1 b = m.1 1 b) : SQ c2 m2 := by
  unfold SQ at h ⊢
  rw [hc 22 17 (by omega), hm 41]
  refine ⟨h.1, fun i hi => ?_⟩
  rw [hc 29 i (by omega), hc 30 i (by omega), hm, hm]
  exact h.2 i hi
theorem ans_whose {c m : St} {r r2 : Int32} {u w : St} (h : Sim c m) (hC : (r, u) = F_X7_whose 0 c) (hM : (r2, w) = F_X8_whose 0 m) : r = r2 := by
  have c0 : (0 : Int32).toInt = 0 := rfl
  unfold F_X7_whose at hC
  unfold F_X8_whose at hM
  obtain ⟨N, hN⟩ : ∃ N : Nat, N = (2147483647 - (0 : Int32).toInt).toNat := ⟨_, rfl⟩
  rw [← hN] at hC hM
  obtain ⟨P, eP, hC⟩ := xl_e hC.symm
  obtain ⟨Q, eQ, hM⟩ := xl_e hM.symm
  have Lp : ∀ (n : Nat) (a y : Int32) (i : Nat) (x z : St), (2147483647 - y.toInt).toNat < n → y.toInt = (i : Int) → i ≤ 3 → 0 ≤ a.toInt ∧ a.toInt < ((2 ^ i : Nat) : Int) → NR 12 0 x z → (lp P (fun _ _ _ => ((0 : Int32), c)) n a y x).1 = (lp Q (fun _ _ _ => ((0 : Int32), m)) n a y z).1 := by
    intro n
    induction n with
    | zero => intro a y i x z hm; exact absurd hm (Nat.not_lt_zero _)
    | succ n ih =>
      intro a y i x z hm hy hi ha hR
      rw [lp_s, lp_s]
      generalize lp P (fun _ _ _ => ((0 : Int32), c)) n = sf at *
      generalize lp Q (fun _ _ _ => ((0 : Int32), m)) n = sg at *
      rw [eP, eQ]
      simp only [xl_d, xm_d, Nat.reduceAdd, cn23]
      have h3 := hR.1.2
      rw [h3.1]
      by_cases d : y.toInt < (z.1 0 4).toInt
      · have ey : (y + 1).toInt = y.toInt + 1 := adI rfl rfl (by omega) (by omega)
        obtain ⟨hT, hs, fb⟩ := hR.tr
        have fs := (stM1 z).2
        have hT2 := hT.front (w := y) ⟨by omega, by rw [fs 0 4 (by omega)]; exact d⟩
        have hs2 : SQ (up1 (F_X6_begin 21 12 x) 22 7 y) (up1 (F_X8_starts 0 z) 2 23 y) := hs.fr (fun a b _ => nn_ a b (by omega)) (fun b => by rw [nn_ 1 b (by omega)]; exact fs 1 b (by omega))
        obtain ⟨t1, t2, t3⟩ := hT2.seen hs2
        rw [if_pos d, if_pos d]
        have hb := wbtC (x := (F_X6_isAllAsSeen 21 (up1 (F_X6_begin 21 12 x) 22 7 y)).1) (F_X6_isAllAsSeen 21 (up1 (F_X6_begin 21 12 x) 22 7 y)).2 hy (by omega) ha
        have hn : NR 12 0 (F_X6_isAllAsSeen 21 (up1 (F_X6_begin 21 12 x) 22 7 y)).2 (F_X8_isSo 0 (up1 (F_X8_starts 0 z) 2 23 y)).2 := hR.nx (fun a b zz => by rw [t2 a b (by omega), nn_ a b (by omega)]; exact fb a b (by omega)) (fun a b zz => by rw [t3 a b (by omega), nn_ a b (by omega)]; exact fs a b (by omega))
        have := ih _ (y + 1) (i + 1) _ _ (by omega) (by omega) (by omega) hb.2 hn
        rw [this, hb.1, flagE _ (F_X8_isSo 0 (up1 (F_X8_starts 0 z) 2 23 y)).2 t1]
      · rw [if_neg d, if_neg d]
  have := Lp (N + 1) 0 0 0 c m (by rw [← hN]; exact Nat.lt_succ_self N) rfl (by omega) ⟨by decide, by decide⟩ h.1
  rw [hC, hM] at this
  exact this
theorem ans_aims {c m : St} {r r2 a0 : Int32} {u w : St} (h : Sim c m) (hC : (r, u) = F_X7_aims 0 a0 c) (hM : (r2, w) = F_X8_aims 0 a0 m) : r = r2 := by
  have c0 : (0 : Int32).toInt = 0 := rfl
  have gp := h.1.2.2.2.2.1
  have hs := hasPl 12 a0 c
  rw [gp.1.1] at hs
  have h3 := gp.1.2
  rw [Nat.zero_add] at h3 hs
  have e : (m.1 1 32 - 1).toInt = (m.1 1 32).toInt - 1 := sbI rfl rfl (by omega) (by omega)
  have hm := inI (x := a0) (b := 0) (c := (m.1 1 32 - 1).toInt64) (lo := 0) (hi := (m.1 1 32).toInt - 1) m rfl (by rw [i64_of, e])
  unfold F_X7_aims at hC
  unfold F_X8_aims at hM
  obtain ⟨N, hN⟩ : ∃ N : Nat, N = (2147483647 - (0 : Int32).toInt).toNat := ⟨_, rfl⟩
  rw [← hN] at hC hM
  obtain ⟨P, eP, hC⟩ := xl_e hC.symm
  obtain ⟨Q, eQ, hM⟩ := xl_e hM.symm
  simp only [xl_d, Nat.reduceAdd, cn32] at hC hM
  by_cases p : 0 ≤ a0.toInt ∧ a0.toInt < (m.1 1 32).toInt
  · rw [if_neg (fun z => hs.mp z p)] at hC
    rw [if_neg (fun z => hm.mp z (by omega))] at hM
    have a2 : ((33 : Int32) + a0).toInt = 33 + a0.toInt := adI rfl rfl (by omega) (by omega)
    have n2 := cnI (x := (33 : Int32) + a0) (by omega)
    have n0 := cnI (x := a0) (by omega)
    have ei : ((33 : Int32) + a0).toNatClampNeg = 33 + a0.toNatClampNeg := by omega
    have Lp : ∀ (n : Nat) (a y : Int32) (i : Nat) (x z : St), (2147483647 - y.toInt).toNat < n → y.toInt = (i : Int) → i ≤ 7 → 0 ≤ a.toInt ∧ a.toInt < ((2 ^ i : Nat) : Int) → NR 12 0 x z → z.1 1 32 = m.1 1 32 → (lp P (fun _ _ _ => ((0 : Int32), c)) n a y x).1 = (lp Q (fun _ _ _ => ((0 : Int32), m)) n a y z).1 := by
      intro n
      induction n with
      | zero => intro a y i x z hm; exact absurd hm (Nat.not_lt_zero _)
      | succ n ih =>
        intro a y i x z hmm hy hi ha hR h32
        rw [lp_s, lp_s]
        generalize lp P (fun _ _ _ => ((0 : Int32), c)) n = sf at *
        generalize lp Q (fun _ _ _ => ((0 : Int32), m)) n = sg at *
        rw [eP, eQ]
        simp only [xl_d, xm_d, Nat.reduceAdd]
        have ha1 := hasAm 12 y x
        rw [hR.1.1.1] at ha1
        have ha2 := isAmM (a := y) hR.1.1.2
        by_cases d : y.toInt < 7
        · have ey : (y + 1).toInt = y.toInt + 1 := adI rfl rfl (by omega) (by omega)
          have hp2 : 2 ^ i ≤ 2 ^ (i + 1) := Nat.pow_le_pow_right (by omega) (by omega)
          rw [if_pos d, if_pos d]
          by_cases q : y.toInt = 5 ∨ y.toInt = 6 ∨ (0 ≤ y.toInt ∧ y.toInt < (z.1 0 3).toInt)
          · obtain ⟨hT, hs, fb⟩ := hR.tr
            have fs := (stM1 z).2
            have fs1 := (stM1 z).1
            have hT2 := hT.plan (w := y) (j := a0.toNatClampNeg) (by rw [fs1 32 (by omega), h32]; omega) (by rw [fs 0 3 (by omega)]; exact q)
            have hs2 : SQ (up1 (F_X6_begin 21 12 x) 28 a0.toNatClampNeg y) (up1 (F_X8_starts 0 z) 2 (33 + a0.toNatClampNeg) y) := hs.fr (fun a b _ => nn_ a b (by omega)) (fun b => by rw [nn_ 1 b (by omega)]; exact fs 1 b (by omega))
            obtain ⟨t1, t2, t3⟩ := hT2.seen hs2
            rw [if_neg (fun zz => ha1.mp zz q), if_neg (fun zz => ha2.mp zz q), ei]
            have hb := wbtC (x := (F_X6_isAllAsSeen 21 (up1 (F_X6_begin 21 12 x) 28 a0.toNatClampNeg y)).1) (F_X6_isAllAsSeen 21 (up1 (F_X6_begin 21 12 x) 28 a0.toNatClampNeg y)).2 hy (by omega) ha
            have hn : NR 12 0 (F_X6_isAllAsSeen 21 (up1 (F_X6_begin 21 12 x) 28 a0.toNatClampNeg y)).2 (F_X8_isSo 0 (up1 (F_X8_starts 0 z) 2 (33 + a0.toNatClampNeg) y)).2 := hR.nx (fun a b zz => by rw [t2 a b (by omega), nn_ a b (by omega)]; exact fb a b (by omega)) (fun a b zz => by rw [t3 a b (by omega), nn_ a b (by omega)]; exact fs a b (by omega))
            have := ih _ (y + 1) (i + 1) _ _ (by omega) (by omega) (by omega) hb.2 hn (by rw [t3 1 32 (by omega), nn_ 1 32 (by omega), fs 1 32 (by omega)]; exact h32)
            rw [this, hb.1, flagE _ (F_X8_isSo 0 (up1 (F_X8_starts 0 z) 2 (33 + a0.toNatClampNeg) y)).2 t1]
          · rw [if_pos (ha1.mpr q), if_pos (ha2.mpr q)]
            exact ih a (y + 1) (i + 1) x z (by omega) (by omega) (by omega) (by omega) hR h32
        · rw [if_neg d, if_neg d]
    have := Lp (N + 1) 0 0 0 c m (by rw [← hN]; exact Nat.lt_succ_self N) rfl (by omega) ⟨by decide, by decide⟩ h.1 rfl
    rw [hC, hM] at this
    exact this
  · rw [if_pos (hs.mpr p)] at hC
    rw [if_pos (hm.mpr (by omega))] at hM
    rw [← (Prod.mk.inj hC).1, ← (Prod.mk.inj hM).1]
theorem sh1_t : ∀ s : Nat, s < 6 → ((1 : Int32) <<< (Int32.ofNat s &&& 31)).toInt = ((2 ^ s : Nat) : Int) := by decide +kernel
theorem sh1 {s : Int32} (h : 0 ≤ s.toInt ∧ s.toInt ≤ 5) : ((1 : Int32) <<< (s &&& 31)).toInt = ((2 ^ s.toInt.toNat : Nat) : Int) ∧ ((1 : Int32) <<< (s &&& 31)).toInt ≤ 32 := by
  have e := i32_of (x := s) (n := s.toInt.toNat) (by omega) (by omega)
  have t := sh1_t s.toInt.toNat (by omega)
  rw [← e] at t
  have : 2 ^ s.toInt.toNat ≤ 2 ^ 5 := Nat.pow_le_pow_right (by omega) (by omega)
  exact ⟨t, by rw [t]; omega⟩
theorem ans_fits {c m : St} {r r2 a0 : Int32} {u w : St} (h : Sim c m) (hC : (r, u) = F_X7_fits 0 a0 c) (hM : (r2, w) = F_X8_fits 0 a0 m) : r = r2 := by
  have c0 : (0 : Int32).toInt = 0 := rfl
  have c4 : (-4 : Int32).toInt = -4 := rfl
  have hs := isZoC (a := a0) (c := c)
  have hm := isPtM (a := a0) (m := m)
  unfold F_X7_fits at hC
  unfold F_X8_fits at hM
  obtain ⟨N, hN⟩ : ∃ N : Nat, N = (2147483647 - (0 : Int32).toInt).toNat := ⟨_, rfl⟩
  rw [← hN] at hC hM
  obtain ⟨P, eP, hC⟩ := xl_e hC.symm
  obtain ⟨Q, eQ, hM⟩ := xl_e hM.symm
  rw [xl_d] at hC hM
  by_cases p : 0 ≤ a0.toInt ∧ a0.toInt ≤ 1
  · rw [if_neg (fun z => hs.mp z p)] at hC
    rw [if_neg (fun z => hm.mp z p)] at hM
    have Lp : ∀ (n : Nat) (a b y : Int32) (x z : St), (2147483647 - y.toInt).toNat < n → 0 ≤ y.toInt → y.toInt ≤ 32 → 0 ≤ a.toInt → a.toInt ≤ y.toInt → (b.toInt = -4 ↔ a.toInt = 0) → NR 12 0 x z → (lp P (fun _ _ _ _ => ((0 : Int32), c)) n a b y x).1 = (lp Q (fun _ _ _ _ => ((0 : Int32), m)) n a b y z).1 := by
      intro n
      induction n with
      | zero => intro a b y x z hm; exact absurd hm (Nat.not_lt_zero _)
      | succ n ih =>
        intro a b y x z hmm hy hy2 ha ha2 hab hR
        rw [lp_s, lp_s]
        generalize lp P (fun _ _ _ _ => ((0 : Int32), c)) n = sf at *
        generalize lp Q (fun _ _ _ _ => ((0 : Int32), m)) n = sg at *
        rw [eP, eQ]
        simp only [xl_d, xm_d, Nat.reduceAdd]
        have h5 := hR.1.1
        have h2 := sh1 h5.2
        rw [h5.1]
        by_cases d : y.toInt < ((1 : Int32) <<< (z.1 0 3 &&& 31)).toInt
        · have ey : (y + 1).toInt = y.toInt + 1 := adI rfl rfl (by omega) (by omega)
          have ea : (a + 1).toInt = a.toInt + 1 := adI rfl rfl (by omega) (by omega)
          obtain ⟨-, hs, fb⟩ := hR.tr
          have fs := (stM1 z).2
          obtain ⟨-, k2⟩ := knJ (m := z) y h5.2
          have hs2 : SQ (up1 (F_X6_begin 21 12 x) 22 4 y) (F_X8_knowsJust 0 y z) := hs.fr (fun a b _ => nn_ a b (by omega)) (fun b => by rw [k2 1 b (by omega)]; exact fs 1 b (by omega))
          obtain ⟨t1, t2, t3⟩ := (hR.know y).seen hs2
          have hn : NR 12 0 (F_X6_isAllAsSeen 21 (up1 (F_X6_begin 21 12 x) 22 4 y)).2 (F_X8_isSo 0 (F_X8_knowsJust 0 y z)).2 := hR.nx (fun a b zz => by rw [t2 a b (by omega), nn_ a b (by omega)]; exact fb a b (by omega)) (fun a b zz => by rw [t3 a b (by omega), k2 a b (by omega)]; exact fs a b (by omega))
          rw [if_pos d, if_pos d]
          by_cases q : (F_X8_isSo 0 (F_X8_knowsJust 0 y z)).1.toInt = 0
          · rw [if_pos q, if_pos (t1.mpr q)]
            exact ih a b (y + 1) _ _ (by omega) (by omega) (by omega) ha (by omega) hab hn
          · rw [if_neg q, if_neg (fun zz => q (t1.mp zz))]
            by_cases q2 : a.toInt = 0
            · rw [if_pos q2, if_pos (hab.mpr q2)]
              exact ih (a + 1) y (y + 1) _ _ (by omega) (by omega) (by omega) (by omega) (by omega) (by omega) hn
            · rw [if_neg q2, if_neg (fun zz => q2 (hab.mp zz))]
              exact ih (a + 1) b (y + 1) _ _ (by omega) (by omega) (by omega) (by omega) (by omega) (by omega) hn
        · rw [if_neg d, if_neg d]
          by_cases q : a0.toInt = 0
          · rw [if_pos q, if_pos q]
          · rw [if_neg q, if_neg q]
    have := Lp (N + 1) 0 (-4) 0 c m (by rw [← hN]; exact Nat.lt_succ_self N) (by omega) (by omega) (by omega) (by omega) (by omega) h.1
    rw [hC, hM] at this
    exact this
  · rw [if_pos (hs.mpr p)] at hC
    rw [if_pos (hm.mpr p)] at hM
    rw [← (Prod.mk.inj hC).1, ← (Prod.mk.inj hM).1]
