/-! answers that only read -/
theorem sizeI (x : Int32) (v : St) : F_X8_sizeOf x v = (if 0 ≤ x then x else 0 - x) := by
  have e : (0 ≤ x) ↔ ¬ (x.toInt < 0) := by
    rw [Int32.le_iff_toInt_le]
    have c0 : (0 : Int32).toInt = 0 := rfl
    omega
  simp only [F_X8_sizeOf, xl_d]
  by_cases d : x.toInt < 0
  · rw [if_pos d, if_neg (fun z => e.mp z d), Int32.zero_sub]
  · rw [if_neg d, if_pos (e.mpr d)]
theorem wthB {k p : Nat} {c m : St} (h9 : c.1 k 9 = m.1 2 25) (h2 : c.1 p 2 = m.1 2 31) (v : St) : F_X0_isWithinBroad k p c = if (m.1 2 25).toInt < (F_X8_sizeOf (m.1 2 31) v).toInt then 0 else 1 := by
  rw [sizeI]
  simp only [F_X0_isWithinBroad, xl_d]
  rw [h9, h2]
theorem atW {k p : Nat} {c m : St} (h8 : c.1 k 8 = m.1 2 24) (h9 : c.1 k 9 = m.1 2 25) (h1 : c.1 p 1 = m.1 2 30) (h2 : c.1 p 2 = m.1 2 31) : F_X0_isAtWell k p c = F_X8_isAtWell 0 m := by
  have c0 : (0 : Int32).toInt = 0 := rfl
  have c1 : (1 : Int32).toInt = 1 := rfl
  simp only [F_X0_isAtWell, F_X8_isAtWell, xl_d, cn30, cn24, cn31, cn25, Nat.reduceAdd]
  rw [wthB h9 h2 m, h8, h1]
  by_cases d : (m.1 2 30).toInt < (m.1 2 24).toInt
  · rw [if_pos d, if_pos d]
  · rw [if_neg d, if_neg d]
    by_cases e : (m.1 2 25).toInt < (F_X8_sizeOf (m.1 2 31) m).toInt
    · rw [if_pos e, if_pos c0]
    · rw [if_neg e, if_neg (by omega)]
theorem oneI (x : Int32) (v w : St) : F_X7_oneIf x v = F_X8_flag x w := rfl
theorem ans_torn {c m : St} {r r2 : Int32} (h : Sim c m) (hC : r = F_X7_torn 0 c) (hM : r2 = F_X8_torn 0 m) : r = r2 := by
  simp only [F_X7_torn, F_X8_torn, xl_d] at hC hM
  rw [hC, hM]; exact h.2.2.2.2
theorem ans_walker {c m : St} {r r2 a0 : Int32} (h : Sim c m) (hC : r = F_X7_walker 0 a0 c) (hM : r2 = F_X8_walker 0 a0 m) : r = r2 := by
  have g := h.1
  have hs := hasWk 12 a0 c
  rw [g.1.2.1] at hs
  have hm := isWkM (a := a0) g.1.2.2
  simp only [F_X7_walker, xl_d, Nat.reduceAdd] at hC
  simp only [F_X8_walker, xl_d, Nat.reduceAdd] at hM
  by_cases p : 0 ≤ a0.toInt ∧ a0.toInt < (m.1 0 4).toInt
  · rw [if_neg (fun z => hs.mp z p)] at hC
    rw [if_neg (fun z => hm.mp z p)] at hM
    have h3 := g.1.2.2
    have a2 : ((20 : Int32) + a0).toInt = 20 + a0.toInt := adI rfl rfl (by omega) (by omega)
    have n2 := cnI (x := (20 : Int32) + a0) (by omega)
    have n0 := cnI (x := a0) (by omega)
    have ei : ((20 : Int32) + a0).toNatClampNeg = 0 + 20 + a0.toNatClampNeg := by omega
    rw [hC, hM, ei]
    exact (g.2.2.2.1 a0.toNatClampNeg (by omega)).1
  · rw [if_pos (hs.mpr p)] at hC
    rw [if_pos (hm.mpr p)] at hM
    rw [hC, hM]
theorem ans_plan {c m : St} {r r2 a0 : Int32} (h : Sim c m) (hC : r = F_X7_plan 0 a0 c) (hM : r2 = F_X8_plan 0 a0 m) : r = r2 := by
  have g := h.1
  have gp := g.2.2.2.2.1
  have hs := hasPl 12 a0 c
  rw [gp.1.1] at hs
  have h3 := gp.1.2
  rw [Nat.zero_add] at h3 hs
  have e : (m.1 1 32 - 1).toInt = (m.1 1 32).toInt - 1 := sbI rfl rfl (by omega) (by omega)
  have hm := inI (x := a0) (b := 0) (c := (m.1 1 32 - 1).toInt64) (lo := 0) (hi := (m.1 1 32).toInt - 1) m rfl (by rw [i64_of, e])
  simp only [F_X7_plan, xl_d, Nat.reduceAdd] at hC
  simp only [F_X8_plan, xl_d, Nat.reduceAdd, cn32] at hM
  by_cases p : 0 ≤ a0.toInt ∧ a0.toInt < (m.1 1 32).toInt
  · rw [if_neg (fun z => hs.mp z p)] at hC
    rw [if_neg (fun z => hm.mp z (by omega))] at hM
    have a2 : ((33 : Int32) + a0).toInt = 33 + a0.toInt := adI rfl rfl (by omega) (by omega)
    have n2 := cnI (x := (33 : Int32) + a0) (by omega)
    have n0 := cnI (x := a0) (by omega)
    have ei : ((33 : Int32) + a0).toNatClampNeg = 0 + 33 + a0.toNatClampNeg := by omega
    rw [hC, hM, ei]
    exact (gp.2 a0.toNatClampNeg (by rw [Nat.zero_add]; omega)).1
  · rw [if_pos (hs.mpr p)] at hC
    rw [if_pos (hm.mpr (by omega))] at hM
    rw [hC, hM]
theorem ans_star {c m : St} {r r2 a0 a1 : Int32} (h : Sim c m) (hC : r = F_X7_star 0 a0 a1 c) (hM : r2 = F_X8_star 0 a0 a1 m) : r = r2 := by
  have g := h.1
  have hs := hasSt 12 a0 c
  rw [g.1.1.1] at hs
  have hm := isStM (a := a0) g.1.1.2
  have hi := inI (x := a1) (b := 0) (c := 3) (lo := 0) (hi := 3) m rfl rfl
  simp only [F_X7_star, xl_d, Nat.reduceAdd, onKn] at hC
  simp only [F_X8_star, xl_d, Nat.reduceAdd] at hM
  by_cases p : 0 ≤ a0.toInt ∧ a0.toInt < (m.1 0 3).toInt
  · rw [if_neg (fun z => hs.mp z p)] at hC
    rw [if_neg (fun z => hm.mp z p)] at hM
    have h5 := g.1.1.2
    have m4 : ((4 : Int32) * a0).toInt = 4 * a0.toInt := mlI rfl rfl (by omega) (by omega)
    have n0 := cnI (x := a0) (by omega)
    have gi := g.2.2.1.2 a0.toNatClampNeg (by omega)
    have e0 : Int32.ofNat a0.toNatClampNeg = a0 := (i32_of (x := a0) (n := a0.toNatClampNeg) (by omega) (by omega)).symm
    rw [e0] at gi
    by_cases q : 0 ≤ a1.toInt ∧ a1.toInt ≤ 3
    · rw [if_neg (fun z => hi.mp z q)] at hM
      have a2 : ((4 : Int32) * a0 + a1).toInt = 4 * a0.toInt + a1.toInt := adI m4 rfl (by omega) (by omega)
      have n2 := cnI (x := (4 : Int32) * a0 + a1) (by omega)
      by_cases q0 : a1.toInt = 0
      · rw [if_pos q0] at hC
        rw [hC, hM, show ((4 : Int32) * a0 + a1).toNatClampNeg = 0 + 4 * a0.toNatClampNeg by omega]
        exact gi.1
      · rw [if_neg q0] at hC
        by_cases q1 : a1.toInt = 1
        · rw [if_pos q1] at hC
          rw [hC, hM, show ((4 : Int32) * a0 + a1).toNatClampNeg = 0 + 4 * a0.toNatClampNeg + 1 by omega]
          exact gi.2.1
        · rw [if_neg q1] at hC
          by_cases q2 : a1.toInt = 2
          · rw [if_pos q2] at hC
            rw [hC, hM, show ((4 : Int32) * a0 + a1).toNatClampNeg = 0 + 4 * a0.toNatClampNeg + 2 by omega]
            exact gi.2.2.1.1
          · rw [if_neg q2, if_pos (by omega)] at hC
            rw [hC, hM, show ((4 : Int32) * a0 + a1).toNatClampNeg = 0 + 4 * a0.toNatClampNeg + 3 by omega]
            exact gi.2.2.2
    · rw [if_pos (hi.mpr q)] at hM
      rw [if_neg (by omega), if_neg (by omega), if_neg (by omega), if_neg (by omega)] at hC
      rw [hC, hM]
  · rw [if_pos (hs.mpr p)] at hC
    rw [if_pos (hm.mpr p)] at hM
    rw [hC, hM]
theorem ans_pull {c m : St} {r r2 a0 : Int32} {w : St} (h : Sim c m) (hC : r = F_X7_pull 0 a0 c) (hM : (r2, w) = F_X8_pull 0 a0 m) : r = r2 := by
  have hs := isHrC (a := a0) (c := c)
  have hm := isHrM (a := a0) (m := m)
  have hA := h.1.at (p := 17) (stM1 m).1 ((stM1 m).2 0 3 (by omega)) ((stM1 m).2 0 4 (by omega)) (fun _ _ => rfl)
  simp only [F_X7_pull, xl_d, Nat.reduceAdd] at hC
  simp only [F_X8_pull, xl_d, Nat.reduceAdd] at hM
  by_cases p : 0 ≤ a0.toInt ∧ a0.toInt ≤ 9
  · rw [if_neg (fun z => hs.mp z p)] at hC
    rw [if_neg (fun z => hm.mp z p)] at hM
    rw [hC, (Prod.mk.inj hM).1]
    exact (hA.pull (a := a0) (by omega)).1
  · rw [if_pos (hs.mpr p)] at hC
    rw [if_pos (hm.mpr p)] at hM
    rw [hC, (Prod.mk.inj hM).1]
theorem ans_rule {c m : St} {r r2 a0 : Int32} {w : St} (h : Sim c m) (hC : r = F_X7_rule 0 a0 c) (hM : (r2, w) = F_X8_rule 0 a0 m) : r = r2 := by
  have g := h.1
  obtain ⟨f1, f2, f3, f4, f5, f6, f7, f8, f9⟩ := g.2.1
  obtain ⟨s1, s2⟩ := stM1 m
  simp only [F_X7_rule, xl_d, Nat.reduceAdd] at hC
  simp only [F_X8_rule, xl_d, Nat.reduceAdd, cn31, cn32] at hM
  have hw := atW (k := 12) (p := 17) (c := c) (m := F_X8_starts 0 m) (by rw [s1 24 (by omega)]; exact f2) (by rw [s1 25 (by omega)]; exact f3) (by rw [s1 30 (by omega)]; exact f8.1) (by rw [s1 31 (by omega)]; exact f9.1)
  rw [hw] at hC
  generalize F_X8_isAtWell 0 (F_X8_starts 0 m) = q at hC hM
  rw [s2 0 3 (by omega), s2 0 4 (by omega), s2 1 _ (by omega), s2 1 31 (by omega), s2 1 32 (by omega)] at hM
  have hx : 0 ≤ a0.toInt → a0.toInt ≤ 12 → ((23 : Int32) + a0 - 2).toNatClampNeg = (21 + a0.toInt).toNat := fun z1 z2 => by
    have b1 : ((23 : Int32) + a0).toInt = 23 + a0.toInt := adI rfl rfl (by omega) (by omega)
    have b2 : ((23 : Int32) + a0 - 2).toInt = 23 + a0.toInt - 2 := sbI b1 rfl (by omega) (by omega)
    have b3 := cnI (x := (23 : Int32) + a0 - 2) (by omega)
    omega
  generalize ((23 : Int32) + a0 - 2).toNatClampNeg = y at hM hx
  by_cases q0 : a0.toInt = 0
  · rw [if_pos q0] at hC hM; rw [hC, (Prod.mk.inj hM).1]; exact g.1.1.1
  rw [if_neg q0] at hC hM
  by_cases q1 : a0.toInt = 1
  · rw [if_pos q1] at hC hM; rw [hC, (Prod.mk.inj hM).1]; exact g.1.2.1
  rw [if_neg q1] at hC hM
  by_cases q2 : a0.toInt = 2
  · obtain rfl : y = 23 := by have := hx (by omega) (by omega); omega
    rw [if_pos q2] at hC hM; rw [hC, (Prod.mk.inj hM).1]; exact f1.1
  rw [if_neg q2] at hC hM
  by_cases q3 : a0.toInt = 3
  · obtain rfl : y = 24 := by have := hx (by omega) (by omega); omega
    rw [if_pos q3] at hC hM; rw [hC, (Prod.mk.inj hM).1]; exact f2
  rw [if_neg q3] at hC hM
  by_cases q4 : a0.toInt = 4
  · obtain rfl : y = 25 := by have := hx (by omega) (by omega); omega
    rw [if_pos q4] at hC hM; rw [hC, (Prod.mk.inj hM).1]; exact f3
  rw [if_neg q4] at hC hM
  by_cases q5 : a0.toInt = 5
  · obtain rfl : y = 26 := by have := hx (by omega) (by omega); omega
    rw [if_pos q5] at hC hM; rw [hC, (Prod.mk.inj hM).1]; exact f4
  rw [if_neg q5] at hC hM
  by_cases q6 : a0.toInt = 6
  · obtain rfl : y = 27 := by have := hx (by omega) (by omega); omega
    rw [if_pos q6] at hC hM; rw [hC, (Prod.mk.inj hM).1]; exact f5.1
  rw [if_neg q6] at hC hM
  by_cases q7 : a0.toInt = 7
  · obtain rfl : y = 28 := by have := hx (by omega) (by omega); omega
    rw [if_pos q7] at hC hM; rw [hC, (Prod.mk.inj hM).1]; exact f6
  rw [if_neg q7] at hC hM
  by_cases q8 : a0.toInt = 8
  · obtain rfl : y = 29 := by have := hx (by omega) (by omega); omega
    rw [if_pos q8] at hC hM; rw [hC, (Prod.mk.inj hM).1]; exact f7.1
  rw [if_neg q8] at hC hM
  by_cases q9 : a0.toInt = 9
  · obtain rfl : y = 30 := by have := hx (by omega) (by omega); omega
    rw [if_pos q9] at hC hM; rw [hC, (Prod.mk.inj hM).1]; exact f8.1
  rw [if_neg q9] at hC hM
  by_cases q10 : a0.toInt = 10
  · rw [if_pos q10] at hC hM; rw [hC, (Prod.mk.inj hM).1]
    have f9 : c.1 17 2 = m.1 1 31 := f9.1
    rw [f9]
  rw [if_neg q10] at hC hM
  by_cases q11 : a0.toInt = 11
  · rw [if_pos q11] at hC hM; rw [hC, (Prod.mk.inj hM).1]; rfl
  rw [if_neg q11] at hC hM
  by_cases q12 : a0.toInt = 12
  · rw [if_pos q12] at hC hM; rw [hC, (Prod.mk.inj hM).1]
    exact g.2.2.2.2.1.1.1
  rw [if_neg q12] at hC hM
  rw [hC, (Prod.mk.inj hM).1]
/-! bits one by one -/
theorem wbt_a : ∀ i : Nat, i < 10 → ∀ a : Nat, a < 2 ^ i → Int32.ofNat a &&& (((1 : Int32) <<< (Int32.ofNat i &&& 31)) ^^^ (-1)) = Int32.ofNat a ∧ Int32.ofNat a ||| ((0 : Int32) <<< (Int32.ofNat i &&& 31)) = Int32.ofNat a ∧ (Int32.ofNat a ||| ((1 : Int32) <<< (Int32.ofNat i &&& 31))).toInt = ((a + 2 ^ i : Nat) : Int) := by decide +kernel
theorem wbtC {a b x : Int32} {i : Nat} (v : St) (hb : b.toInt = (i : Int)) (hi : i < 10) (ha : 0 ≤ a.toInt ∧ a.toInt < ((2 ^ i : Nat) : Int)) : F_X7_withBit a b x v = a ||| (F_X8_flag x v <<< (b &&& 31)) ∧ 0 ≤ (F_X7_withBit a b x v).toInt ∧ (F_X7_withBit a b x v).toInt < ((2 ^ (i + 1) : Nat) : Int) := by
  have hp : 2 ^ i ≤ 2 ^ 9 := Nat.pow_le_pow_right (by omega) (by omega)
  have eb := i32_of (x := b) (n := i) hb (by omega)
  have ea := i32_of (x := a) (n := a.toInt.toNat) (by omega) (by omega)
  have t := wbt_a i hi a.toInt.toNat (by omega)
  rw [← eb, ← ea] at t
  have hq : 2 ^ (i + 1) = 2 * 2 ^ i := by rw [Nat.pow_succ, Nat.mul_comm]
  simp only [F_X7_withBit, F_X8_flag, xl_d]
  by_cases d : x.toInt = 0
  · rw [if_pos d, if_pos d, t.1, t.2.1]
    exact ⟨rfl, by omega, by omega⟩
  · rw [if_neg d, if_neg d]
    refine ⟨rfl, ?_, ?_⟩ <;> (rw [t.2.2]; omega)
theorem flagE {x y : Int32} (v w : St) (h : x.toInt = 0 ↔ y.toInt = 0) : F_X8_flag x v = F_X8_flag y w := by
  simp only [F_X8_flag]
  by_cases d : x.toInt = 0
  · rw [if_pos d, if_pos (h.mp d)]
  · rw [if_neg d, if_neg (fun z => d (h.mpr z))]
theorem flag_v (x : Int32) (v w : St) : F_X8_flag x v = F_X8_flag x w := rfl
theorem ans_up {c m : St} {r r2 a0 : Int32} {w : St} (h : Sim c m) (hC : r = F_X7_up 0 a0 c) (hM : (r2, w) = F_X8_up 0 a0 m) : r = r2 := by
  have c0 : (0 : Int32).toInt = 0 := rfl
  have hs := isHrC (a := a0) (c := c)
  have hm := isHrM (a := a0) (m := m)
  have hA := h.1.at (p := 17) (stM1 m).1 ((stM1 m).2 0 3 (by omega)) ((stM1 m).2 0 4 (by omega)) (fun _ _ => rfl)
  generalize hMs : F_X8_starts 0 m = u at hA
  have h5 := hA.1.1
  unfold F_X7_up at hC
  unfold F_X8_up at hM
  rw [hMs] at hM
  obtain ⟨N, hN⟩ : ∃ N : Nat, N = (2147483647 - (0 : Int32).toInt).toNat := ⟨_, rfl⟩
  rw [← hN] at hC hM
  obtain ⟨P, eP, hC⟩ := xl_e hC.symm
  obtain ⟨Q, eQ, hM⟩ := xl_e hM.symm
  have Lp : ∀ (n : Nat) (y a : Int32) (i : Nat), (2147483647 - y.toInt).toNat < n → y.toInt = (i : Int) → (i : Int) ≤ (u.1 0 3).toInt → 0 ≤ a.toInt ∧ a.toInt < ((2 ^ i : Nat) : Int) → lp P (fun _ _ => (0 : Int32)) n a y = (lp Q (fun _ _ _ => ((0 : Int32), m)) n a y u).1 := by
    intro n
    induction n with
    | zero => intro y a i hm; exact absurd hm (Nat.not_lt_zero _)
    | succ n ih =>
      intro y a i hm hy h1 ha
      rw [lp_s, lp_s]
      by_cases d : y.toInt < (u.1 0 3).toInt
      · have ey : (y + 1).toInt = y.toInt + 1 := adI rfl rfl (by omega) (by omega)
        have hb := wbtC (x := F_X0_isStarUp 12 y a0 c) c hy (by omega) ha
        have hu := hA.up (a := y) (b := a0) (by omega)
        have ep : P (lp P (fun _ _ => (0 : Int32)) n) a y = lp P (fun _ _ => (0 : Int32)) n (F_X7_withBit a y (F_X0_isStarUp 12 y a0 c) c) (y + 1) := by
          generalize lp P (fun _ _ => (0 : Int32)) n = sf
          rw [eP]
          simp only [xl_d, Nat.reduceAdd]
          rw [if_pos (by rw [h5.1]; exact d)]
        have eq : Q (lp Q (fun _ _ _ => ((0 : Int32), m)) n) a y u = lp Q (fun _ _ _ => ((0 : Int32), m)) n (F_X7_withBit a y (F_X0_isStarUp 12 y a0 c) c) (y + 1) u := by
          rw [hb.1, flagE c u hu]
          generalize lp Q (fun _ _ _ => ((0 : Int32), m)) n = sf
          rw [eQ]
          simp only [xl_d, Nat.reduceAdd]
          rw [if_pos d]
        rw [ep, eq]
        exact ih (y + 1) _ (i + 1) (by omega) (by omega) (by omega) hb.2
      · have ep : P (lp P (fun _ _ => (0 : Int32)) n) a y = a := by
          generalize lp P (fun _ _ => (0 : Int32)) n = sf
          rw [eP]
          simp only [xl_d, Nat.reduceAdd]
          rw [if_neg (by rw [h5.1]; exact d)]
        have eq : Q (lp Q (fun _ _ _ => ((0 : Int32), m)) n) a y u = (a, u) := by
          generalize lp Q (fun _ _ _ => ((0 : Int32), m)) n = sf
          rw [eQ]
          simp only [xl_d, Nat.reduceAdd]
          rw [if_neg d]
        rw [ep, eq]
  rw [xl_d] at hC hM
  by_cases p : 0 ≤ a0.toInt ∧ a0.toInt ≤ 9
  · rw [if_neg (fun z => hs.mp z p)] at hC
    rw [if_neg (fun z => hm.mp z p), xl_d] at hM
    have := Lp (N + 1) 0 0 0 (by rw [← hN]; exact Nat.lt_succ_self N) rfl (by omega) ⟨by decide, by decide⟩
    rw [hM, hC] at this
    exact this
  · rw [if_pos (hs.mpr p)] at hC
    rw [if_pos (hm.mpr p)] at hM
    rw [← hC]; exact (Prod.mk.inj hM).1
/-! how many stars are known -/
def lowB (K : Int32) (i : Nat) : Int32 := i.rec 0 (fun j a => a ||| (((K >>> (Int32.ofNat j &&& 31)) &&& 1) <<< (Int32.ofNat j &&& 31)))
def sumB (K : Int32) (i : Nat) : Int32 := i.rec 0 (fun j a => a + ((K >>> (Int32.ofNat j &&& 31)) &&& 1))
theorem lowB_t : ∀ s : Nat, s < 6 → ∀ k : Nat, k < 2 ^ s → lowB (Int32.ofNat k) s = Int32.ofNat k := by decide +kernel
theorem sumB_t : ∀ k : Nat, k < 32 → F_J6_bitCount_0f7a4 (Int32.ofNat k) v0 = sumB (Int32.ofNat k) 5 ∧ 0 ≤ (sumB (Int32.ofNat k) 5).toInt ∧ (sumB (Int32.ofNat k) 5).toInt ≤ 5 := by decide +kernel
theorem knM {c m : St} (h : NR 12 0 c m) : F_X8_known 0 m = c.1 12 4 := by
  have c0 : (0 : Int32).toInt = 0 := rfl
  have h5 := h.1.1.2
  generalize hu : F_X8_known 0 m = u
  unfold F_X8_known at hu
  obtain ⟨N, hN⟩ : ∃ N : Nat, N = (2147483647 - (0 : Int32).toInt).toNat := ⟨_, rfl⟩
  rw [← hN] at hu
  obtain ⟨P, eP, hu⟩ := xl_e hu
  have Lp : ∀ (n : Nat) (y : Int32) (i : Nat), (2147483647 - y.toInt).toNat < n → y.toInt = (i : Int) → (i : Int) ≤ (m.1 0 3).toInt → lp P (fun _ _ => (0 : Int32)) n (lowB (c.1 12 4) i) y = lowB (c.1 12 4) (m.1 0 3).toInt.toNat := by
    intro n
    induction n with
    | zero => intro y i hm; exact absurd hm (Nat.not_lt_zero _)
    | succ n ih =>
      intro y i hm hy h1
      rw [lp_s]
      by_cases d : y.toInt < (m.1 0 3).toInt
      · have ey : (y + 1).toInt = y.toInt + 1 := adI rfl rfl (by omega) (by omega)
        have m4 : ((4 : Int32) * y).toInt = 4 * y.toInt := mlI rfl rfl (by omega) (by omega)
        have a2 : ((4 : Int32) * y + 3).toInt = 4 * y.toInt + 3 := adI m4 rfl (by omega) (by omega)
        have n2 := cnI (x := (4 : Int32) * y + 3) (by omega)
        have gi := (h.2.2.1.2 i (by omega)).2.2.2
        have ep : P (lp P (fun _ _ => (0 : Int32)) n) (lowB (c.1 12 4) i) y = lp P (fun _ _ => (0 : Int32)) n (lowB (c.1 12 4) (i + 1)) (y + 1) := by
          generalize lp P (fun _ _ => (0 : Int32)) n = sf
          rw [eP]
          simp only [xl_d, Nat.reduceAdd]
          rw [if_pos d, show ((4 : Int32) * y + 3).toNatClampNeg = 0 + 4 * i + 3 by omega, ← gi, i32_of hy (by omega)]
          rfl
        rw [ep]
        exact ih (y + 1) (i + 1) (by omega) (by omega) (by omega)
      · have ep : P (lp P (fun _ _ => (0 : Int32)) n) (lowB (c.1 12 4) i) y = lowB (c.1 12 4) i := by
          generalize lp P (fun _ _ => (0 : Int32)) n = sf
          rw [eP]
          simp only [xl_d, Nat.reduceAdd]
          rw [if_neg d]
        rw [ep, show (m.1 0 3).toInt.toNat = i by omega]
  have hl := Lp (N + 1) 0 0 (by rw [← hN]; exact Nat.lt_succ_self N) rfl (by omega)
  have hk := h.2.2.1.1
  have hk2 := hk.2.2 (m.1 0 3).toInt.toNat (by omega) (by omega)
  have ek := i32_of (x := c.1 12 4) (n := (c.1 12 4).toInt.toNat) (by omega) (by omega)
  have t := lowB_t (m.1 0 3).toInt.toNat (by omega) (c.1 12 4).toInt.toNat (by omega)
  rw [← ek] at t
  rw [← hu, ← t]
  exact hl
theorem btM (K : Int32) (m : St) : F_X8_bitsOf K m = sumB K 5 := by
  have c0 : (0 : Int32).toInt = 0 := rfl
  generalize hu : F_X8_bitsOf K m = u
  unfold F_X8_bitsOf at hu
  obtain ⟨N, hN⟩ : ∃ N : Nat, N = (2147483647 - (0 : Int32).toInt).toNat := ⟨_, rfl⟩
  rw [← hN] at hu
  obtain ⟨P, eP, hu⟩ := xl_e hu
  have Lp : ∀ (n : Nat) (y : Int32) (i : Nat), (2147483647 - y.toInt).toNat < n → y.toInt = (i : Int) → (i : Int) ≤ 5 → lp P (fun _ _ => (0 : Int32)) n (sumB K i) y = sumB K 5 := by
    intro n
    induction n with
    | zero => intro y i hm; exact absurd hm (Nat.not_lt_zero _)
    | succ n ih =>
      intro y i hm hy h1
      rw [lp_s]
      by_cases d : y.toInt < 5
      · have ey : (y + 1).toInt = y.toInt + 1 := adI rfl rfl (by omega) (by omega)
        have ep : P (lp P (fun _ _ => (0 : Int32)) n) (sumB K i) y = lp P (fun _ _ => (0 : Int32)) n (sumB K (i + 1)) (y + 1) := by
          generalize lp P (fun _ _ => (0 : Int32)) n = sf
          rw [eP]
          simp only [xl_d, Nat.reduceAdd]
          rw [if_pos d, i32_of hy (by omega)]
          rfl
        rw [ep]
        exact ih (y + 1) (i + 1) (by omega) (by omega) (by omega)
      · have ep : P (lp P (fun _ _ => (0 : Int32)) n) (sumB K i) y = sumB K i := by
          generalize lp P (fun _ _ => (0 : Int32)) n = sf
          rw [eP]
          simp only [xl_d, Nat.reduceAdd]
          rw [if_neg d]
        rw [ep, show i = 5 by omega]
  rw [← hu]
  exact Lp (N + 1) 0 0 (by rw [← hN]; exact Nat.lt_succ_self N) rfl (by omega)
theorem btC {K : Int32} (c m : St) (h : 0 ≤ K.toInt ∧ K.toInt ≤ 31) : F_J6_bitCount_0f7a4 K c = F_X8_bitsOf K m ∧ 0 ≤ (F_X8_bitsOf K m).toInt ∧ (F_X8_bitsOf K m).toInt ≤ 5 := by
  have ek := i32_of (x := K) (n := K.toInt.toNat) (by omega) (by omega)
  have t := sumB_t K.toInt.toNat (by omega)
  rw [← ek] at t
  rw [btM]
  exact t
theorem ans_count {c m : St} {r r2 a0 : Int32} (h : Sim c m) (hC : r = F_X7_count 0 a0 c) (hM : r2 = F_X8_count 0 a0 m) : r = r2 := by
  have g := h.1
  have hk := g.2.2.1.1
  have c1 : ((-1 : Int32)).toInt = -1 := rfl
  simp only [F_X7_count, xl_d, Nat.reduceAdd, Nat.reduceMul, cn0, cn1] at hC
  simp only [F_X8_count, xl_d, Nat.reduceAdd, cn0, cn1, cn41] at hM
  rw [knM g, ← (btC c m ⟨hk.1, hk.2.1⟩).1] at hM
  by_cases q0 : a0.toInt = 0
  · rw [if_pos q0] at hC hM; rw [hC, hM]
  rw [if_neg q0] at hC hM
  by_cases q1 : a0.toInt = 1
  · rw [if_pos q1] at hC hM; rw [hC, hM]; exact g.2.2.2.2.2.1.1
  rw [if_neg q1] at hC hM
  by_cases q2 : a0.toInt = 2
  · rw [if_pos q2] at hC hM; rw [hC, hM, (h.2.1 0 (by omega)).1, (h.2.1 1 (by omega)).1]; rfl
  rw [if_neg q2] at hC hM
  by_cases q3 : a0.toInt = 3
  · rw [if_pos q3] at hC hM; rw [hC, hM]; exact h.2.2.1.1.1
  rw [if_neg q3] at hC hM
  by_cases q4 : a0.toInt = 4
  · rw [if_pos q4] at hC hM
    have hs := h.2.2.2.1 0 (by omega)
    obtain ⟨t1, t2, -⟩ := hs
    have t2 : c.1 83 1 = m.1 7 0 := t2.1
    have t1 : ((c.1 83 0).toInt = -1 ∧ (m.1 6 0).toInt = -4) ∨ (c.1 83 0 = m.1 6 0 ∧ 0 ≤ (m.1 6 0).toInt ∧ (m.1 6 0).toInt ≤ 2) := t1
    rcases t1 with t1 | t1
    · rw [if_pos t1.1] at hC; rw [if_pos t1.2] at hM; rw [hC, hM]
    · rw [if_neg (by rw [t1.1]; omega)] at hC; rw [if_neg (by omega)] at hM; rw [hC, hM, t2]
  rw [if_neg q4] at hC hM
  rw [hC, hM]
