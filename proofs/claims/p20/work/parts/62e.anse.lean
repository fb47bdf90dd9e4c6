theorem ans_aims {c m : St} {r r2 a0 : Int32} {u w : St} (h : Sim c m) (hC : (r, u) = F_X7_aims 0 a0 c) (hM : (r2, w) = F_X8_aims 0 a0 m) : r = r2 := by
  have c0 : (0 : Int32).toInt = 0 := rfl
  have gp := h.1.2.2.2.2.1
  have hs := hasPl 12 a0 c
  rw [gp.1.1] at hs
  have h3 := gp.1.2
  rw [Nat.zero_add] at h3 hs
  have e : (m.1 1 32 - 1).toInt = (m.1 1 32).toInt - 1 := sbI rfl rfl (by omega) (by omega)
  have hm := inI (x := a0) (b := 0) (c := (m.1 1 32 - 1).toInt64) (lo := 0) (hi := (m.1 1 32).toInt - 1) m rfl (by rw [i64_of, e])
  unfold F_X7_aims at hC
  unfold F_X8_aims at hM
  obtain ⟨N, hN⟩ : ∃ N : Nat, N = (2147483647 - (0 : Int32).toInt).toNat := ⟨_, rfl⟩
  rw [← hN] at hC hM
  obtain ⟨P, eP, hC⟩ := xl_e hC.symm
  obtain ⟨Q, eQ, hM⟩ := xl_e hM.symm
  simp only [xl_d, Nat.reduceAdd, cn32] at hC hM
  by_cases p : 0 ≤ a0.toInt ∧ a0.toInt < (m.1 1 32).toInt
  · rw [if_neg (fun z => hs.mp z p)] at hC
    rw [if_neg (fun z => hm.mp z (by omega))] at hM
    have a2 : ((33 : Int32) + a0).toInt = 33 + a0.toInt := adI rfl rfl (by omega) (by omega)
    have n2 := cnI (x := (33 : Int32) + a0) (by omega)
    have n0 := cnI (x := a0) (by omega)
    have ei : ((33 : Int32) + a0).toNatClampNeg = 33 + a0.toNatClampNeg := by omega
    have Lp : ∀ (n : Nat) (a y : Int32) (i : Nat) (x z : St), (2147483647 - y.toInt).toNat < n → y.toInt = (i : Int) → i ≤ 7 → 0 ≤ a.toInt ∧ a.toInt < ((2 ^ i : Nat) : Int) → NR 12 0 x z → z.1 1 32 = m.1 1 32 → (lp P (fun _ _ _ => ((0 : Int32), c)) n a y x).1 = (lp Q (fun _ _ _ => ((0 : Int32), m)) n a y z).1 := by
      intro n
      induction n with
      | zero => intro a y i x z hm; exact absurd hm (Nat.not_lt_zero _)
      | succ n ih =>
        intro a y i x z hmm hy hi ha hR h32
        rw [lp_s, lp_s]
        generalize lp P (fun _ _ _ => ((0 : Int32), c)) n = sf at *
        generalize lp Q (fun _ _ _ => ((0 : Int32), m)) n = sg at *
        rw [eP, eQ]
        simp only [xl_d, xm_d, Nat.reduceAdd]
        have ha1 := hasAm 12 y x
        rw [hR.1.1.1] at ha1
        have ha2 := isAmM (a := y) hR.1.1.2
        by_cases d : y.toInt < 7
        · have ey : (y + 1).toInt = y.toInt + 1 := adI rfl rfl (by omega) (by omega)
          have hp2 : 2 ^ i ≤ 2 ^ (i + 1) := Nat.pow_le_pow_right (by omega) (by omega)
          rw [if_pos d, if_pos d]
          by_cases q : y.toInt = 5 ∨ y.toInt = 6 ∨ (0 ≤ y.toInt ∧ y.toInt < (z.1 0 3).toInt)
          · obtain ⟨hT, hs, fb⟩ := hR.tr
            have fs := (stM1 z).2
            have fs1 := (stM1 z).1
            have hT2 := hT.plan (w := y) (j := a0.toNatClampNeg) (by rw [fs1 32 (by omega), h32]; omega) (by rw [fs 0 3 (by omega)]; exact q)
            have hs2 : SQ (up1 (F_X6_begin 21 12 x) 28 a0.toNatClampNeg y) (up1 (F_X8_starts 0 z) 2 (33 + a0.toNatClampNeg) y) := hs.fr (fun a b _ => nn_ a b (by omega)) (fun b => by rw [nn_ 1 b (by omega)]; exact fs 1 b (by omega))
            obtain ⟨t1, t2, t3⟩ := hT2.seen hs2
            rw [if_neg (fun zz => ha1.mp zz q), if_neg (fun zz => ha2.mp zz q), ei]
            have hb := wbtC (x := (F_X6_isAllAsSeen 21 (up1 (F_X6_begin 21 12 x) 28 a0.toNatClampNeg y)).1) (F_X6_isAllAsSeen 21 (up1 (F_X6_begin 21 12 x) 28 a0.toNatClampNeg y)).2 hy (by omega) ha
            have hn : NR 12 0 (F_X6_isAllAsSeen 21 (up1 (F_X6_begin 21 12 x) 28 a0.toNatClampNeg y)).2 (F_X8_isSo 0 (up1 (F_X8_starts 0 z) 2 (33 + a0.toNatClampNeg) y)).2 := hR.nx (fun a b zz => by rw [t2 a b (by omega), nn_ a b (by omega)]; exact fb a b (by omega)) (fun a b zz => by rw [t3 a b (by omega), nn_ a b (by omega)]; exact fs a b (by omega))
            have := ih _ (y + 1) (i + 1) _ _ (by omega) (by omega) (by omega) hb.2 hn (by rw [t3 1 32 (by omega), nn_ 1 32 (by omega), fs 1 32 (by omega)]; exact h32)
            rw [this, hb.1, flagE _ (F_X8_isSo 0 (up1 (F_X8_starts 0 z) 2 (33 + a0.toNatClampNeg) y)).2 t1]
          · rw [if_pos (ha1.mpr q), if_pos (ha2.mpr q)]
            exact ih a (y + 1) (i + 1) x z (by omega) (by omega) (by omega) (by omega) hR h32
        · rw [if_neg d, if_neg d]
    have := Lp (N + 1) 0 0 0 c m (by rw [← hN]; exact Nat.lt_succ_self N) rfl (by omega) ⟨by decide, by decide⟩ h.1 rfl
    rw [hC, hM] at this
    exact this
  · rw [if_pos (hs.mpr p)] at hC
    rw [if_pos (hm.mpr (by omega))] at hM
    rw [← (Prod.mk.inj hC).1, ← (Prod.mk.inj hM).1]
theorem sh1_t : ∀ s : Nat, s < 6 → ((1 : Int32) <<< (Int32.ofNat s &&& 31)).toInt = ((2 ^ s : Nat) : Int) := by decide +kernel
theorem sh1 {s : Int32} (h : 0 ≤ s.toInt ∧ s.toInt ≤ 5) : ((1 : Int32) <<< (s &&& 31)).toInt = ((2 ^ s.toInt.toNat : Nat) : Int) ∧ ((1 : Int32) <<< (s &&& 31)).toInt ≤ 32 := by
  have e := i32_of (x := s) (n := s.toInt.toNat) (by omega) (by omega)
  have t := sh1_t s.toInt.toNat (by omega)
  rw [← e] at t
  have : 2 ^ s.toInt.toNat ≤ 2 ^ 5 := Nat.pow_le_pow_right (by omega) (by omega)
  exact ⟨t, by rw [t]; omega⟩
theorem ans_fits {c m : St} {r r2 a0 : Int32} {u w : St} (h : Sim c m) (hC : (r, u) = F_X7_fits 0 a0 c) (hM : (r2, w) = F_X8_fits 0 a0 m) : r = r2 := by
  have c0 : (0 : Int32).toInt = 0 := rfl
  have c4 : (-4 : Int32).toInt = -4 := rfl
  have hs := isZoC (a := a0) (c := c)
  have hm := isPtM (a := a0) (m := m)
  unfold F_X7_fits at hC
  unfold F_X8_fits at hM
  obtain ⟨N, hN⟩ : ∃ N : Nat, N = (2147483647 - (0 : Int32).toInt).toNat := ⟨_, rfl⟩
  rw [← hN] at hC hM
  obtain ⟨P, eP, hC⟩ := xl_e hC.symm
  obtain ⟨Q, eQ, hM⟩ := xl_e hM.symm
  rw [xl_d] at hC hM
  by_cases p : 0 ≤ a0.toInt ∧ a0.toInt ≤ 1
  · rw [if_neg (fun z => hs.mp z p)] at hC
    rw [if_neg (fun z => hm.mp z p)] at hM
    have Lp : ∀ (n : Nat) (a b y : Int32) (x z : St), (2147483647 - y.toInt).toNat < n → 0 ≤ y.toInt → y.toInt ≤ 32 → 0 ≤ a.toInt → a.toInt ≤ y.toInt → (b.toInt = -4 ↔ a.toInt = 0) → NR 12 0 x z → (lp P (fun _ _ _ _ => ((0 : Int32), c)) n a b y x).1 = (lp Q (fun _ _ _ _ => ((0 : Int32), m)) n a b y z).1 := by
      intro n
      induction n with
      | zero => intro a b y x z hm; exact absurd hm (Nat.not_lt_zero _)
      | succ n ih =>
        intro a b y x z hmm hy hy2 ha ha2 hab hR
        rw [lp_s, lp_s]
        generalize lp P (fun _ _ _ _ => ((0 : Int32), c)) n = sf at *
        generalize lp Q (fun _ _ _ _ => ((0 : Int32), m)) n = sg at *
        rw [eP, eQ]
        simp only [xl_d, xm_d, Nat.reduceAdd]
        have h5 := hR.1.1
        have h2 := sh1 h5.2
        rw [h5.1]
        by_cases d : y.toInt < ((1 : Int32) <<< (z.1 0 3 &&& 31)).toInt
        · have ey : (y + 1).toInt = y.toInt + 1 := adI rfl rfl (by omega) (by omega)
          have ea : (a + 1).toInt = a.toInt + 1 := adI rfl rfl (by omega) (by omega)
          obtain ⟨-, hs, fb⟩ := hR.tr
          have fs := (stM1 z).2
          obtain ⟨-, k2⟩ := knJ (m := z) y h5.2
          have hs2 : SQ (up1 (F_X6_begin 21 12 x) 22 4 y) (F_X8_knowsJust 0 y z) := hs.fr (fun a b _ => nn_ a b (by omega)) (fun b => by rw [k2 1 b (by omega)]; exact fs 1 b (by omega))
          obtain ⟨t1, t2, t3⟩ := (hR.know y).seen hs2
          have hn : NR 12 0 (F_X6_isAllAsSeen 21 (up1 (F_X6_begin 21 12 x) 22 4 y)).2 (F_X8_isSo 0 (F_X8_knowsJust 0 y z)).2 := hR.nx (fun a b zz => by rw [t2 a b (by omega), nn_ a b (by omega)]; exact fb a b (by omega)) (fun a b zz => by rw [t3 a b (by omega), k2 a b (by omega)]; exact fs a b (by omega))
          rw [if_pos d, if_pos d]
          by_cases q : (F_X8_isSo 0 (F_X8_knowsJust 0 y z)).1.toInt = 0
          · rw [if_pos q, if_pos (t1.mpr q)]
            exact ih a b (y + 1) _ _ (by omega) (by omega) (by omega) ha (by omega) hab hn
          · rw [if_neg q, if_neg (fun zz => q (t1.mp zz))]
            by_cases q2 : a.toInt = 0
            · rw [if_pos q2, if_pos (hab.mpr q2)]
              exact ih (a + 1) y (y + 1) _ _ (by omega) (by omega) (by omega) (by omega) (by omega) (by omega) hn
            · rw [if_neg q2, if_neg (fun zz => q2 (hab.mp zz))]
              exact ih (a + 1) b (y + 1) _ _ (by omega) (by omega) (by omega) (by omega) (by omega) (by omega) hn
        · rw [if_neg d, if_neg d]
          by_cases q : a0.toInt = 0
          · rw [if_pos q, if_pos q]
          · rw [if_neg q, if_neg q]
    have := Lp (N + 1) 0 (-4) 0 c m (by rw [← hN]; exact Nat.lt_succ_self N) (by omega) (by omega) (by omega) (by omega) (by omega) h.1
    rw [hC, hM] at this
    exact this
  · rw [if_pos (hs.mpr p)] at hC
    rw [if_pos (hm.mpr p)] at hM
    rw [← (Prod.mk.inj hC).1, ← (Prod.mk.inj hM).1]
