/-! a bit turned over -/
theorem bit_i (X : Int32) : (X &&& 1).toInt = 1 ↔ X.toBitVec.getLsbD 0 = true := by
  have c0 : (0 : Int32).toInt = 0 := rfl
  have c1 : (1 : Int32).toInt = 1 := rfl
  constructor
  · intro h
    have e : X &&& 1 = 1 := Int32.toInt_inj.mp (by rw [h]; rfl)
    have e2 := congrArg (fun z : Int32 => z.toBitVec.getLsbD 0) e
    simp only [Int32.toBitVec_and, BitVec.getLsbD_and] at e2
    have e3 : (1 : Int32).toBitVec.getLsbD 0 = true := rfl
    rw [e3] at e2
    simpa using e2
  · intro h
    rcases bit01 X with q | q
    · exfalso
      have e : X &&& 1 = 0 := Int32.toInt_inj.mp (by rw [q]; rfl)
      have e2 := congrArg (fun z : Int32 => z.toBitVec.getLsbD 0) e
      simp only [Int32.toBitVec_and, BitVec.getLsbD_and] at e2
      have e3 : (1 : Int32).toBitVec.getLsbD 0 = true := rfl
      have e4 : (0 : Int32).toBitVec.getLsbD 0 = false := rfl
      rw [e3, e4, h] at e2
      simp at e2
    · exact q
theorem shr_i (C : Int32) (h : Nat) (hh : h < 10) : (C >>> (Int32.ofNat h &&& 31)).toBitVec.getLsbD 0 = C.toBitVec.getLsbD h := by
  have e : (Int32.ofNat h &&& 31).toBitVec.smod 32 = BitVec.ofNat 32 h := by
    have t : ∀ h : Nat, h < 10 → (Int32.ofNat h &&& 31).toBitVec.smod 32 = BitVec.ofNat 32 h := by decide +kernel
    exact t h hh
  have e2 : (BitVec.ofNat 32 h).toNat = h := by rw [BitVec.toNat_ofNat]; omega
  rw [Int32.toBitVec_shiftRight, e, BitVec.sshiftRight', e2, BitVec.getLsbD_sshiftRight]
  have : h < 32 := by omega
  simp [this]
theorem msk_i : ∀ h : Nat, h < 10 → ∀ i : Nat, i < 32 → ((1 : Int32) <<< (Int32.ofNat h &&& 31)).toBitVec.getLsbD i = decide (i = h) ∧ (((1 : Int32) <<< (Int32.ofNat h &&& 31)) ^^^ (-1)).toBitVec.getLsbD i = !decide (i = h) := by decide +kernel
theorem flip_t (C y : Int32) (h : Nat) (hh : h < 10) (hy : y.toInt = (h : Int)) : (((C >>> (y &&& 31)) &&& 1).toInt = 1 → C ^^^ ((1 : Int32) <<< (y &&& 31)) = C &&& (((1 : Int32) <<< (y &&& 31)) ^^^ (-1))) ∧ (¬ ((C >>> (y &&& 31)) &&& 1).toInt = 1 → C ^^^ ((1 : Int32) <<< (y &&& 31)) = C ||| ((1 : Int32) <<< (y &&& 31))) := by
  rw [i32_of hy (by omega), bit_i, shr_i C h hh]
  constructor
  · intro q
    refine Int32.toBitVec_inj.mp (BitVec.eq_of_getLsbD_eq (fun i hi => ?_))
    rw [Int32.toBitVec_xor, Int32.toBitVec_and, BitVec.getLsbD_xor, BitVec.getLsbD_and, (msk_i h hh i hi).1, (msk_i h hh i hi).2]
    by_cases e : i = h
    · rw [e, q]; simp
    · simp [e]
  · intro q
    refine Int32.toBitVec_inj.mp (BitVec.eq_of_getLsbD_eq (fun i hi => ?_))
    rw [Int32.toBitVec_xor, Int32.toBitVec_or, BitVec.getLsbD_xor, BitVec.getLsbD_or, (msk_i h hh i hi).1]
    by_cases e : i = h
    · rw [e, show C.toBitVec.getLsbD h = false by simpa using q]; simp
    · simp [e]
theorem undC {c m : St} (h : NR 12 0 c m) (K : Int32) : (F_X7_isAtWellUnder 0 K c).1 = F_X8_isAtWell 0 (F_X8_plansGo 0 (up1 (F_X8_starts 0 m) 2 28 K)) ∧ NR 12 0 (F_X7_isAtWellUnder 0 K c).2 (F_X8_plansGo 0 (up1 (F_X8_starts 0 m) 2 28 K)) := by
  obtain ⟨hT, -, fb⟩ := h.tr
  have fs := (stM1 m).2
  have hW := (hT.cloud K).walk
  have hn := hW.nx h (fun a b zz => by rw [nn_ a b (by omega)]; exact fb a b (by omega)) (fun a b zz => by rw [nn_ a b (by omega)]; exact fs a b (by omega))
  simp only [F_X7_isAtWellUnder, xl_d, Nat.reduceAdd]
  exact ⟨hW.1.well, hn⟩
theorem up1_id {m : St} {k j : Nat} {x : Int32} (h : m.1 k j = x) : up1 m k j x = m := by
  subst h
  refine Prod.ext (funext fun a => funext fun b => ?_) rfl
  by_cases e : a = k ∧ b = j
  · rw [e.1, e.2, up1_s]
  · exact up1_n _ _ (by omega)
theorem ans_weather {c m : St} {r r2 : Int32} {u w : St} (h : Sim c m) (hC : (r, u) = F_X7_weather 0 c) (hM : (r2, w) = F_X8_weather 0 m) : r = r2 := by
  have c0 : (0 : Int32).toInt = 0 := rfl
  unfold F_X7_weather at hC
  unfold F_X8_weather at hM
  obtain ⟨N, hN⟩ : ∃ N : Nat, N = (2147483647 - (0 : Int32).toInt).toNat := ⟨_, rfl⟩
  rw [← hN] at hC hM
  obtain ⟨P, eP, hC⟩ := xl_e hC.symm
  obtain ⟨Q, eQ, hM⟩ := xl_e hM.symm
  simp only [xl_d, xm_d, Nat.reduceAdd] at hC hM
  have Lp : ∀ (n : Nat) (a y : Int32) (i : Nat) (x z : St), (2147483647 - y.toInt).toNat < n → y.toInt = (i : Int) → i ≤ 10 → 0 ≤ a.toInt ∧ a.toInt < ((2 ^ i : Nat) : Int) → NR 12 0 x z → (lp P (fun _ _ _ => ((0 : Int32), c)) n a y x).1 = (lp Q (fun _ _ _ => ((0 : Int32), m)) n a y z).1 := by
    intro n
    induction n with
    | zero => intro a y i x z hm; exact absurd hm (Nat.not_lt_zero _)
    | succ n ih =>
      intro a y i x z hm hy hi ha hR
      rw [lp_s, lp_s]
      generalize lp P (fun _ _ _ => ((0 : Int32), c)) n = sf at *
      generalize lp Q (fun _ _ _ => ((0 : Int32), m)) n = sg at *
      rw [eP, eQ]
      simp only [xl_d, xm_d, Nat.reduceAdd, cn28]
      by_cases d : y.toInt < 10
      · have ey : (y + 1).toInt = y.toInt + 1 := adI rfl rfl (by omega) (by omega)
        have fl := flip_t (z.1 1 28) y i (by omega) hy
        have e11 : x.1 12 11 = z.1 1 28 := hR.2.1.2.2.2.2.2.1
        have e28 : (F_X8_starts 0 z).1 2 28 = z.1 1 28 := (stM1 z).1 28 (by omega)
        obtain ⟨t1, t2⟩ := undC hR (z.1 1 28 ^^^ ((1 : Int32) <<< (y &&& 31)))
        have hb := wbtC (x := (F_X7_isAtWellUnder 0 (z.1 1 28 ^^^ ((1 : Int32) <<< (y &&& 31))) x).1) (F_X7_isAtWellUnder 0 (z.1 1 28 ^^^ ((1 : Int32) <<< (y &&& 31))) x).2 hy (by omega) ha
        rw [if_pos d, if_pos d, e11, e28]
        have hh := ih _ (y + 1) (i + 1) _ _ (by omega) (by omega) (by omega) hb.2 t2
        rw [hh, hb.1, t1, flag_v (F_X8_isAtWell 0 (F_X8_plansGo 0 (up1 (F_X8_starts 0 z) 2 28 (z.1 1 28 ^^^ ((1 : Int32) <<< (y &&& 31)))))) _ (F_X8_plansGo 0 (up1 (F_X8_starts 0 z) 2 28 (z.1 1 28 ^^^ ((1 : Int32) <<< (y &&& 31)))))]
        by_cases q : ((z.1 1 28 >>> (y &&& 31)) &&& 1).toInt = 1
        · rw [if_pos q, ← fl.1 q]
        · rw [if_neg q, ← fl.2 q]
      · rw [if_neg d, if_neg d]
  have e11 : c.1 12 11 = m.1 1 28 := h.1.2.1.2.2.2.2.2.1
  have e28 : (F_X8_starts 0 m).1 2 28 = m.1 1 28 := (stM1 m).1 28 (by omega)
  obtain ⟨t1, t2⟩ := undC h.1 (m.1 1 28)
  rw [up1_id e28] at t1 t2
  rw [e11, t1] at hC
  by_cases q : (F_X8_isAtWell 0 (F_X8_plansGo 0 (F_X8_starts 0 m))).toInt = 0
  · rw [if_pos q] at hC hM
    have := Lp (N + 1) 0 0 0 _ _ (by rw [← hN]; exact Nat.lt_succ_self N) rfl (by omega) ⟨by decide, by decide⟩ t2
    rw [hC, hM] at this
    exact this
  · rw [if_neg q] at hC hM
    rw [← (Prod.mk.inj hC).1, ← (Prod.mk.inj hM).1]
theorem or_c (a b : Int32) : a ||| b = b ||| a := Int32.or_comm a b
theorem ans_lessons {c m : St} {r r2 a0 : Int32} {u w : St} (h : Sim c m) (hC : (r, u) = F_X7_lessons 0 a0 c) (hM : (r2, w) = F_X8_lessons 0 a0 m) : r = r2 := by
  have c0 : (0 : Int32).toInt = 0 := rfl
  have c1 : (1 : Int32).toInt = 1 := rfl
  have c4 : (-4 : Int32).toInt = -4 := rfl
  have hs := isZoC (a := a0) (c := c)
  have hm := isPtM (a := a0) (m := m)
  unfold F_X7_lessons at hC
  unfold F_X8_lessons at hM
  obtain ⟨N, hN⟩ : ∃ N : Nat, N = (2147483647 - (0 : Int32).toInt).toNat := ⟨_, rfl⟩
  rw [← hN] at hC hM
  obtain ⟨P, eP, hC⟩ := xl_e hC.symm
  obtain ⟨Q, eQ, hM⟩ := xl_e hM.symm
  rw [xl_d] at hC hM
  by_cases p : 0 ≤ a0.toInt ∧ a0.toInt ≤ 1
  · rw [if_neg (fun z => hs.mp z p)] at hC
    rw [if_neg (fun z => hm.mp z p)] at hM
    -- class: fewest a, least b; reference: fewest f, found b
    have Lp : ∀ (n : Nat) (a b f y : Int32) (x z : St), (2147483647 - y.toInt).toNat < n → 0 ≤ y.toInt → y.toInt ≤ 32 → ((a.toInt = -4 ∧ b.toInt = -4 ∧ f.toInt = 1000000) ∨ (a = f ∧ 0 ≤ f.toInt ∧ f.toInt ≤ 5 ∧ 0 ≤ b.toInt)) → NR 12 0 x z → (lp P (fun _ _ _ _ => ((0 : Int32), c)) n a b y x).1 = (lp Q (fun _ _ _ _ => ((0 : Int32), m)) n f b y z).1 := by
      intro n
      induction n with
      | zero => intro a b f y x z hm; exact absurd hm (Nat.not_lt_zero _)
      | succ n ih =>
        intro a b f y x z hmm hy hy2 hab hR
        rw [lp_s, lp_s]
        generalize lp P (fun _ _ _ _ => ((0 : Int32), c)) n = sf at *
        generalize lp Q (fun _ _ _ _ => ((0 : Int32), m)) n = sg at *
        rw [eP, eQ]
        simp only [xl_d, xm_d, Nat.reduceAdd, cn31, cn25]
        have h5 := hR.1.1
        have h2 := sh1 h5.2
        rw [h5.1, knM hR]
        by_cases d : y.toInt < ((1 : Int32) <<< (z.1 0 3 &&& 31)).toInt
        · have ey : (y + 1).toInt = y.toInt + 1 := adI rfl rfl (by omega) (by omega)
          obtain ⟨-, -, fb⟩ := hR.tr
          have fs := (stM1 z).2
          obtain ⟨-, k2⟩ := knJ (m := z) (x.1 12 4 ||| y) h5.2
          have hW := (hR.know (x.1 12 4 ||| y)).walk
          have hn := hW.nx hR (fun a b zz => by rw [nn_ a b (by omega)]; exact fb a b (by omega)) (fun a b zz => by rw [k2 a b (by omega)]; exact fs a b (by omega))
          have hbr := wthB (k := 22) (p := 27) hW.1.2.1.2 hW.1.1.2.2.2.2.2.2.2.1 (F_X8_plansGo 0 (F_X8_knowsJust 0 (x.1 12 4 ||| y) z))
          have hbt : ∀ v w : St, F_J6_bitCount_0f7a4 y v = F_X8_bitsOf y w ∧ 0 ≤ (F_X8_bitsOf y w).toInt ∧ (F_X8_bitsOf y w).toInt ≤ 5 := fun v w => btC v w ⟨hy, by omega⟩
          have hb0 := hbt x z
          have hbw : F_X8_bitsOf y (F_X8_plansGo 0 (F_X8_knowsJust 0 (x.1 12 4 ||| y) z)) = F_X8_bitsOf y z := by rw [btM, btM]
          rw [if_pos d, if_pos d, hb0.1, or_c y (x.1 12 4), hbw]
          simp only [F_X7_isOnTheWayKnowing, xl_d, Nat.reduceAdd]
          rw [hbr]
          generalize F_X8_bitsOf y z = B at hb0 ⊢
          generalize F_X6_walkPlan 21 (up1 (F_X6_begin 21 12 x) 22 4 (x.1 12 4 ||| y)) = x1 at hn ⊢
          generalize F_X8_plansGo 0 (F_X8_knowsJust 0 (x.1 12 4 ||| y) z) = z1 at hn ⊢
          have i1 : ¬ (1 : Int32).toInt = 0 := by omega
          by_cases q : (y &&& x.1 12 4).toInt = 0
          · simp only [if_pos q]
            by_cases s : B.toInt < f.toInt
            · rw [if_pos s]
              have ha : a.toInt = -4 ∨ B.toInt < a.toInt := by
                rcases hab with t | t
                · exact Or.inl t.1
                · exact Or.inr (by rw [t.1]; exact s)
              by_cases t : (z1.1 2 25).toInt < (F_X8_sizeOf (z1.1 2 31) z1).toInt
              · simp only [if_pos t, if_pos c0, if_neg i1]
                have fin := ih a b f (y + 1) x1 z1 (by omega) (by omega) (by omega) hab hn
                by_cases e : a.toInt = -4
                · rw [if_pos e]; exact fin
                · rw [if_neg e, if_pos (by omega)]; exact fin
              · simp only [if_neg t, if_neg i1]
                have fin := ih B y B (y + 1) x1 z1 (by omega) (by omega) (by omega) (Or.inr ⟨rfl, by omega, by omega, by omega⟩) hn
                by_cases e : a.toInt = -4
                · rw [if_pos e]; exact fin
                · rw [if_neg e, if_pos (by omega)]; exact fin
            · rw [if_neg s]
              have ha : ¬ a.toInt = -4 ∧ ¬ B.toInt < a.toInt := by
                rcases hab with t | t
                · omega
                · rw [t.1]; omega
              rw [if_neg ha.1, if_neg ha.2]
              simp only [if_pos c0]
              exact ih a b f (y + 1) x z (by omega) (by omega) (by omega) hab hR
          · simp only [if_neg q]
            have fin := ih a b f (y + 1) x z (by omega) (by omega) (by omega) hab hR
            by_cases e : a.toInt = -4
            · rw [if_pos e]; exact fin
            · rw [if_neg e]
              by_cases s : B.toInt < a.toInt
              · rw [if_pos s]; exact fin
              · rw [if_neg s]; exact fin
        · rw [if_neg d, if_neg d]
          rcases hab with t | t
          · have e1 : a = -4 := Int32.toInt_inj.mp (by rw [t.1]; rfl)
            have e2 : b = -4 := Int32.toInt_inj.mp (by rw [t.2.1]; rfl)
            rw [if_pos t.2.1, e1, e2]
            by_cases q : a0.toInt = 0
            · rw [if_pos q]
            · rw [if_neg q]
          · rw [if_neg (show ¬ b.toInt = -4 by omega), t.1]
            by_cases q : a0.toInt = 0
            · rw [if_pos q, if_pos q]
            · rw [if_neg q, if_neg q]
    have := Lp (N + 1) (-4) (-4) 1000000 0 c m (by rw [← hN]; exact Nat.lt_succ_self N) (by omega) (by omega) (Or.inl ⟨rfl, rfl, rfl⟩) h.1
    rw [hC, hM] at this
    exact this
  · rw [if_pos (hs.mpr p)] at hC
    rw [if_pos (hm.mpr p)] at hM
    rw [← (Prod.mk.inj hC).1, ← (Prod.mk.inj hM).1]
