/-! who is in front -/
theorem szB {x : Int32} (h : -300 ≤ x.toInt ∧ x.toInt ≤ 300) (v : St) : 0 ≤ (F_X8_sizeOf x v).toInt ∧ (F_X8_sizeOf x v).toInt ≤ 300 := by
  simp only [F_X8_sizeOf, xl_d]
  have c0 : (0 : Int32).toInt = 0 := rfl
  have e : (-x).toInt = - x.toInt := by
    have := sbI (x := 0) (y := x) (a := 0) (b := x.toInt) rfl rfl (by omega) (by omega)
    rw [← Int32.zero_sub]; omega
  by_cases d : x.toInt < 0
  · rw [if_pos d]; omega
  · rw [if_neg d]; omega
theorem c6m : (1000000 : Int32).toInt = 1000000 := by decide +kernel
theorem sz6 (v : St) : (F_X8_sizeOf (1000000 : Int32) v).toInt = 1000000 := by
  simp only [F_X8_sizeOf, xl_d]
  rw [if_neg (by rw [c6m]; omega), c6m]
theorem TR.side {c m : St} (h : TR c m) : -300 ≤ (m.1 2 31).toInt ∧ (m.1 2 31).toInt ≤ 300 := by
  have a := h.1.2.2.2.2.2.2.2.2
  have b := h.1.2.2.2.2.2.1.2
  omega
theorem ans_front {c m : St} {r r2 a0 : Int32} {u w : St} (h : Sim c m) (hC : (r, u) = F_X7_front 0 a0 c) (hM : (r2, w) = F_X8_front 0 a0 m) : r = r2 := by
  have c0 : (0 : Int32).toInt = 0 := rfl
  have c1 : (1 : Int32).toInt = 1 := rfl
  have i1 : ¬ (1 : Int32).toInt = 0 := by decide
  have hs := isZoC (a := a0) (c := c)
  have hm := isPtM (a := a0) (m := m)
  unfold F_X7_front at hC
  unfold F_X8_front at hM
  obtain ⟨N, hN⟩ : ∃ N : Nat, N = (2147483647 - (0 : Int32).toInt).toNat := ⟨_, rfl⟩
  rw [← hN] at hC hM
  obtain ⟨P, eP, hC⟩ := xl_e hC.symm
  obtain ⟨Q, eQ, hM⟩ := xl_e hM.symm
  rw [xl_d] at hC hM
  by_cases p : 0 ≤ a0.toInt ∧ a0.toInt ≤ 1
  · rw [if_neg (fun z => hs.mp z p)] at hC
    rw [if_neg (fun z => hm.mp z p)] at hM
    have Lp : ∀ (n : Nat) (a b f y : Int32) (x z : St), (2147483647 - y.toInt).toNat < n → 0 ≤ y.toInt → y.toInt ≤ 3 → ((a.toInt = -4 ∧ f.toInt = 1000000) ∨ (0 ≤ a.toInt ∧ b = f ∧ -300 ≤ f.toInt ∧ f.toInt ≤ 300)) → NR 12 0 x z → (lp P (fun _ _ _ _ => ((0 : Int32), c)) n a b y x).1 = (lp Q (fun _ _ _ _ => ((0 : Int32), m)) n a f y z).1 := by
      intro n
      induction n with
      | zero => intro a b f y x z hm; exact absurd hm (Nat.not_lt_zero _)
      | succ n ih =>
        intro a b f y x z hmm hy hy2 hab hR
        rw [lp_s, lp_s]
        generalize lp P (fun _ _ _ _ => ((0 : Int32), c)) n = sf at *
        generalize lp Q (fun _ _ _ _ => ((0 : Int32), m)) n = sg at *
        rw [eP, eQ]
        simp only [xl_d, xm_d, Nat.reduceAdd, cn31, cn23]
        have h3 := hR.1.2
        rw [h3.1]
        by_cases d : y.toInt < (z.1 0 4).toInt
        · have ey : (y + 1).toInt = y.toInt + 1 := adI rfl rfl (by omega) (by omega)
          obtain ⟨hT, -, fb⟩ := hR.tr
          have fs := (stM1 z).2
          have hW := (hT.front (w := y) ⟨hy, by rw [fs 0 4 (by omega)]; exact d⟩).walk
          have hn := hW.nx hR (fun a b zz => by rw [nn_ a b (by omega)]; exact fb a b (by omega)) (fun a b zz => by rw [nn_ a b (by omega)]; exact fs a b (by omega))
          have hsd := hW.1.side
          have e27 : (F_X6_walkPlan 21 (up1 (F_X6_begin 21 12 x) 22 7 y)).1 27 2 = (F_X8_plansGo 0 (up1 (F_X8_starts 0 z) 2 23 y)).1 2 31 := hW.1.1.2.2.2.2.2.2.2.1
          rw [if_pos d, if_pos d, e27]
          generalize F_X6_walkPlan 21 (up1 (F_X6_begin 21 12 x) 22 7 y) = x1 at hn ⊢
          generalize F_X8_plansGo 0 (up1 (F_X8_starts 0 z) 2 23 y) = z1 at hn hsd ⊢
          have sz := szB hsd z1
          rcases hab with ⟨t1, t2⟩ | ⟨t1, t2, t3⟩
          · have ef : f = 1000000 := Int32.toInt_inj.mp (by rw [t2, c6m])
            have s6 := sz6 z1
            rw [if_pos t1, ef, if_pos (by omega)]
            simp only [if_neg i1]
            exact ih y (z1.1 2 31) (z1.1 2 31) (y + 1) x1 z1 (by omega) (by omega) (by omega) (Or.inr ⟨hy, rfl, hsd⟩) hn
          · rw [if_neg (show ¬ a.toInt = -4 by omega), t2, ← sizeI _ z1, ← sizeI _ z1]
            by_cases q : (F_X8_sizeOf (z1.1 2 31) z1).toInt < (F_X8_sizeOf f z1).toInt
            · rw [if_pos q, if_pos q]
              simp only [if_neg i1]
              exact ih y (z1.1 2 31) (z1.1 2 31) (y + 1) x1 z1 (by omega) (by omega) (by omega) (Or.inr ⟨hy, rfl, hsd⟩) hn
            · rw [if_neg q, if_neg q]
              simp only [if_pos c0]
              exact ih a f f (y + 1) x1 z1 (by omega) (by omega) (by omega) (Or.inr ⟨t1, rfl, t3⟩) hn
        · rw [if_neg d, if_neg d]
          rcases hab with ⟨t1, t2⟩ | ⟨t1, t2, t3⟩
          · have ea : a = -4 := Int32.toInt_inj.mp (by rw [t1]; rfl)
            have c4 : (-4 : Int32).toInt = -4 := rfl
            rw [ea]
            simp only [if_pos c4]
            by_cases q : a0.toInt = 0
            · rw [if_pos q]
            · rw [if_neg q]
          · have na : ¬ a.toInt = -4 := by omega
            simp only [if_neg na]
            rw [t2]
            by_cases q : a0.toInt = 0
            · rw [if_pos q, if_pos q]
            · rw [if_neg q, if_neg q]
    have := Lp (N + 1) (-4) 0 1000000 0 c m (by rw [← hN]; exact Nat.lt_succ_self N) (by omega) (by omega) (Or.inl ⟨rfl, c6m⟩) h.1
    rw [hC, hM] at this
    exact this
  · rw [if_pos (hs.mpr p)] at hC
    rw [if_pos (hm.mpr p)] at hM
    rw [← (Prod.mk.inj hC).1, ← (Prod.mk.inj hM).1]
/-! the nearest aim -/
def bttM (m : St) (s g : Int32) : Prop := (F_X8_sizeOf (m.1 2 31) m).toInt < (F_X8_sizeOf s m).toInt ∨ ((F_X8_sizeOf (m.1 2 31) m).toInt = (F_X8_sizeOf s m).toInt ∧ g.toInt < (m.1 2 30).toInt)
theorem sz_v (x : Int32) (v w : St) : F_X8_sizeOf x v = F_X8_sizeOf x w := by rw [sizeI, sizeI]
theorem isBM {m : St} : (bttM m (m.1 0 21) (m.1 0 22) → F_X8_isBetter 0 m = (1, up1 (up1 m 0 22 (m.1 2 30)) 0 21 (m.1 2 31))) ∧ (¬ bttM m (m.1 0 21) (m.1 0 22) → F_X8_isBetter 0 m = (0, up1 (up1 m 0 22 (m.1 0 22)) 0 21 (m.1 0 21))) := by
  have c0 : (0 : Int32).toInt = 0 := rfl
  have i1 : ¬ (1 : Int32).toInt = 0 := by decide
  unfold bttM
  simp only [F_X8_isBetter, xl_d, Nat.reduceAdd, cn30, cn31, if_pos c0, if_neg i1]
  rw [up1_n m (m.1 2 30) (k := 0) (j := 22) (k2 := 2) (j2 := 31) (by omega), up1_n m (m.1 0 22) (k := 0) (j := 22) (k2 := 0) (j2 := 21) (by omega)]
  constructor
  · intro q
    by_cases e : (F_X8_sizeOf (m.1 2 31) m).toInt < (F_X8_sizeOf (m.1 0 21) m).toInt
    · rw [if_pos e]
    · have q2 := q.resolve_left e
      rw [if_neg e, if_pos q2.1, if_pos q2.2]
  · intro q
    rw [if_neg (fun z => q (Or.inl z))]
    by_cases e : (F_X8_sizeOf (m.1 2 31) m).toInt = (F_X8_sizeOf (m.1 0 21) m).toInt
    · rw [if_pos e, if_neg (fun z => q (Or.inr ⟨e, z⟩))]
    · rw [if_neg e]
theorem isBC {c m : St} {p : Nat} {s g : Int32} (h2 : c.1 p 2 = m.1 2 31) (h1 : c.1 p 1 = m.1 2 30) : (F_X2_isBetterThan p s g c).toInt = 0 ↔ ¬ bttM m s g := by
  have c0 : (0 : Int32).toInt = 0 := rfl
  have c1 : (1 : Int32).toInt = 1 := rfl
  unfold bttM
  simp only [F_X2_isBetterThan, xl_d]
  rw [h2, h1, ← sizeI _ m, ← sizeI _ m]
  by_cases e : (F_X8_sizeOf (m.1 2 31) m).toInt < (F_X8_sizeOf s m).toInt
  · rw [if_pos e]
    exact ⟨fun z => by omega, fun z => absurd (Or.inl e) z⟩
  · rw [if_neg e]
    by_cases e2 : (F_X8_sizeOf (m.1 2 31) m).toInt = (F_X8_sizeOf s m).toInt
    · rw [if_pos e2]
      by_cases e3 : g.toInt < (m.1 2 30).toInt
      · rw [if_pos e3]
        exact ⟨fun z => by omega, fun z => absurd (Or.inr ⟨e2, e3⟩) z⟩
      · rw [if_neg e3]
        exact ⟨fun _ z => z.elim e (fun q => e3 q.2), fun _ => c0⟩
    · rw [if_neg e2]
      exact ⟨fun _ z => z.elim e (fun q => e2 q.1), fun _ => c0⟩
