/-! read -/
def RI (c0 m0 c m : St) : Prop := (∀ a b : Nat, a ≠ 61 → c.1 a b = c0.1 a b) ∧ (∀ a b : Nat, ((a ≠ 1 ∨ (b ≠ 27 ∧ b ≠ 29 ∧ b ≠ 30 ∧ b ≠ 31)) ∧ a ≠ 2 ∧ a ≠ 9 ∧ (a ≠ 0 ∨ b ≠ 19)) → m.1 a b = m0.1 a b) ∧ ((c.1 61 3 = m.1 1 27 ∧ 0 ≤ (m.1 1 27).toInt ∧ (m.1 1 27).toInt ≤ 99) ∧ (c.1 61 0 = m.1 1 29 ∧ 0 ≤ (m.1 1 29).toInt ∧ (m.1 1 29).toInt ≤ 10) ∧ (c.1 61 1 = m.1 1 30 ∧ 0 ≤ (m.1 1 30).toInt ∧ (m.1 1 30).toInt ≤ 3 * (m.1 1 29).toInt) ∧ c.1 61 2 = m.1 1 31 ∧ -30 * (m.1 1 29).toInt ≤ (m.1 1 31).toInt ∧ (m.1 1 31).toInt ≤ 30 * (m.1 1 29).toInt) ∧ ∀ b : Nat, b < 54 → m.1 9 b = m0.1 1 b
theorem RI.go {c0 m0 c m : St} (g : NR 12 0 c0 m0) (h : RI c0 m0 c m) (a : Int32) : ((F_X0_step 12 61 a c).1.toInt = 0 ∧ (F_X8_go 0 a m).1.toInt < 0 ∧ (∀ s t : Nat, s ≠ 61 → (F_X0_step 12 61 a c).2.1 s t = c.1 s t) ∧ ∀ s t : Nat, (s ≠ 2 ∧ (s ≠ 0 ∨ t ≠ 19)) → (F_X8_go 0 a m).2.1 s t = m.1 s t) ∨ (¬ (F_X0_step 12 61 a c).1.toInt = 0 ∧ ¬ (F_X8_go 0 a m).1.toInt < 0 ∧ RI c0 m0 (F_X0_step 12 61 a c).2 (F_X8_go 0 a m).2) := by
  have z0 : (0 : Int32).toInt = 0 := rfl
  have z1 : (1 : Int32).toInt = 1 := rfl
  have zm : (-1 : Int32).toInt = -1 := rfl
  have zn : (-2 : Int32).toInt = -2 := rfl
  obtain ⟨hc, hm, ⟨q1, q2, q3, q4⟩, hh⟩ := h
  have e3 := hm 0 3 (by omega)
  have e4 := hm 0 4 (by omega)
  have hs := hasAm 12 a c
  rw [hc 12 3 (by omega), g.1.1.1] at hs
  have hmA := isAmM (a := a) (m := m) (by rw [e3]; exact g.1.1.2)
  rw [e3] at hmA
  by_cases p : a.toInt = 5 ∨ a.toInt = 6 ∨ (0 ≤ a.toInt ∧ a.toInt < (m0.1 0 3).toInt)
  · have hst := stM1 m
    have ego : F_X8_go 0 a m = if (F_X8_steps 0 a (F_X8_starts 0 m)).1.toInt = 0 then (-2, (F_X8_steps 0 a (F_X8_starts 0 m)).2) else ((F_X8_settles 0 (F_X8_steps 0 a (F_X8_starts 0 m)).2).1 1 30, F_X8_settles 0 (F_X8_steps 0 a (F_X8_starts 0 m)).2) := by
      simp only [F_X8_go, xl_d, xm_d, Nat.reduceAdd, cn30]
      rw [if_neg (fun z => hmA.mp z p)]
    rw [ego]
    generalize F_X8_starts 0 m = ms at hst
    have hA : AtR 12 61 c ms := by
      obtain ⟨⟨a1, a2⟩, ⟨f1, f2, f3, f4, f5, f6, f7, f8, f9⟩, ⟨s1, s2⟩, w, -, -⟩ := g
      simp only [Nat.zero_add] at f1 f2 f3 f4 f5 f6 f7 f8 f9 s2 w
      have m3 : ms.1 0 3 = m0.1 0 3 := by rw [hst.2 0 3 (by omega)]; exact e3
      have m4 : ms.1 0 4 = m0.1 0 4 := by rw [hst.2 0 4 (by omega)]; exact e4
      have mb : ∀ b : Nat, b < 54 → b ≠ 27 → b ≠ 29 → b ≠ 30 → b ≠ 31 → ms.1 2 b = m0.1 1 b := fun b h1 h2 h3 h4 h5 => by rw [hst.1 b h1, hm 1 b (by omega)]
      refine ⟨⟨by rw [hc 12 3 (by omega), m3]; exact a1, by rw [hc 12 6 (by omega), m4]; exact a2⟩, ⟨by rw [hc 12 7 (by omega), m4, mb 23 (by omega) (by omega) (by omega) (by omega) (by omega)]; exact f1, by rw [hc 12 10 (by omega), mb 26 (by omega) (by omega) (by omega) (by omega) (by omega)]; exact f4, by rw [hc 12 11 (by omega), mb 28 (by omega) (by omega) (by omega) (by omega) (by omega)]; exact f6⟩, fun i hi => ?_, fun i hi => ?_, ⟨by rw [hst.1 27 (by omega)]; exact q1, by rw [hst.1 29 (by omega)]; exact q2, by rw [hst.1 30 (by omega), hst.1 29 (by omega)]; exact q3, by rw [hst.1 31 (by omega), hst.1 29 (by omega)]; exact q4⟩⟩
      · rw [m3] at hi
        rw [hc (12 + 1) i (by omega), hc (12 + 2) i (by omega), hc (12 + 3) i (by omega), hc 12 4 (by omega), mb (4 * i) (by omega) (by omega) (by omega) (by omega) (by omega), mb (4 * i + 1) (by omega) (by omega) (by omega) (by omega) (by omega), mb (4 * i + 2) (by omega) (by omega) (by omega) (by omega) (by omega), mb (4 * i + 3) (by omega) (by omega) (by omega) (by omega) (by omega)]
        exact s2 i hi
      · rw [m4] at hi
        rw [hc (12 + 4) i (by omega), mb (20 + i) (by omega) (by omega) (by omega) (by omega) (by omega)]
        exact w i hi
    have hS := hA.step (by omega) (a := a) (by rw [hst.2 0 3 (by omega), e3]; exact p)
    generalize F_X0_step 12 61 a c = S at hS ⊢
    generalize F_X8_steps 0 a ms = T at hS ⊢
    obtain ⟨e1, hA2, fC, fM, hb⟩ := hS
    rcases hb with ⟨-, t1, -⟩ | ⟨-, t1, t2, s2⟩
    · have hse := seM1 T.2
      rw [e1, t1, if_neg (by decide)]
      generalize F_X8_settles 0 T.2 = X at hse ⊢
      obtain ⟨-, -, -, -, ⟨b1, b2, b3, b4⟩⟩ := hA2
      refine Or.inr ⟨by decide, ?_, fun s t z => by rw [fC s t (by omega)]; exact hc s t z, fun s t z => ?_, ⟨?_, ?_, ?_, ?_⟩, fun b hb => ?_⟩
      · show ¬ (X.1 1 30).toInt < 0
        rw [hse.1 30 (by omega)]; omega
      · show X.1 s t = m0.1 s t
        by_cases es : s = 1 ∧ t < 54
        · obtain ⟨rfl, ht⟩ := es
          rw [hse.1 t ht, fM 2 t (by omega), hst.1 t ht]
          exact hm 1 t z
        · rw [hse.2 s t (by omega), fM s t (by omega), hst.2 s t (by omega)]
          exact hm s t z
      · show S.2.1 61 3 = X.1 1 27 ∧ 0 ≤ (X.1 1 27).toInt ∧ (X.1 1 27).toInt ≤ 99
        rw [hse.1 27 (by omega)]; exact b1
      · show S.2.1 61 0 = X.1 1 29 ∧ 0 ≤ (X.1 1 29).toInt ∧ (X.1 1 29).toInt ≤ 10
        rw [hse.1 29 (by omega)]; exact b2
      · show S.2.1 61 1 = X.1 1 30 ∧ 0 ≤ (X.1 1 30).toInt ∧ (X.1 1 30).toInt ≤ 3 * (X.1 1 29).toInt
        rw [hse.1 30 (by omega), hse.1 29 (by omega)]; exact b3
      · show S.2.1 61 2 = X.1 1 31 ∧ -30 * (X.1 1 29).toInt ≤ (X.1 1 31).toInt ∧ (X.1 1 31).toInt ≤ 30 * (X.1 1 29).toInt
        rw [hse.1 31 (by omega), hse.1 29 (by omega)]; exact b4
      · show X.1 9 b = m0.1 1 b
        rw [hse.2 9 b (by omega), fM 9 b (by omega), hst.2 9 b (by omega)]
        exact hh b hb
    · rw [e1, t1, if_pos z0, s2]
      refine Or.inl ⟨z0, by show (-2 : Int32).toInt < 0; omega, fun _ _ _ => rfl, fun s t z => ?_⟩
      show T.2.1 s t = m.1 s t
      rw [t2]
      exact hst.2 s t (by omega)
  · have ec : F_X0_step 12 61 a c = (0, c) := by
      simp only [F_X0_step, xl_d]
      rw [if_pos (hs.mpr p)]
    have em : F_X8_go 0 a m = (-1, m) := by
      simp only [F_X8_go, xl_d]
      rw [if_pos (hmA.mpr p)]
    rw [ec, em]
    exact Or.inl ⟨z0, by show (-1 : Int32).toInt < 0; omega, fun _ _ _ => rfl, fun _ _ _ => rfl⟩
theorem sim_read {c m : St} {r r2 : Int32} {u w : St} {a0 a1 a2 a3 : Int32} (h : Sim c m) (hC : (r, u) = F_X7_read 0 a0 a1 a2 a3 c) (hM : (r2, w) = F_X8_read 0 a0 a1 a2 a3 m) : r = r2 ∧ Sim u w := by
  have g := h.1
  have z0 : (0 : Int32).toInt = 0 := rfl
  have z1 : (1 : Int32).toInt = 1 := rfl
  have z2 : (2 : Int32).toInt = 2 := rfl
  have z3 : (3 : Int32).toInt = 3 := rfl
  have i10 := inI (x := a3) (b := 0) (c := 10) (lo := 0) (hi := 10) m rfl rfl
  obtain ⟨N, hN⟩ : ∃ N : Nat, N = (2147483647 - (0 : Int32).toInt).toNat := ⟨_, rfl⟩
  obtain ⟨P53, e53, hC⟩ := xl_e (show _ = (r, u) from hC.symm)
  obtain ⟨P62, e62, hM⟩ := xl_e (show _ = (r2, w) from hM.symm)
  obtain ⟨P26, e26, hM⟩ := xl_e hM
  rw [← hN] at hC hM e26 e62
  simp only [xl_d, Nat.reduceAdd] at hC hM
  have no : (-1, c) = (r, u) → (-1, m) = (r2, w) → r = r2 ∧ Sim u w := fun hC hM => by
    exact ⟨by rw [← (Prod.mk.inj hC).1, ← (Prod.mk.inj hM).1], by rw [← (Prod.mk.inj hC).2, ← (Prod.mk.inj hM).2]; exact h⟩
  by_cases p : (0 ≤ a0.toInt ∧ a0.toInt ≤ 3) ∧ (0 ≤ a1.toInt ∧ a1.toInt ≤ 2)
  · rw [if_neg (fun z => isShC.mp z p.1), if_neg (fun z => isLaC.mp z p.2)] at hC
    rw [if_neg (fun z => isShM.mp z p)] at hM
    by_cases q : 0 ≤ a3.toInt ∧ a3.toInt ≤ 10
    · rw [if_neg (by omega), if_neg (by omega)] at hC
      rw [if_neg (fun z => i10.mp z q)] at hM
      have n0 := cnI (x := a0) (by omega)
      have sh := h.2.2.2.1 a0.toNatClampNeg (by omega)
      have e83 : 64 + (19 + 2 * a0.toNatClampNeg) = 83 + 2 * a0.toNatClampNeg := by omega
      -- the end of a reading
      have fin : ∀ (x y : St) (t : Int32), RI c m x y → ∃ x2 : St, F_X7_endRead 0 0 t x = (0, x2) ∧ (∀ s : Int32, F_X7_endRead 0 s t x = (s, x2)) ∧ Sim x2 (up1 y 0 29 t) := by
        intro x y t hI
        have hb := beP 17 61 (by omega) x
        refine ⟨up1 (F_X2_become 17 61 x) 0 10 t, by simp only [F_X7_endRead, xl_d, Nat.reduceAdd], fun s => by simp only [F_X7_endRead, xl_d, Nat.reduceAdd], ?_⟩
        generalize F_X2_become 17 61 x = xb at hb
        obtain ⟨b0, b1, b2, b3, bf⟩ := hb
        obtain ⟨hc, hm, ⟨q1, q2, q3, q4⟩, hh⟩ := hI
        have fc : ∀ s v : Nat, s ≠ 61 → s ≠ 17 → (s ≠ 0 ∨ v ≠ 10) → (up1 xb 0 10 t).1 s v = c.1 s v := fun s v h1 h2 h3 => by rw [up1_n _ _ (by omega), bf s v (by omega), hc s v h1]
        have fm : ∀ s v : Nat, ((s ≠ 1 ∨ (v ≠ 27 ∧ v ≠ 29 ∧ v ≠ 30 ∧ v ≠ 31)) ∧ s ≠ 2 ∧ s ≠ 9 ∧ (s ≠ 0 ∨ (v ≠ 19 ∧ v ≠ 29))) → (up1 y 0 29 t).1 s v = m.1 s v := fun s v h1 => by rw [up1_n _ _ (by omega), hm s v (by omega)]
        have p17 : ∀ v : Nat, v < 4 → (up1 xb 0 10 t).1 17 v = xb.1 17 v := fun v _ => up1_n _ _ (by omega)
        have y1 : ∀ v : Nat, (up1 y 0 29 t).1 1 v = y.1 1 v := fun v => up1_n _ _ (by omega)
        refine ⟨?_, ?_, ?_, ?_, ?_⟩
        · obtain ⟨⟨a1, a2⟩, ⟨f1, f2, f3, f4, f5, f6, f7, f8, f9⟩, s, wk, pl, qq⟩ := g
          have x5 := a1.2.2
          refine ⟨⟨by rw [fc 12 3 (by omega) (by omega) (by omega), fm 0 3 (by omega)]; exact a1, by rw [fc 12 6 (by omega) (by omega) (by omega), fm 0 4 (by omega)]; exact a2⟩, ⟨?_, ?_, ?_, ?_, ?_, ?_, ?_, ?_, ?_⟩, ?_, ?_, ?_, ?_⟩
          · rw [fc 12 7 (by omega) (by omega) (by omega), fm 0 4 (by omega), fm 1 (0 + 23) (by omega)]; exact f1
          · rw [fc 12 8 (by omega) (by omega) (by omega), fm 1 (0 + 24) (by omega)]; exact f2
          · rw [fc 12 9 (by omega) (by omega) (by omega), fm 1 (0 + 25) (by omega)]; exact f3
          · rw [fc 12 10 (by omega) (by omega) (by omega), fm 1 (0 + 26) (by omega)]; exact f4
          · simp only [Nat.zero_add, Nat.reduceAdd]
            rw [p17 3 (by omega), b3, y1]; exact q1
          · rw [fc 12 11 (by omega) (by omega) (by omega), fm 1 (0 + 28) (by omega)]; exact f6
          · simp only [Nat.zero_add, Nat.reduceAdd]
            rw [p17 0 (by omega), b0, y1]; exact q2
          · simp only [Nat.zero_add, Nat.reduceAdd]
            rw [p17 1 (by omega), b1, y1, y1]; exact q3
          · simp only [Nat.zero_add, Nat.reduceAdd]
            rw [p17 2 (by omega), b2, y1, y1]; exact q4
          · exact s.fr (fc _ _ (by omega) (by omega) (by omega)) (fun j => ⟨fc _ _ (by omega) (by omega) (by omega), fc _ _ (by omega) (by omega) (by omega), fc _ _ (by omega) (by omega) (by omega)⟩) (fm _ _ (by omega)) x5 (fun b _ _ => fm _ _ (by omega))
          · exact wk.fr (fun j => fc _ _ (by omega) (by omega) (by omega)) (fm _ _ (by omega)) a2.2.2 (fun b _ _ => fm _ _ (by omega))
          · exact pl.fr (fc _ _ (by omega) (by omega) (by omega)) (fun j => fc _ _ (by omega) (by omega) (by omega)) (fm _ _ (by omega)) (fun b _ _ => fm _ _ (by omega))
          · exact qq.fr (fc _ _ (by omega) (by omega) (by omega)) (fun j => ⟨fc _ _ (by omega) (by omega) (by omega), fc _ _ (by omega) (by omega) (by omega)⟩) (fun b _ _ => fm _ _ (by omega))
        · exact h.2.1.fr (fm _ _ (by omega)) (fm _ _ (by omega)) (fun b _ => fm _ _ (by omega)) (fun b => fm _ _ (by omega)) (fun a b _ _ => fc _ _ (by omega) (by omega) (by omega))
        · exact h.2.2.1.fr (fc _ _ (by omega) (by omega) (by omega)) (fun b => fc _ _ (by omega) (by omega) (by omega)) (fm _ _ (by omega)) (fun b => fm _ _ (by omega))
        · exact h.2.2.2.1.fr (fun a b _ _ => fc _ _ (by omega) (by omega) (by omega)) (fun a b _ => fm _ _ (by omega))
        · rw [up1_s, up1_s]
      -- the steps
      have Lp : ∀ (n : Nat) (y : Int32) (x z : St) (a b : Nat), (a3.toInt - y.toInt).toNat < n → RI c m x z → 0 ≤ y.toInt → y.toInt ≤ a3.toInt → (2147483647 - y.toInt).toNat < a → (2147483647 - y.toInt).toNat < b → (lp P53 (fun _ _ => ((0 : Int32), c)) a y x).1 = (lp P62 (fun _ _ _ _ => ((0 : Int32), m)) b 0 y y z).1 ∧ Sim (lp P53 (fun _ _ => ((0 : Int32), c)) a y x).2 (lp P62 (fun _ _ _ _ => ((0 : Int32), m)) b 0 y y z).2 := by
        intro n
        induction n with
        | zero => intro y x z a b hn; exact absurd hn (Nat.not_lt_zero _)
        | succ n ih =>
          intro y x z a b hn hI y0 y1 ha hb
          obtain ⟨a, rfl⟩ : ∃ k, a = k + 1 := ⟨a - 1, by omega⟩
          obtain ⟨b, rfl⟩ : ∃ k, b = k + 2 := ⟨b - 2, by omega⟩
          have fx := hI.1
          have fz := hI.2.1
          have ey : (y + 1).toInt = y.toInt + 1 := adI rfl rfl (by omega) (by omega)
          -- a reason ends it
          have stop : ∀ (t s i : Int32), ¬ t.toInt = 0 → lp P62 (fun _ _ _ _ => ((0 : Int32), m)) (b + 1) t s i z = (s, up1 z 0 29 t) := fun t s i ht => by
            rw [lp_s]
            generalize lp P62 (fun _ _ _ _ => ((0 : Int32), m)) b = sf
            rw [e62]
            simp only [xl_d]
            by_cases e : i.toInt < a3.toInt
            · rw [if_pos e, if_neg ht]
            · rw [if_neg e]
          by_cases d : y.toInt < a3.toInt
          · rw [lp_s (n := a), lp_s (n := b + 1)]
            generalize hsc : lp P53 (fun _ _ => ((0 : Int32), c)) a = sc
            have EC : P53 sc y x = if (F_X4_tearAt (83 + 2 * a0.toNatClampNeg) a1 (a2 + y) x).toInt = 0 then (if (F_X0_step 12 61 (x.1 (83 + 2 * a0.toNatClampNeg + 1) (a2 + y).toNatClampNeg) x).1.toInt = 0 then ((-20 : Int32) - y, (F_X0_step 12 61 (x.1 (83 + 2 * a0.toNatClampNeg + 1) (a2 + y).toNatClampNeg) x).2) else sc (y + 1) (F_X0_step 12 61 (x.1 (83 + 2 * a0.toNatClampNeg + 1) (a2 + y).toNatClampNeg) x).2) else F_X7_endRead 0 y (F_X4_tearAt (83 + 2 * a0.toNatClampNeg) a1 (a2 + y) x) x := by
              rw [e53]
              simp only [xl_d, xm_d, Nat.reduceAdd]
              rw [if_pos d, e83]
            rw [EC]
            have lane : x.1 (83 + 2 * a0.toNatClampNeg) 0 = c.1 (83 + 2 * a0.toNatClampNeg) 0 := fx _ _ (by omega)
            have size : x.1 (83 + 2 * a0.toNatClampNeg) 1 = c.1 (83 + 2 * a0.toNatClampNeg) 1 := fx _ _ (by omega)
            have lanem : z.1 6 a0.toNatClampNeg = m.1 6 a0.toNatClampNeg := fz _ _ (by omega)
            have sizem : z.1 7 a0.toNatClampNeg = m.1 7 a0.toNatClampNeg := fz _ _ (by omega)
            have ET : F_X4_tearAt (83 + 2 * a0.toNatClampNeg) a1 (a2 + y) x = if (c.1 (83 + 2 * a0.toNatClampNeg) 0).toInt = -1 then 1 else (if (c.1 (83 + 2 * a0.toNatClampNeg) 0).toInt = a1.toInt then (if (a2 + y).toInt < 0 then 2 else (if (a2 + y).toInt < (c.1 (83 + 2 * a0.toNatClampNeg) 1).toInt then 0 else 2)) else 3) := by
              simp only [F_X4_tearAt, xl_d]
              rw [lane, size]
            -- the reference's turn
            generalize hsm : lp P62 (fun _ _ _ _ => ((0 : Int32), m)) (b + 1) = sm
            rw [hsm] at stop
            generalize hres : P62 sm 0 y y z = res
            rw [e62] at hres
            obtain ⟨J203, e203, hres⟩ := xl_e hres
            obtain ⟨P167, e167, hres⟩ := xl_e hres
            obtain ⟨J136, e136, hres⟩ := xl_e hres
            obtain ⟨J131, e131, hres⟩ := xl_e hres
            simp only [xl_d, Nat.reduceAdd] at hres
            rw [if_pos d, if_pos z0, lanem, sizem] at hres
            have E203 : ∀ (p q : Int32) (v : St), J203 p q v = sm p q (y + 1) v := fun p q v => by rw [e203]; simp only [xl_d]
            have E136 : ∀ t : Int32, ¬ t.toInt = 0 → J136 t = (y, up1 z 0 29 t) := fun t ht => by
              rw [e136]
              simp only [xl_d]
              rw [if_neg ht, E203]
              exact stop t y (y + 1) ht
            have torn : ∀ t : Int32, ¬ t.toInt = 0 → F_X4_tearAt (83 + 2 * a0.toNatClampNeg) a1 (a2 + y) x = t → res = J136 t → (if (F_X4_tearAt (83 + 2 * a0.toNatClampNeg) a1 (a2 + y) x).toInt = 0 then (if (F_X0_step 12 61 (x.1 (83 + 2 * a0.toNatClampNeg + 1) (a2 + y).toNatClampNeg) x).1.toInt = 0 then ((-20 : Int32) - y, (F_X0_step 12 61 (x.1 (83 + 2 * a0.toNatClampNeg + 1) (a2 + y).toNatClampNeg) x).2) else sc (y + 1) (F_X0_step 12 61 (x.1 (83 + 2 * a0.toNatClampNeg + 1) (a2 + y).toNatClampNeg) x).2) else F_X7_endRead 0 y (F_X4_tearAt (83 + 2 * a0.toNatClampNeg) a1 (a2 + y) x) x).1 = res.1 ∧ Sim (if (F_X4_tearAt (83 + 2 * a0.toNatClampNeg) a1 (a2 + y) x).toInt = 0 then (if (F_X0_step 12 61 (x.1 (83 + 2 * a0.toNatClampNeg + 1) (a2 + y).toNatClampNeg) x).1.toInt = 0 then ((-20 : Int32) - y, (F_X0_step 12 61 (x.1 (83 + 2 * a0.toNatClampNeg + 1) (a2 + y).toNatClampNeg) x).2) else sc (y + 1) (F_X0_step 12 61 (x.1 (83 + 2 * a0.toNatClampNeg + 1) (a2 + y).toNatClampNeg) x).2) else F_X7_endRead 0 y (F_X4_tearAt (83 + 2 * a0.toNatClampNeg) a1 (a2 + y) x) x).2 res.2 := fun t ht et er => by
              obtain ⟨x2, -, f2, f3⟩ := fin x z t hI
              rw [et, if_neg ht, f2, er, E136 t ht]
              exact ⟨rfl, f3⟩
            rcases sh.1 with hx | hx
            · rw [if_pos hx.2] at hres
              exact torn 1 (by decide) (by rw [ET, if_pos hx.1]) hres.symm
            · rw [if_neg (by omega)] at hres
              rw [hx.1] at ET
              rw [if_neg (show ¬ (m.1 6 a0.toNatClampNeg).toInt = -1 by omega)] at ET
              by_cases ea : (m.1 6 a0.toNatClampNeg).toInt = a1.toInt
              · rw [if_pos ea] at hres ET
                have sz := sh.2.1
                rw [sz.1] at ET
                have l1 := lcB (a2.toInt64 + y.toInt64) 0
                have l2 := lcB (a2.toInt64 + y.toInt64) (m.1 7 a0.toNatClampNeg).toInt64
                have ra := i32_rng a2
                have q64 : (a2.toInt64 + y.toInt64).toInt = a2.toInt + y.toInt := adL (i64_of a2) (i64_of y) (by omega) (by omega)
                have z64 : (0 : Int64).toInt = 0 := rfl
                rw [q64, z64] at l1
                rw [q64, i64_of] at l2
                have hX : (0 ≤ (a2 + y).toInt ∧ (a2 + y).toInt < 40) → (a2 + y).toInt = a2.toInt + y.toInt := fun hh => by
                  have e := Int32.add_sub_cancel a2 y
                  have t := sbI (x := a2 + y) (y := y) rfl rfl (by omega) (by omega)
                  rw [e] at t
                  omega
                have hQ : (0 ≤ a2.toInt + y.toInt ∧ a2.toInt + y.toInt < 40) → (a2 + y).toInt = a2.toInt + y.toInt := fun hh => adI rfl rfl (by omega) (by omega)
                rw [e131] at hres
                by_cases hin : 0 ≤ a2.toInt + y.toInt ∧ a2.toInt + y.toInt < (m.1 7 a0.toNatClampNeg).toInt
                · have hq2 := hQ (by omega)
                  rw [if_neg (by omega), if_pos (by omega)] at hres
                  rw [if_neg (by omega), if_pos (by omega)] at ET
                  rw [ET, if_pos z0]
                  have nq := cnI (x := a2 + y) (by omega)
                  have m40 : ((40 : Int32) * a0).toInt = 40 * a0.toInt := mlI rfl rfl (by omega) (by omega)
                  have m41 : ((40 : Int32) * a0 + a2).toInt = 40 * a0.toInt + a2.toInt := adI m40 rfl (by omega) (by omega)
                  have m42 : ((40 : Int32) * a0 + a2 + y).toInt = 40 * a0.toInt + a2.toInt + y.toInt := adI m41 rfl (by omega) (by omega)
                  have n42 := cnI (x := (40 : Int32) * a0 + a2 + y) (by omega)
                  have ecell : x.1 (83 + 2 * a0.toNatClampNeg + 1) (a2 + y).toNatClampNeg = z.1 8 ((40 : Int32) * a0 + a2 + y).toNatClampNeg := by
                    rw [fx _ _ (by omega), fz 8 _ (by omega), show ((40 : Int32) * a0 + a2 + y).toNatClampNeg = 40 * a0.toNatClampNeg + (a2 + y).toNatClampNeg by omega, ← sh.2.2 (a2 + y).toNatClampNeg (by omega), show 83 + 2 * a0.toNatClampNeg + 1 = 84 + 2 * a0.toNatClampNeg by omega]
                  rw [e136] at hres
                  simp only [xl_d, xm_d, Nat.reduceAdd] at hres
                  rw [if_pos z0, ← ecell] at hres
                  rw [E203] at hres
                  have hg := RI.go g hI (x.1 (83 + 2 * a0.toNatClampNeg + 1) (a2 + y).toNatClampNeg)
                  generalize F_X0_step 12 61 (x.1 (83 + 2 * a0.toNatClampNeg + 1) (a2 + y).toNatClampNeg) x = S at hg ⊢
                  generalize F_X8_go 0 (x.1 (83 + 2 * a0.toNatClampNeg + 1) (a2 + y).toNatClampNeg) z = T at hg hres
                  rcases hg with ⟨g1, g2, g3, g4⟩ | ⟨g1, g2, g3⟩
                  · rw [if_pos g1]
                    rw [if_pos g2] at hres
                    have R : ∀ (n : Nat) (t : Int32) (v : St), (2147483647 - t.toInt).toNat < n → 0 ≤ t.toInt → t.toInt ≤ 54 → (∀ k : Nat, (k : Int) < t.toInt → v.1 1 k = T.2.1 9 k) → (∀ s k : Nat, (s ≠ 1 ∨ 54 ≤ k) → v.1 s k = T.2.1 s k) → (lp P167 (fun _ _ => ((0 : Int32), m)) n t v).1 = (-20 : Int32) - y ∧ (∀ k : Nat, k < 54 → (lp P167 (fun _ _ => ((0 : Int32), m)) n t v).2.1 1 k = T.2.1 9 k) ∧ ∀ s k : Nat, (s ≠ 1 ∨ 54 ≤ k) → (lp P167 (fun _ _ => ((0 : Int32), m)) n t v).2.1 s k = T.2.1 s k := by
                      intro n
                      induction n with
                      | zero => intro t v hn; exact absurd hn (Nat.not_lt_zero _)
                      | succ n ih2 =>
                        intro t v hn t0 t1 hz hf
                        rw [lp_s]
                        by_cases dt : t.toInt < 54
                        · have et : (t + 1).toInt = t.toInt + 1 := adI rfl rfl (by omega) (by omega)
                          have hcn := cnI (x := t) t0
                          have ep : P167 (lp P167 (fun _ _ => ((0 : Int32), m)) n) t v = lp P167 (fun _ _ => ((0 : Int32), m)) n (t + 1) (up1 v 1 t.toNatClampNeg (T.2.1 9 t.toNatClampNeg)) := by
                            generalize lp P167 (fun _ _ => ((0 : Int32), m)) n = sf
                            rw [e167]
                            simp only [xl_d, Nat.reduceAdd]
                            rw [if_pos dt, hf 9 _ (by omega)]
                          rw [ep]
                          refine ih2 (t + 1) _ (by omega) (by omega) (by omega) (fun k hk => ?_) (fun s k w => by rw [up1_n _ _ (by omega)]; exact hf s k w)
                          by_cases e : k = t.toNatClampNeg
                          · rw [e, up1_s]
                          · rw [up1_n _ _ (by omega)]; exact hz k (by omega)
                        · generalize lp P167 (fun _ _ => ((0 : Int32), m)) n = sf
                          have ep : P167 sf t v = ((-20 : Int32) - y, v) := by
                            rw [e167]
                            simp only [xl_d, Nat.reduceAdd]
                            rw [if_neg dt]
                          rw [ep]
                          exact ⟨rfl, fun k hk => hz k (by omega), hf⟩
                    have q := R (N + 1) 0 T.2 (by rw [← hN]; exact Nat.lt_succ_self N) (by omega) (by omega) (fun k hk => by omega) (fun _ _ _ => rfl)
                    rw [hres] at q
                    obtain ⟨r1, r2, r3⟩ := q
                    rw [r1]
                    refine ⟨rfl, h.fr (fun s k w => by rw [g3 s k (by omega)]; exact fx s k (by omega)) (fun s k w => ?_)⟩
                    by_cases es : s = 1 ∧ k < 54
                    · obtain ⟨rfl, hk⟩ := es
                      rw [r2 k hk, g4 9 k (by omega)]
                      exact hI.2.2.2 k hk
                    · rw [r3 s k (by omega), g4 s k (by omega)]
                      exact fz s k (by omega)
                  · rw [if_neg g1]
                    rw [if_neg g2] at hres
                    rw [← hres, ← hsc, ← hsm]
                    exact ih (y + 1) S.2 T.2 a (b + 1) (by omega) g3 (by omega) (by omega) (by omega) (by omega)
                · have nz2 : (if (a2 + y).toInt < 0 then (2 : Int32) else (if (a2 + y).toInt < (m.1 7 a0.toNatClampNeg).toInt then 0 else 2)) = 2 := by
                    by_cases w1 : (a2 + y).toInt < 0
                    · rw [if_pos w1]
                    · rw [if_neg w1, if_neg (fun w2 => by have := hX (by omega); omega)]
                  rw [nz2] at ET
                  refine torn 2 (by decide) ET ?_
                  rw [← hres]
                  by_cases w1 : (lg_cmp (a2.toInt64 + y.toInt64) 0).toInt < 0
                  · rw [if_pos w1]
                  · rw [if_neg w1, if_neg (by omega)]
              · rw [if_neg ea] at hres ET
                exact torn 3 (by decide) ET hres.symm
          · have e3 : a3 = y := Int32.toInt_inj.mp (by omega)
            obtain ⟨x2, -, f2, f3⟩ := fin x z 0 hI
            have EC : lp P53 (fun _ _ => ((0 : Int32), c)) (a + 1) y x = (a3, x2) := by
              rw [lp_s]
              generalize lp P53 (fun _ _ => ((0 : Int32), c)) a = sf
              rw [e53]
              simp only [xl_d, xm_d, Nat.reduceAdd]
              rw [if_neg d, f2]
            have EM : lp P62 (fun _ _ _ _ => ((0 : Int32), m)) (b + 2) 0 y y z = (y, up1 z 0 29 0) := by
              rw [lp_s]
              generalize lp P62 (fun _ _ _ _ => ((0 : Int32), m)) (b + 1) = sf
              rw [e62]
              simp only [xl_d]
              rw [if_neg d]
            rw [EC, EM, e3]
            exact ⟨rfl, f3⟩
      -- how it begins
      have L26 : ∀ (n : Nat) (t : Int32) (v : St), (2147483647 - t.toInt).toNat < n → 0 ≤ t.toInt → t.toInt ≤ 54 → (∀ k : Nat, (k : Int) < t.toInt → v.1 9 k = m.1 1 k) → (∀ s k : Nat, s ≠ 9 → v.1 s k = m.1 s k) → ∃ v2 : St, lp P26 (fun _ _ => ((0 : Int32), m)) n t v = lp P62 (fun _ _ _ _ => ((0 : Int32), m)) (N + 1) 0 0 0 v2 ∧ (∀ k : Nat, k < 54 → v2.1 9 k = m.1 1 k) ∧ ∀ s k : Nat, s ≠ 9 → v2.1 s k = m.1 s k := by
        intro n
        induction n with
        | zero => intro t v hn; exact absurd hn (Nat.not_lt_zero _)
        | succ n ih2 =>
          intro t v hn t0 t1 hz hf
          rw [lp_s]
          by_cases dt : t.toInt < 54
          · have et : (t + 1).toInt = t.toInt + 1 := adI rfl rfl (by omega) (by omega)
            have hcn := cnI (x := t) t0
            have ep : P26 (lp P26 (fun _ _ => ((0 : Int32), m)) n) t v = lp P26 (fun _ _ => ((0 : Int32), m)) n (t + 1) (up1 v 9 t.toNatClampNeg (m.1 1 t.toNatClampNeg)) := by
              generalize lp P26 (fun _ _ => ((0 : Int32), m)) n = sf
              rw [e26]
              simp only [xl_d, Nat.reduceAdd]
              rw [if_pos dt, hf 1 _ (by omega)]
            rw [ep]
            refine ih2 (t + 1) _ (by omega) (by omega) (by omega) (fun k hk => ?_) (fun s k w => by rw [up1_n _ _ (by omega)]; exact hf s k w)
            by_cases e : k = t.toNatClampNeg
            · rw [e, up1_s]
            · rw [up1_n _ _ (by omega)]; exact hz k (by omega)
          · generalize lp P26 (fun _ _ => ((0 : Int32), m)) n = sf
            refine ⟨v, ?_, fun k hk => hz k (by omega), hf⟩
            rw [e26]
            simp only [xl_d, Nat.reduceAdd]
            rw [if_neg dt]
      obtain ⟨v2, k1, k2, k3⟩ := L26 (N + 1) 0 m (by rw [← hN]; exact Nat.lt_succ_self N) (by omega) (by omega) (fun k hk => by omega) (fun _ _ _ => rfl)
      rw [k1] at hM
      have hb := beP 61 17 (by omega) c
      generalize F_X2_become 61 17 c = u31 at hb hC
      obtain ⟨b0, b1, b2, b3, bf⟩ := hb
      have hI : RI c m u31 v2 := by
        obtain ⟨-, ⟨f1, f2, f3, f4, f5, f6, f7, f8, f9⟩, -⟩ := g
        simp only [Nat.zero_add, Nat.reduceAdd] at f5 f7 f8 f9
        refine ⟨fun a b w => bf a b (by omega), fun a b w => k3 a b (by omega), ⟨?_, ?_, ?_, ?_⟩, k2⟩
        · rw [b3, k3 1 27 (by omega)]; exact f5
        · rw [b0, k3 1 29 (by omega)]; exact f7
        · rw [b1, k3 1 30 (by omega), k3 1 29 (by omega)]; exact f8
        · rw [b2, k3 1 31 (by omega), k3 1 29 (by omega)]; exact f9
      have res := Lp 20 0 u31 v2 (N + 1) (N + 1) (by omega) hI (by omega) (by omega) (by rw [← hN]; exact Nat.lt_succ_self N) (by rw [← hN]; exact Nat.lt_succ_self N)
      rw [hC, hM] at res
      exact res
    · refine no ?_ ?_
      · by_cases q1 : a3.toInt < 0
        · rw [if_pos q1] at hC; exact hC
        · rw [if_neg q1, if_pos (by omega)] at hC; exact hC
      · rw [if_pos (i10.mpr q)] at hM; exact hM
  · refine no ?_ ?_
    · by_cases q1 : 0 ≤ a0.toInt ∧ a0.toInt ≤ 3
      · rw [if_neg (fun z => isShC.mp z q1), if_pos (isLaC.mpr (fun z => p ⟨q1, z⟩))] at hC; exact hC
      · rw [if_pos (isShC.mpr q1)] at hC; exact hC
    · rw [if_pos (isShM.mpr p)] at hM; exact hM
