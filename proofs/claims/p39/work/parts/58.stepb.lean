/-! a step of both -/
theorem AtR.step {k p : Nat} {c m : St} (h : AtR k p c m) (hp : p < k ∨ k + 5 ≤ p) {a : Int32} (ha : a.toInt = 5 ∨ a.toInt = 6 ∨ (0 ≤ a.toInt ∧ a.toInt < (m.1 0 3).toInt)) : (F_X0_step k p a c).1 = (F_X8_steps 0 a m).1 ∧ AtR k p (F_X0_step k p a c).2 (F_X8_steps 0 a m).2 ∧ (∀ s t : Nat, (s ≠ p ∨ 4 ≤ t) → (F_X0_step k p a c).2.1 s t = c.1 s t) ∧ (∀ s t : Nat, ((s ≠ 2 ∨ (t ≠ 27 ∧ t ≠ 29 ∧ t ≠ 30 ∧ t ≠ 31)) ∧ (s ≠ 0 ∨ t ≠ 19)) → (F_X8_steps 0 a m).2.1 s t = m.1 s t) ∧ (((0 < (m.1 2 27).toInt ∧ (m.1 2 29).toInt < 10) ∧ (F_X8_steps 0 a m).1 = 1 ∧ (F_X8_steps 0 a m).2.1 0 19 = (if (F_X0_isBlind k a (c.1 p 0) c).toInt = 0 then m.1 0 19 else m.1 0 19 + 1)) ∨ (¬ (0 < (m.1 2 27).toInt ∧ (m.1 2 29).toInt < 10) ∧ (F_X8_steps 0 a m).1 = 0 ∧ (F_X8_steps 0 a m).2 = m ∧ (F_X0_step k p a c).2 = c)) := by
  have c0 : (0 : Int32).toInt = 0 := rfl
  have c1 : (1 : Int32).toInt = 1 := rfl
  have c2 : (2 : Int32).toInt = 2 := rfl
  have hA := h
  obtain ⟨⟨s1, w1⟩, ⟨f1, f2, f3⟩, hs, hwk, ⟨q1, q2, q3, q4⟩⟩ := h
  have ham := hasAm k a c
  rw [s1.1] at ham
  have hcs := cnS (p := p) (c := c)
  rw [q1.1, q2.1] at hcs
  have hcw := cwM (m := m)
  generalize hst : F_X0_step k p a c = S
  unfold F_X0_step at hst
  obtain ⟨J103, e103, hst⟩ := xl_e hst
  simp only [xl_d] at hst
  rw [if_neg (fun z => ham.mp z ha)] at hst
  generalize hsm : F_X8_steps 0 a m = T
  unfold F_X8_steps at hsm
  rw [cn27, cn29] at hsm
  obtain ⟨J52, e52, hsm⟩ := xl_e hsm
  simp only [xl_d, xm_d, Nat.reduceAdd] at hsm
  by_cases g : 0 < (m.1 2 27).toInt ∧ (m.1 2 29).toInt < 10
  · rw [if_neg (fun z => hcs.mp z g)] at hst
    rw [if_neg (fun z => hcw.mp z g)] at hsm
    have E103 : ∀ x y z : Int32, J103 x y z = (1, F_X2_pass p x (y + z) 1 c) := fun x y z => by rw [e103]; simp only [xl_d]
    have E52 : ∀ (z : Int32) (x : St), J52 27 z x = (1, up1 (up1 x 2 27 z) 2 29 ((up1 x 2 27 z).1 2 29 + 1)) := fun z x => by rw [e52]; simp only [xl_d, Nat.reduceAdd, cn27]
    -- what is left behind the reference's own step
    have fin : ∀ (x y z : Int32) (b : Int) (u : St), (z.toInt = 1 ∨ z.toInt = 2) → (0 ≤ x.toInt ∧ x.toInt ≤ 3) → (-30 ≤ y.toInt ∧ y.toInt ≤ 30) → F_X8_stepsOn 0 a (m.1 2 29) m = (z, u) → u.1 2 30 = m.1 2 30 + x → u.1 2 31 = m.1 2 31 + y → u.1 0 19 = (if b = 0 then m.1 0 19 else m.1 0 19 + 1) → (∀ s t : Nat, ((s ≠ 2 ∨ (t ≠ 30 ∧ t ≠ 31)) ∧ (s ≠ 0 ∨ t ≠ 19)) → u.1 s t = m.1 s t) → S = (1, F_X2_pass p x y z c) → (b = 0 ↔ (F_X0_isBlind k a (c.1 p 0) c).toInt = 0) → S.1 = T.1 ∧ AtR k p S.2 T.2 ∧ (∀ s t : Nat, (s ≠ p ∨ 4 ≤ t) → S.2.1 s t = c.1 s t) ∧ (∀ s t : Nat, ((s ≠ 2 ∨ (t ≠ 27 ∧ t ≠ 29 ∧ t ≠ 30 ∧ t ≠ 31)) ∧ (s ≠ 0 ∨ t ≠ 19)) → T.2.1 s t = m.1 s t) ∧ (((0 < (m.1 2 27).toInt ∧ (m.1 2 29).toInt < 10) ∧ T.1 = 1 ∧ T.2.1 0 19 = (if (F_X0_isBlind k a (c.1 p 0) c).toInt = 0 then m.1 0 19 else m.1 0 19 + 1)) ∨ (¬ (0 < (m.1 2 27).toInt ∧ (m.1 2 29).toInt < 10) ∧ T.1 = 0 ∧ T.2 = m ∧ S.2 = c)) := by
      intro x y z b u hz hxx hyy hso h30 h31 h19 huf hS hb
      rw [hso] at hsm
      simp only at hsm
      rw [huf 2 27 (by omega), E52, E52] at hsm
      have hT : T = (1, up1 (up1 u 2 27 (if z.toInt < (m.1 2 27).toInt then m.1 2 27 - z else 0)) 2 29 (m.1 2 29 + 1)) := by
        rw [← hsm]
        by_cases e : z.toInt < (m.1 2 27).toInt
        · rw [if_pos e, if_pos e, up1_n _ _ (by omega), huf 2 29 (by omega)]
        · rw [if_neg e, if_neg e, up1_n _ _ (by omega), huf 2 29 (by omega)]
      have hSO : SO m T.2 x y z b := by
        rw [hT]
        refine ⟨?_, ?_, ?_, ?_, ?_, fun s t w => ?_⟩
        · exact up1_s _ _ _ _
        · show (up1 (up1 u 2 27 _) 2 29 _).1 2 30 = _
          rw [up1_n _ _ (by omega), up1_n _ _ (by omega)]; exact h30
        · show (up1 (up1 u 2 27 _) 2 29 _).1 2 31 = _
          rw [up1_n _ _ (by omega), up1_n _ _ (by omega)]; exact h31
        · show (up1 (up1 u 2 27 _) 2 29 _).1 2 27 = _
          rw [up1_n _ _ (by omega), up1_s]
        · show (up1 (up1 u 2 27 _) 2 29 _).1 0 19 = _
          rw [up1_n _ _ (by omega), up1_n _ _ (by omega)]; exact h19
        · show (up1 (up1 u 2 27 _) 2 29 _).1 s t = _
          rw [up1_n _ _ (by omega), up1_n _ _ (by omega)]; exact huf s t (by omega)
      have hst2 := hA.st hp g (by omega) hxx hyy hSO
      have T1 : T.1 = 1 := by rw [hT]
      rw [hS]
      refine ⟨T1.symm, hst2, fun s t w => (psC p x y z c).2.2.2.2 s t w, fun s t w => hSO.2.2.2.2.2 s t w, Or.inl ⟨g, T1, ?_⟩⟩
      rw [hSO.2.2.2.2.1]
      by_cases e : b = 0
      · rw [if_pos e, if_pos (hb.mp e)]
      · rw [if_neg e, if_neg (fun w => e (hb.mpr w))]
    -- the reference's step
    have hpl := hA.pull (a := m.1 2 29) (by omega)
    rw [q2.1, hpl.1] at hst
    obtain ⟨so, hso0⟩ : ∃ z, F_X8_stepsOn 0 a (m.1 2 29) m = z := ⟨_, rfl⟩
    have hso := hso0
    unfold F_X8_stepsOn at hso
    rw [cn26, cn30, cn31] at hso
    obtain ⟨J83, e83, hso⟩ := xl_e hso
    simp only [xl_d, Nat.reduceAdd] at hso
    generalize F_X8_pullNow 0 (m.1 2 29) m = pl at hst hso hpl
    have pl1 : (pl + 1).toInt = pl.toInt + 1 := adI rfl rfl (by omega) (by omega)
    have pl2 : ((2 : Int32) * pl).toInt = 2 * pl.toInt := mlI rfl rfl (by omega) (by omega)
    have pl3 : ((2 : Int32) * pl + 1).toInt = 2 * pl.toInt + 1 := adI pl2 rfl (by omega) (by omega)
    have E83 : ∀ y : Int32, J83 y = if (m.1 2 29).toInt < (m.1 2 26).toInt then (1, up1 (up1 m 2 30 (m.1 2 30 + 3)) 2 31 (m.1 2 31 + (y + 1))) else (2, up1 (up1 (up1 m 2 30 (m.1 2 30 + 2)) 2 31 (m.1 2 31 + (2 * y + 1))) 0 19 (m.1 0 19 + 1)) := fun y => by
      rw [e83]
      simp only [xl_d, Nat.reduceAdd]
      rw [up1_n _ _ (by omega), up1_n _ _ (by omega), up1_n _ _ (by omega), up1_n _ _ (by omega)]
    have bl : (F_X0_isBlind k a (c.1 p 0) c) = (F_X0_isBlind k a (m.1 2 29) c) := by rw [q2.1]
    by_cases e6 : a.toInt = 6
    · rw [if_pos e6] at hst hso
      refine fin 0 0 1 0 m (Or.inl c1) (by decide) (by decide) (hso0.trans hso.symm) (Int32.add_zero _).symm (Int32.add_zero _).symm (by rw [if_pos rfl]) (fun _ _ _ => rfl) hst.symm ?_
      rw [bl]
      simp only [F_X0_isBlind, xl_d]
      rw [if_pos e6]
      exact ⟨fun _ => rfl, fun _ => trivial⟩
    · rw [if_neg e6] at hst hso
      have hbl : F_X0_isBlind k a (m.1 2 29) c = if (F_X0_isStarUp k a (m.1 2 29) c).toInt = 0 then (if (m.1 2 29).toInt < (m.1 2 26).toInt then 0 else 1) else 0 := by
        simp only [F_X0_isBlind, xl_d]
        rw [if_neg e6, f2]
      rw [hbl] at hst bl
      -- by wind, or the star isn't up
      have wind : (F_X0_isStarUp k a (m.1 2 29) c).toInt = 0 → so = J83 pl → S.1 = T.1 ∧ AtR k p S.2 T.2 ∧ (∀ s t : Nat, (s ≠ p ∨ 4 ≤ t) → S.2.1 s t = c.1 s t) ∧ (∀ s t : Nat, ((s ≠ 2 ∨ (t ≠ 27 ∧ t ≠ 29 ∧ t ≠ 30 ∧ t ≠ 31)) ∧ (s ≠ 0 ∨ t ≠ 19)) → T.2.1 s t = m.1 s t) ∧ (((0 < (m.1 2 27).toInt ∧ (m.1 2 29).toInt < 10) ∧ T.1 = 1 ∧ T.2.1 0 19 = (if (F_X0_isBlind k a (c.1 p 0) c).toInt = 0 then m.1 0 19 else m.1 0 19 + 1)) ∨ (¬ (0 < (m.1 2 27).toInt ∧ (m.1 2 29).toInt < 10) ∧ T.1 = 0 ∧ T.2 = m ∧ S.2 = c)) := by
        intro up0 hso2
        rw [E83] at hso2
        rw [if_pos up0] at hst bl
        by_cases ht : (m.1 2 29).toInt < (m.1 2 26).toInt
        · rw [if_pos ht] at hso2 bl
          rw [if_pos ht, if_pos c0, if_pos up0] at hst
          refine fin 3 (pl + 1) 1 0 _ (Or.inl c1) (by decide) (by omega) (hso0.trans hso2) ?_ ?_ ?_ (fun s t w => ?_) hst.symm (by rw [bl]; exact ⟨fun _ => rfl, fun _ => rfl⟩)
          · rw [up1_n _ _ (by omega), up1_s]
          · rw [up1_s]
          · rw [if_pos rfl, up1_n _ _ (by omega), up1_n _ _ (by omega)]
          · rw [up1_n _ _ (by omega), up1_n _ _ (by omega)]
        · rw [if_neg ht] at hso2 bl
          rw [if_neg ht, if_neg (by omega)] at hst
          refine fin 2 (2 * pl + 1) 2 1 _ (Or.inr c2) (by decide) (by omega) (hso0.trans hso2) ?_ ?_ ?_ (fun s t w => ?_) hst.symm (by rw [bl]; omega)
          · rw [up1_n _ _ (by omega), up1_n _ _ (by omega), up1_s]
          · rw [up1_n _ _ (by omega), up1_s]
          · rw [if_neg (by decide), up1_s]
          · rw [up1_n _ _ (by omega), up1_n _ _ (by omega), up1_n _ _ (by omega)]
      by_cases e5 : a.toInt < 5
      · rw [if_pos e5] at hso
        have has : 0 ≤ a.toInt ∧ a.toInt < (m.1 0 3).toInt := by omega
        have hup := hA.up (a := a) (b := m.1 2 29) has
        by_cases u0 : (F_X8_isUp 0 a (m.1 2 29) m).toInt = 0
        · rw [if_pos u0] at hso
          exact wind (hup.mpr u0) hso.symm
        · rw [if_neg u0] at hso
          have uc : ¬ (F_X0_isStarUp k a (m.1 2 29) c).toInt = 0 := fun z => u0 (hup.mp z)
          rw [if_neg uc] at hst bl
          rw [if_pos c0, if_neg uc] at hst
          have n0 := cnI (x := a) has.1
          have m4 : ((4 : Int32) * a).toInt = 4 * a.toInt := mlI rfl rfl (by omega) (by omega)
          have m43 : ((4 : Int32) * a + 3).toInt = 4 * a.toInt + 3 := adI m4 rfl (by omega) (by omega)
          have m42 : ((4 : Int32) * a + 2).toInt = 4 * a.toInt + 2 := adI m4 rfl (by omega) (by omega)
          have n43 := cnI (x := (4 : Int32) * a + 3) (by omega)
          have n42 := cnI (x := (4 : Int32) * a + 2) (by omega)
          have ea : a = Int32.ofNat a.toNatClampNeg := i32_of n0.symm (by omega)
          have q := hs a.toNatClampNeg (by omega)
          rw [← ea] at q
          rw [show ((4 : Int32) * a + 3).toNatClampNeg = 4 * a.toNatClampNeg + 3 by omega, show ((4 : Int32) * a + 2).toNatClampNeg = 4 * a.toNatClampNeg + 2 by omega, up1_n _ _ (by omega), up1_n _ _ (by omega), up1_n _ _ (by omega)] at hso
          have hkn := isKn k a c
          have b01 := bit01 (c.1 k 4 >>> (a &&& 31))
          rw [q.2.2.2] at hkn b01
          rw [E103, E103, q.2.2.1.1] at hst
          by_cases k1 : (m.1 2 (4 * a.toNatClampNeg + 3)).toInt = 1
          · rw [if_pos k1] at hso
            rw [if_neg (fun z => by have := hkn.mp z; omega)] at hst
            refine fin 3 (pl + 0) 1 0 _ (Or.inl c1) (by decide) (by rw [Int32.add_zero]; omega) (hso0.trans hso.symm) ?_ ?_ ?_ (fun s t w => ?_) hst.symm (by rw [bl]; exact ⟨fun _ => rfl, fun _ => rfl⟩)
            · rw [up1_n _ _ (by omega), up1_s]
            · rw [up1_s]
            · rw [if_pos rfl, up1_n _ _ (by omega), up1_n _ _ (by omega)]
            · rw [up1_n _ _ (by omega), up1_n _ _ (by omega)]
          · rw [if_neg k1] at hso
            rw [if_pos (hkn.mpr (by omega))] at hst
            have of3 : (m.1 2 (4 * a.toNatClampNeg + 2) - 3).toInt = (m.1 2 (4 * a.toNatClampNeg + 2)).toInt - 3 := sbI rfl rfl (by omega) (by omega)
            have of4 : (pl + (m.1 2 (4 * a.toNatClampNeg + 2) - 3)).toInt = pl.toInt + ((m.1 2 (4 * a.toNatClampNeg + 2)).toInt - 3) := adI rfl of3 (by omega) (by omega)
            refine fin 3 (pl + (m.1 2 (4 * a.toNatClampNeg + 2) - 3)) 1 0 _ (Or.inl c1) (by decide) (by omega) (hso0.trans hso.symm) ?_ ?_ ?_ (fun s t w => ?_) hst.symm (by rw [bl]; exact ⟨fun _ => rfl, fun _ => rfl⟩)
            · rw [up1_n _ _ (by omega), up1_s]
            · rw [up1_s]
            · rw [if_pos rfl, up1_n _ _ (by omega), up1_n _ _ (by omega)]
            · rw [up1_n _ _ (by omega), up1_n _ _ (by omega)]
      · rw [if_neg e5] at hso
        refine wind ?_ hso.symm
        rw [isUp01 (by rw [s1.1]; omega)]
        exact c0
  · rw [if_pos (hcs.mpr g)] at hst
    rw [if_pos (hcw.mpr g)] at hsm
    subst hst hsm
    exact ⟨rfl, hA, fun _ _ _ => rfl, fun _ _ _ => rfl, Or.inr ⟨g, rfl, rfl, rfl⟩⟩
