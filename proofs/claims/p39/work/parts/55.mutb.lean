/-! set, know -/
/-- one plain number of the night becomes v -/
theorem set1 {c m : St} (h : Sim c m) {ka ja jb : Nat} (v : Int32) (hj : (ka = 12 ∧ ja = 7 ∧ jb = 23 ∧ 0 ≤ v.toInt ∧ (¬ (m.1 0 4).toInt = 0 → v.toInt < (m.1 0 4).toInt)) ∨ (ka = 12 ∧ ja = 8 ∧ jb = 24) ∨ (ka = 12 ∧ ja = 9 ∧ jb = 25) ∨ (ka = 12 ∧ ja = 10 ∧ jb = 26) ∨ (ka = 17 ∧ ja = 3 ∧ jb = 27 ∧ 0 ≤ v.toInt ∧ v.toInt ≤ 99)) : c.1 ka ja = m.1 1 jb ∧ Sim (up1 c ka ja v) (up1 m 1 jb v) := by
  have g := h.1
  have nc := nc_ (c := c) (k := ka) (j := ja) (x := v)
  have nm := nm_ (m := m) (b := jb) (y := v)
  obtain ⟨f1, f2, f3, f4, f5, f6, f7, f8, f9⟩ := g.2.1
  refine ⟨?_, h.now (fun a b z => nc _ _ (by omega)) (fun a b z => nm _ _ (by omega)) ⟨g.1.fr (nc _ _ (by omega)) (nc _ _ (by omega)) (nm _ _ (by omega)) (nm _ _ (by omega)), ?_, g.2.2.1.fr (nc _ _ (by omega)) (fun j => ⟨nc _ _ (by omega), nc _ _ (by omega), nc _ _ (by omega)⟩) (nm _ _ (by omega)) (g.1.1.2.2) (fun b _ _ => nm _ _ (by omega)), g.2.2.2.1.fr (fun j => nc _ _ (by omega)) (nm _ _ (by omega)) (g.1.2.2.2) (fun b _ _ => nm _ _ (by omega)), g.2.2.2.2.1.fr (nc _ _ (by omega)) (fun j => nc _ _ (by omega)) (nm _ _ (by omega)) (fun b _ _ => nm _ _ (by omega)), g.2.2.2.2.2.fr (nc _ _ (by omega)) (fun j => ⟨nc _ _ (by omega), nc _ _ (by omega)⟩) (fun b _ _ => nm _ _ (by omega))⟩⟩
  · rcases hj with ⟨rfl, rfl, rfl, -⟩ | ⟨rfl, rfl, rfl⟩ | ⟨rfl, rfl, rfl⟩ | ⟨rfl, rfl, rfl⟩ | ⟨rfl, rfl, rfl, -⟩
    · exact f1.1
    · exact f2
    · exact f3
    · exact f4
    · exact f5.1
  · have sc : (up1 c ka ja v).1 ka ja = v := up1_s _ _ _ _
    have sm : (up1 m 1 jb v).1 1 jb = v := up1_s _ _ _ _
    have n4 := nm 0 4 (by omega)
    rcases hj with ⟨rfl, rfl, rfl, hv⟩ | ⟨rfl, rfl, rfl⟩ | ⟨rfl, rfl, rfl⟩ | ⟨rfl, rfl, rfl⟩ | ⟨rfl, rfl, rfl, hv⟩
    · refine ⟨?_, ?_, ?_, ?_, ?_, ?_, ?_, ?_, ?_⟩
      · show (up1 c 12 7 v).1 12 7 = (up1 m 1 23 v).1 1 23 ∧ 0 ≤ ((up1 m 1 23 v).1 1 23).toInt ∧ (¬ ((up1 m 1 23 v).1 0 4).toInt = 0 → ((up1 m 1 23 v).1 1 23).toInt < ((up1 m 1 23 v).1 0 4).toInt)
        rw [sc, sm, n4]; exact ⟨rfl, hv⟩
      · rw [nc 12 8 (by omega), nm 1 (0 + 24) (by omega)]; exact f2
      · rw [nc 12 9 (by omega), nm 1 (0 + 25) (by omega)]; exact f3
      · rw [nc 12 10 (by omega), nm 1 (0 + 26) (by omega)]; exact f4
      · rw [nc (12 + 5) 3 (by omega), nm 1 (0 + 27) (by omega)]; exact f5
      · rw [nc 12 11 (by omega), nm 1 (0 + 28) (by omega)]; exact f6
      · rw [nc (12 + 5) 0 (by omega), nm 1 (0 + 29) (by omega)]; exact f7
      · rw [nc (12 + 5) 1 (by omega), nm 1 (0 + 30) (by omega), nm 1 (0 + 29) (by omega)]; exact f8
      · rw [nc (12 + 5) 2 (by omega), nm 1 (0 + 31) (by omega), nm 1 (0 + 29) (by omega)]; exact f9
    · refine ⟨?_, ?_, ?_, ?_, ?_, ?_, ?_, ?_, ?_⟩
      · rw [nc 12 7 (by omega), n4, nm 1 (0 + 23) (by omega)]; exact f1
      · exact sc.trans sm.symm
      · rw [nc 12 9 (by omega), nm 1 (0 + 25) (by omega)]; exact f3
      · rw [nc 12 10 (by omega), nm 1 (0 + 26) (by omega)]; exact f4
      · rw [nc (12 + 5) 3 (by omega), nm 1 (0 + 27) (by omega)]; exact f5
      · rw [nc 12 11 (by omega), nm 1 (0 + 28) (by omega)]; exact f6
      · rw [nc (12 + 5) 0 (by omega), nm 1 (0 + 29) (by omega)]; exact f7
      · rw [nc (12 + 5) 1 (by omega), nm 1 (0 + 30) (by omega), nm 1 (0 + 29) (by omega)]; exact f8
      · rw [nc (12 + 5) 2 (by omega), nm 1 (0 + 31) (by omega), nm 1 (0 + 29) (by omega)]; exact f9
    · refine ⟨?_, ?_, ?_, ?_, ?_, ?_, ?_, ?_, ?_⟩
      · rw [nc 12 7 (by omega), n4, nm 1 (0 + 23) (by omega)]; exact f1
      · rw [nc 12 8 (by omega), nm 1 (0 + 24) (by omega)]; exact f2
      · exact sc.trans sm.symm
      · rw [nc 12 10 (by omega), nm 1 (0 + 26) (by omega)]; exact f4
      · rw [nc (12 + 5) 3 (by omega), nm 1 (0 + 27) (by omega)]; exact f5
      · rw [nc 12 11 (by omega), nm 1 (0 + 28) (by omega)]; exact f6
      · rw [nc (12 + 5) 0 (by omega), nm 1 (0 + 29) (by omega)]; exact f7
      · rw [nc (12 + 5) 1 (by omega), nm 1 (0 + 30) (by omega), nm 1 (0 + 29) (by omega)]; exact f8
      · rw [nc (12 + 5) 2 (by omega), nm 1 (0 + 31) (by omega), nm 1 (0 + 29) (by omega)]; exact f9
    · refine ⟨?_, ?_, ?_, ?_, ?_, ?_, ?_, ?_, ?_⟩
      · rw [nc 12 7 (by omega), n4, nm 1 (0 + 23) (by omega)]; exact f1
      · rw [nc 12 8 (by omega), nm 1 (0 + 24) (by omega)]; exact f2
      · rw [nc 12 9 (by omega), nm 1 (0 + 25) (by omega)]; exact f3
      · exact sc.trans sm.symm
      · rw [nc (12 + 5) 3 (by omega), nm 1 (0 + 27) (by omega)]; exact f5
      · rw [nc 12 11 (by omega), nm 1 (0 + 28) (by omega)]; exact f6
      · rw [nc (12 + 5) 0 (by omega), nm 1 (0 + 29) (by omega)]; exact f7
      · rw [nc (12 + 5) 1 (by omega), nm 1 (0 + 30) (by omega), nm 1 (0 + 29) (by omega)]; exact f8
      · rw [nc (12 + 5) 2 (by omega), nm 1 (0 + 31) (by omega), nm 1 (0 + 29) (by omega)]; exact f9
    · refine ⟨?_, ?_, ?_, ?_, ?_, ?_, ?_, ?_, ?_⟩
      · rw [nc 12 7 (by omega), n4, nm 1 (0 + 23) (by omega)]; exact f1
      · rw [nc 12 8 (by omega), nm 1 (0 + 24) (by omega)]; exact f2
      · rw [nc 12 9 (by omega), nm 1 (0 + 25) (by omega)]; exact f3
      · rw [nc 12 10 (by omega), nm 1 (0 + 26) (by omega)]; exact f4
      · show (up1 c 17 3 v).1 17 3 = (up1 m 1 27 v).1 1 27 ∧ 0 ≤ ((up1 m 1 27 v).1 1 27).toInt ∧ ((up1 m 1 27 v).1 1 27).toInt ≤ 99
        rw [sc, sm]; exact ⟨rfl, hv⟩
      · rw [nc 12 11 (by omega), nm 1 (0 + 28) (by omega)]; exact f6
      · rw [nc (12 + 5) 0 (by omega), nm 1 (0 + 29) (by omega)]; exact f7
      · rw [nc (12 + 5) 1 (by omega), nm 1 (0 + 30) (by omega), nm 1 (0 + 29) (by omega)]; exact f8
      · rw [nc (12 + 5) 2 (by omega), nm 1 (0 + 31) (by omega), nm 1 (0 + 29) (by omega)]; exact f9
theorem sim_set {c m : St} {r r2 : Int32} {u w : St} {a0 a1 : Int32} (h : Sim c m) (hC : (r, u) = F_X7_set 0 a0 a1 c) (hM : (r2, w) = F_X8_set 0 a0 a1 m) : r = r2 ∧ Sim u w := by
  have g := h.1
  have hw := hasWk 12 a1 c
  rw [g.1.2.1] at hw
  have hwm := isWkM (a := a1) g.1.2.2
  have i3 := inI (x := a1) (b := 1) (c := 40) (lo := 1) (hi := 40) m rfl rfl
  have i4 := inI (x := a1) (b := 0) (c := 9) (lo := 0) (hi := 9) m rfl rfl
  have i5 := inI (x := a1) (b := 0) (c := 10) (lo := 0) (hi := 10) m rfl rfl
  have i6 := inI (x := a1) (b := 0) (c := 99) (lo := 0) (hi := 99) m rfl rfl
  have c1 : (1 : Int32).toInt = 1 := rfl
  have c0 : (0 : Int32).toInt = 0 := rfl
  simp only [F_X7_set, xl_d, Nat.reduceAdd] at hC
  simp only [F_X8_set, F_X8_becomes, xl_d, xm_d, Nat.reduceAdd] at hM
  have no : (r, u) = (-1, c) → (r2, w) = (-1, m) → r = r2 ∧ Sim u w := fun hC hM => by
    exact ⟨by rw [(Prod.mk.inj hC).1, (Prod.mk.inj hM).1], by rw [(Prod.mk.inj hC).2, (Prod.mk.inj hM).2]; exact h⟩
  by_cases p : 2 ≤ a0.toInt ∧ a0.toInt ≤ 6
  · rw [if_neg (by omega), if_neg (by omega)] at hC
    have m1 : ((23 : Int32) + a0).toInt = 23 + a0.toInt := adI rfl rfl (by omega) (by omega)
    have m2 : ((23 : Int32) + a0 - 2).toInt = 23 + a0.toInt - 2 := sbI m1 rfl (by omega) (by omega)
    have n2 := cnI (x := (23 : Int32) + a0 - 2) (by omega)
    have key : ∀ (ka ja jb : Nat), (jb : Int) = 21 + a0.toInt → F_X7_rule 0 a0 c = c.1 ka ja → (¬ (F_X7_mayBeSet 0 a0 a1 c).toInt = 0 ↔ ¬ (F_X8_canBe 0 a0 a1 m).toInt = 0) → (¬ (F_X8_canBe 0 a0 a1 m).toInt = 0 → ((ka = 12 ∧ ja = 7 ∧ jb = 23 ∧ 0 ≤ a1.toInt ∧ (¬ (m.1 0 4).toInt = 0 → a1.toInt < (m.1 0 4).toInt)) ∨ (ka = 12 ∧ ja = 8 ∧ jb = 24) ∨ (ka = 12 ∧ ja = 9 ∧ jb = 25) ∨ (ka = 12 ∧ ja = 10 ∧ jb = 26) ∨ (ka = 17 ∧ ja = 3 ∧ jb = 27 ∧ 0 ≤ a1.toInt ∧ a1.toInt ≤ 99))) → (¬ (F_X7_mayBeSet 0 a0 a1 c).toInt = 0 → (r, u) = (F_X7_rule 0 a0 c, up1 c ka ja a1)) → r = r2 ∧ Sim u w := by
      intro ka ja jb hjb hru hmb hj hcc
      by_cases q : (F_X8_canBe 0 a0 a1 m).toInt = 0
      · have q2 : (F_X7_mayBeSet 0 a0 a1 c).toInt = 0 := Decidable.byContradiction (fun z => (hmb.mp z) q)
        rw [if_pos q2] at hC
        rw [if_pos q] at hM
        exact no hC hM
      · rw [if_neg q] at hM
        have hC2 := hcc (hmb.mpr q)
        rw [show ((23 : Int32) + a0 - 2).toNatClampNeg = jb by omega] at hM
        rw [hru] at hC2
        obtain ⟨hr, hu⟩ := Prod.mk.inj hC2
        obtain ⟨hr2, hw⟩ := Prod.mk.inj hM
        have := set1 h a1 (hj q)
        rw [hr, hr2, hu, hw]
        exact this
    have cb : F_X8_canBe 0 a0 a1 m = F_X8_canBe 0 a0 a1 m := rfl
    by_cases e2 : a0.toInt = 2
    · have ec : F_X8_canBe 0 a0 a1 m = F_X8_isWalker 0 a1 m := by simp only [F_X8_canBe, xl_d]; rw [if_pos e2]
      have em : F_X7_mayBeSet 0 a0 a1 c = F_X0_hasWalker 12 a1 c := by simp only [F_X7_mayBeSet, xl_d, Nat.reduceAdd]; rw [if_pos e2]
      refine key 12 7 23 (by omega) ?_ ?_ (fun q => ?_) (fun q => ?_)
      · simp only [F_X7_rule, xl_d, Nat.reduceAdd]; rw [if_neg (by omega), if_neg (by omega), if_pos e2]
      · rw [ec, em, hw, hwm]
      · rw [ec, hwm] at q; omega
      · rw [if_neg q, if_pos e2] at hC; exact hC
    · by_cases e3 : a0.toInt = 3
      · have ec : (F_X8_canBe 0 a0 a1 m).toInt = 0 ↔ ¬ (1 ≤ a1.toInt ∧ a1.toInt ≤ 40) := by simp only [F_X8_canBe, xl_d]; rw [if_neg e2, if_pos e3]; exact i3
        have em : (F_X7_mayBeSet 0 a0 a1 c).toInt = 0 ↔ ¬ (1 ≤ a1.toInt ∧ a1.toInt ≤ 40) := by
          simp only [F_X7_mayBeSet, xl_d, Nat.reduceAdd]; rw [if_neg e2, if_pos e3]
          repeat' split
          all_goals omega
        refine key 12 8 24 (by omega) ?_ (by rw [ec, em]) (fun q => by omega) (fun q => ?_)
        · simp only [F_X7_rule, xl_d, Nat.reduceAdd]; rw [if_neg (by omega), if_neg (by omega), if_neg e2, if_pos e3]
        · rw [if_neg q, if_neg e2, if_pos e3] at hC; exact hC
      · by_cases e4 : a0.toInt = 4
        · have ec : (F_X8_canBe 0 a0 a1 m).toInt = 0 ↔ ¬ (0 ≤ a1.toInt ∧ a1.toInt ≤ 9) := by simp only [F_X8_canBe, xl_d]; rw [if_neg e2, if_neg e3, if_pos e4]; exact i4
          have em : (F_X7_mayBeSet 0 a0 a1 c).toInt = 0 ↔ ¬ (0 ≤ a1.toInt ∧ a1.toInt ≤ 9) := by
            simp only [F_X7_mayBeSet, xl_d, Nat.reduceAdd]; rw [if_neg e2, if_neg e3, if_pos e4]
            repeat' split
            all_goals omega
          refine key 12 9 25 (by omega) ?_ (by rw [ec, em]) (fun q => by omega) (fun q => ?_)
          · simp only [F_X7_rule, xl_d, Nat.reduceAdd]; rw [if_neg (by omega), if_neg (by omega), if_neg e2, if_neg e3, if_pos e4]
          · rw [if_neg q, if_neg e2, if_neg e3, if_pos e4] at hC; exact hC
        · by_cases e5 : a0.toInt = 5
          · have ec : (F_X8_canBe 0 a0 a1 m).toInt = 0 ↔ ¬ (0 ≤ a1.toInt ∧ a1.toInt ≤ 10) := by simp only [F_X8_canBe, xl_d]; rw [if_neg e2, if_neg e3, if_neg e4, if_pos e5]; exact i5
            have em : (F_X7_mayBeSet 0 a0 a1 c).toInt = 0 ↔ ¬ (0 ≤ a1.toInt ∧ a1.toInt ≤ 10) := by
              simp only [F_X7_mayBeSet, xl_d, Nat.reduceAdd]; rw [if_neg e2, if_neg e3, if_neg e4, if_pos e5]
              repeat' split
              all_goals omega
            refine key 12 10 26 (by omega) ?_ (by rw [ec, em]) (fun q => by omega) (fun q => ?_)
            · simp only [F_X7_rule, xl_d, Nat.reduceAdd]; rw [if_neg (by omega), if_neg (by omega), if_neg e2, if_neg e3, if_neg e4, if_pos e5]
            · rw [if_neg q, if_neg e2, if_neg e3, if_neg e4, if_pos e5] at hC; exact hC
          · have e6 : a0.toInt = 6 := by omega
            have ec : (F_X8_canBe 0 a0 a1 m).toInt = 0 ↔ ¬ (0 ≤ a1.toInt ∧ a1.toInt ≤ 99) := by simp only [F_X8_canBe, xl_d]; rw [if_neg e2, if_neg e3, if_neg e4, if_neg e5, if_pos e6]; exact i6
            have em : (F_X7_mayBeSet 0 a0 a1 c).toInt = 0 ↔ ¬ (0 ≤ a1.toInt ∧ a1.toInt ≤ 99) := by
              simp only [F_X7_mayBeSet, xl_d, Nat.reduceAdd]; rw [if_neg e2, if_neg e3, if_neg e4, if_neg e5]
              repeat' split
              all_goals omega
            refine key 17 3 27 (by omega) ?_ (by rw [ec, em]) (fun q => ?_) (fun q => ?_)
            · simp only [F_X7_rule, xl_d, Nat.reduceAdd]; rw [if_neg (by omega), if_neg (by omega), if_neg e2, if_neg e3, if_neg e4, if_neg e5, if_pos e6]
            · rw [ec] at q; omega
            · rw [if_neg q, if_neg e2, if_neg e3, if_neg e4, if_neg e5] at hC; exact hC
  · have hc : (r, u) = (-1, c) := by
      by_cases q1 : a0.toInt < 2
      · rw [if_pos q1] at hC; exact hC
      · rw [if_neg q1, if_pos (by omega)] at hC; exact hC
    have hm : (F_X8_canBe 0 a0 a1 m).toInt = 0 := by
      simp only [F_X8_canBe, xl_d]
      rw [if_neg (by omega), if_neg (by omega), if_neg (by omega), if_neg (by omega), if_neg (by omega)]
      rfl
    rw [if_pos hm] at hM
    exact no hc hM
def wb (x s b : Int32) : Int32 := if b.toInt = 0 then x &&& (((1 : Int32) <<< (s &&& 31)) ^^^ (-1)) else x ||| ((1 : Int32) <<< (s &&& 31))
theorem wbC (x s b : Int32) (v : St) : F_X7_withBit x s b v = wb x s b := by
  simp only [F_X7_withBit, xl_d, wb]
theorem wb_a : ∀ k : Nat, k < 32 → ∀ s : Nat, s < 5 → ∀ b : Nat, b < 2 → 0 ≤ (wb (Int32.ofNat k) (Int32.ofNat s) (Int32.ofNat b)).toInt ∧ (wb (Int32.ofNat k) (Int32.ofNat s) (Int32.ofNat b)).toInt ≤ 31 := by decide +kernel
theorem wb_b : ∀ t : Nat, t < 6 → ∀ s : Nat, s < t → ∀ k : Nat, k < 2 ^ t → ∀ b : Nat, b < 2 → (wb (Int32.ofNat k) (Int32.ofNat s) (Int32.ofNat b)).toInt < ((2 ^ t : Nat) : Int) := by decide +kernel
theorem wb_c : ∀ k : Nat, k < 32 → ∀ s : Nat, s < 5 → ∀ b : Nat, b < 2 → ∀ i : Nat, i < 5 → ((wb (Int32.ofNat k) (Int32.ofNat s) (Int32.ofNat b)) >>> (Int32.ofNat i &&& 31)) &&& 1 = if i = s then Int32.ofNat b else (Int32.ofNat k >>> (Int32.ofNat i &&& 31)) &&& 1 := by decide +kernel
theorem wb_t (k : Nat) (hk : k < 32) (s : Nat) (hs : s < 5) (b : Nat) (hb : b < 2) : (0 ≤ (wb (Int32.ofNat k) (Int32.ofNat s) (Int32.ofNat b)).toInt ∧ (wb (Int32.ofNat k) (Int32.ofNat s) (Int32.ofNat b)).toInt ≤ 31) ∧ (∀ t : Nat, t < 6 → s < t → k < 2 ^ t → (wb (Int32.ofNat k) (Int32.ofNat s) (Int32.ofNat b)).toInt < ((2 ^ t : Nat) : Int)) ∧ ∀ i : Nat, i < 5 → ((wb (Int32.ofNat k) (Int32.ofNat s) (Int32.ofNat b)) >>> (Int32.ofNat i &&& 31)) &&& 1 = if i = s then Int32.ofNat b else (Int32.ofNat k >>> (Int32.ofNat i &&& 31)) &&& 1 := ⟨wb_a k hk s hs b hb, fun t ht h1 h2 => wb_b t ht s h1 k h2 b hb, fun i hi => wb_c k hk s hs b hb i hi⟩
theorem sim_know {c m : St} {r r2 : Int32} {u w : St} {a0 a1 : Int32} (h : Sim c m) (hC : (r, u) = F_X7_know 0 a0 a1 c) (hM : (r2, w) = F_X8_know 0 a0 a1 m) : r = r2 ∧ Sim u w := by
  have g := h.1
  have hs := hasSt 12 a0 c
  rw [g.1.1.1] at hs
  have hm := isStM (a := a0) g.1.1.2
  simp only [F_X7_know, onKn, wbC, xl_d, Nat.reduceAdd] at hC
  simp only [F_X8_know, F_X8_becomes, F_X8_flag, xl_d, xm_d, Nat.reduceAdd] at hM
  by_cases p : 0 ≤ a0.toInt ∧ a0.toInt < (m.1 0 3).toInt
  · rw [if_neg (fun z => hs.mp z p)] at hC
    rw [if_neg (fun z => hm.mp z p)] at hM
    have h5 := g.1.1.2
    have m4 : ((4 : Int32) * a0).toInt = 4 * a0.toInt := mlI rfl rfl (by omega) (by omega)
    have a3 : ((4 : Int32) * a0 + 3).toInt = 4 * a0.toInt + 3 := adI m4 rfl (by omega) (by omega)
    have n3 := cnI (x := (4 : Int32) * a0 + 3) (by omega)
    have n0 := cnI (x := a0) (by omega)
    obtain ⟨hr, hu⟩ := Prod.mk.inj hC
    obtain ⟨hr2, hw⟩ := Prod.mk.inj hM
    have ei : ((4 : Int32) * a0 + 3).toNatClampNeg = 0 + 4 * a0.toNatClampNeg + 3 := by omega
    rw [ei] at hr2 hw
    have ea : a0 = Int32.ofNat a0.toNatClampNeg := i32_of n0.symm (by omega)
    have gi := g.2.2.1.2 a0.toNatClampNeg (by omega)
    rw [← ea] at gi
    obtain ⟨b, hb, eb⟩ : ∃ b : Nat, b < 2 ∧ ∀ x s : Int32, wb x s a1 = wb x s (Int32.ofNat b) ∧ (if a1.toInt = 0 then (0 : Int32) else 1) = Int32.ofNat b := by
      by_cases z : a1.toInt = 0
      · exact ⟨0, by decide, fun x s => by unfold wb; rw [if_pos z, if_pos z, if_pos (by decide)]; exact ⟨rfl, rfl⟩⟩
      · exact ⟨1, by decide, fun x s => by unfold wb; rw [if_neg z, if_neg z, if_neg (by decide)]; exact ⟨rfl, rfl⟩⟩
    rw [(eb (c.1 12 4) a0).1] at hu
    rw [(eb 0 0).2] at hw
    obtain ⟨s1, s2⟩ := g.2.2.1
    obtain ⟨kn, hkn⟩ := Int.eq_ofNat_of_zero_le s1.1
    have t := wb_t kn (by omega) a0.toNatClampNeg (by omega) b hb
    rw [← ea, ← i32_of (x := c.1 12 4) hkn (by omega)] at t
    subst hr hr2 hu hw
    refine ⟨gi.2.2.2, ?_⟩
    have nc := nc_ (c := c) (k := 12) (j := 4) (x := wb (c.1 12 4) a0 (Int32.ofNat b))
    have nm := nm_ (m := m) (b := 0 + 4 * a0.toNatClampNeg + 3) (y := Int32.ofNat b)
    refine h.now (fun a b z => nc _ _ (by omega)) (fun a b z => nm _ _ (by omega)) ⟨g.1.fr (nc _ _ (by omega)) (nc _ _ (by omega)) (nm _ _ (by omega)) (nm _ _ (by omega)), g.2.1.fr (fun j _ _ => nc _ _ (by omega)) (fun j _ => nc _ _ (by omega)) (nm _ _ (by omega)) (fun b _ _ => nm _ _ (by omega)), ?_, g.2.2.2.1.fr (fun j => nc _ _ (by omega)) (nm _ _ (by omega)) (g.1.2.2.2) (fun b _ _ => nm _ _ (by omega)), g.2.2.2.2.1.fr (nc _ _ (by omega)) (fun j => nc _ _ (by omega)) (nm _ _ (by omega)) (fun b _ _ => nm _ _ (by omega)), g.2.2.2.2.2.fr (nc _ _ (by omega)) (fun j => ⟨nc _ _ (by omega), nc _ _ (by omega)⟩) (fun b _ _ => nm _ _ (by omega))⟩
    refine ⟨⟨by rw [up1_s]; exact t.1.1, by rw [up1_s]; exact t.1.2, fun s hs5 es => ?_⟩, fun i hi => ?_⟩
    · rw [nm 0 3 (by omega)] at es
      rw [up1_s]
      have := s1.2.2 s hs5 es
      exact t.2.1 s (by omega) (by omega) (by omega)
    · rw [nm 0 3 (by omega)] at hi
      have gj := s2 i hi
      rw [nc (12 + 1) i (by omega), nc (12 + 2) i (by omega), nc (12 + 3) i (by omega), nm 1 (0 + 4 * i) (by omega), nm 1 (0 + 4 * i + 1) (by omega), nm 1 (0 + 4 * i + 2) (by omega), up1_s, t.2.2 i (by omega)]
      refine ⟨gj.1, gj.2.1, gj.2.2.1, ?_⟩
      by_cases e : i = a0.toNatClampNeg
      · rw [if_pos e, e]
        exact (up1_s _ _ _ _).symm
      · rw [if_neg e, nm 1 (0 + 4 * i + 3) (by omega)]
        exact gj.2.2.2
  · rw [if_pos (hs.mpr p)] at hC
    rw [if_pos (hm.mpr p)] at hM
    exact ⟨by rw [(Prod.mk.inj hC).1, (Prod.mk.inj hM).1], by rw [(Prod.mk.inj hC).2, (Prod.mk.inj hM).2]; exact h⟩
/-! the tape -/
theorem by_t : ∀ n : Nat, n < 128 → vp_nar .byte (Int32.ofNat n).toInt8.toInt32 = Int32.ofNat n := by decide +kernel
theorem Sim.tape {c m c2 m2 : St} (h : Sim c m) (hc : ∀ a b : Nat, (a ≠ 1 ∧ a ≠ 2) → c2.1 a b = c.1 a b) (hm : ∀ a b : Nat, (a ≠ 5 ∧ (a ≠ 0 ∨ b ≠ 12)) → m2.1 a b = m.1 a b) (ht : Tp c2 m2) : Sim c2 m2 :=
  ⟨h.1.fr (hm _ _ (by omega)) (hm _ _ (by omega)) (fun b _ _ => hm _ _ (by omega)) (fun a b _ _ => hc _ _ (by omega)), h.2.1.fr (hm _ _ (by omega)) (hm _ _ (by omega)) (fun b _ => hm _ _ (by omega)) (fun b => hm _ _ (by omega)) (fun a b _ _ => hc _ _ (by omega)), ht, h.2.2.2.1.fr (fun a b _ _ => hc _ _ (by omega)) (fun a b _ => hm _ _ (by omega)), by rw [hc 0 10 (by omega), hm 0 29 (by omega)]; exact h.2.2.2.2⟩
theorem sim_feed {c m : St} {r r2 : Int32} {u w : St} {a0 : Int32} (h : Sim c m) (hC : (r, u) = F_X7_feed 0 a0 c) (hM : (r2, w) = F_X8_feed 0 a0 m) : r = r2 ∧ Sim u w := by
  have g := h.1
  have t := h.2.2.1
  have hi := inI (x := a0) (b := 0) (c := 127) (lo := 0) (hi := 127) m rfl rfl
  have c1 : (1 : Int32).toInt = 1 := rfl
  have c0 : (0 : Int32).toInt = 0 := rfl
  simp only [F_X7_feed, F_X5_addByte, xl_d, xm_d, Nat.reduceAdd] at hC
  simp only [F_X8_feed, xl_d, xm_d, Nat.reduceAdd] at hM
  rw [t.1.1] at hC
  by_cases p : 0 ≤ a0.toInt ∧ a0.toInt ≤ 127
  · rw [if_neg (by omega), if_neg (by omega)] at hC
    rw [if_neg (fun z => hi.mp z p)] at hM
    have tl := t.1.2
    by_cases q : (m.1 0 12).toInt = 160
    · rw [if_neg (show ¬ (m.1 0 12).toInt < 160 by omega), if_pos (show ((0 : Int32), c).1.toInt = 0 from rfl)] at hC
      rw [if_pos q] at hM
      exact ⟨by rw [(Prod.mk.inj hC).1, (Prod.mk.inj hM).1], by rw [(Prod.mk.inj hC).2, (Prod.mk.inj hM).2]; exact h⟩
    · obtain ⟨n, hn⟩ := Int.eq_ofNat_of_zero_le p.1
      have eb : vp_nar .byte a0.toInt8.toInt32 = a0 := by
        have := by_t n (by omega)
        rw [← i32_of (x := a0) hn (by omega)] at this
        exact this
      rw [if_pos (show (m.1 0 12).toInt < 160 by omega), eb, if_neg (show ¬ ((1 : Int32), up1 (up1 c 2 (m.1 0 12).toNatClampNeg a0) 1 1 (m.1 0 12 + 1)).1.toInt = 0 from (by decide : ¬ (1 : Int32).toInt = 0))] at hC
      simp only [up1_s] at hC
      rw [if_neg q, up1_s] at hM
      have n12 := cnI (x := m.1 0 12) (by omega)
      have e1 : (m.1 0 12 + 1).toInt = (m.1 0 12).toInt + 1 := adI rfl rfl (by omega) (by omega)
      obtain ⟨hr, hu⟩ := Prod.mk.inj hC
      obtain ⟨hr2, hw⟩ := Prod.mk.inj hM
      subst hr hr2 hu hw
      refine ⟨rfl, h.tape (fun a b z => by rw [up1_n _ _ (by omega), up1_n _ _ (by omega)]) (fun a b z => by rw [up1_n _ _ (by omega), up1_n _ _ (by omega)]) ⟨⟨by rw [up1_s, up1_s], by rw [up1_s]; omega, by rw [up1_s]; omega⟩, fun i hi => ?_⟩⟩
      rw [up1_s] at hi
      rw [up1_n (v := up1 c 2 (m.1 0 12).toNatClampNeg a0) _ (by omega), up1_n (v := up1 m 5 (m.1 0 12).toNatClampNeg a0) _ (by omega)]
      by_cases e : i = (m.1 0 12).toNatClampNeg
      · rw [e, up1_s, up1_s]
        exact ⟨rfl, p⟩
      · rw [up1_n _ _ (by omega), up1_n _ _ (by omega)]
        exact t.2 i (by omega)
  · rw [if_pos (hi.mpr p)] at hM
    have hC : (r, u) = (-1, c) := by
      by_cases q1 : a0.toInt < 0
      · rw [if_pos q1] at hC; exact hC
      · rw [if_neg q1, if_pos (by omega)] at hC; exact hC
    exact ⟨by rw [(Prod.mk.inj hC).1, (Prod.mk.inj hM).1], by rw [(Prod.mk.inj hC).2, (Prod.mk.inj hM).2]; exact h⟩
theorem sim_end {c m : St} {r r2 : Int32} {u w : St} {a0 : Int32} (h : Sim c m) (hC : (r, u) = F_X7_end 0 a0 c) (hM : (r2, w) = F_X8_end 0 a0 m) : r = r2 ∧ Sim u w := by
  have g := h.1
  have t := h.2.2.1
  have hi := inI (x := a0) (b := 0) (c := (m.1 0 12).toInt64) (lo := 0) (hi := (m.1 0 12).toInt) m rfl (i64_of _)
  simp only [F_X7_end, xl_d, Nat.reduceAdd] at hC
  simp only [F_X8_end, xl_d, Nat.reduceAdd] at hM
  rw [t.1.1] at hC
  by_cases p : 0 ≤ a0.toInt ∧ a0.toInt ≤ (m.1 0 12).toInt
  · rw [if_neg (by omega), if_neg (by omega)] at hC
    rw [if_neg (fun z => hi.mp z p)] at hM
    have tl := t.1.2
    obtain ⟨hr, hu⟩ := Prod.mk.inj hC
    obtain ⟨hr2, hw⟩ := Prod.mk.inj hM
    subst hr hr2 hu hw
    refine ⟨rfl, h.tape (fun a b z => up1_n _ _ (by omega)) (fun a b z => up1_n _ _ (by omega)) ⟨⟨by rw [up1_s, up1_s], by rw [up1_s]; omega, by rw [up1_s]; omega⟩, fun i hi => ?_⟩⟩
    rw [up1_s] at hi
    rw [up1_n _ _ (by omega), up1_n _ _ (by omega)]
    exact t.2 i (by omega)
  · rw [if_pos (hi.mpr p)] at hM
    have hC : (r, u) = (-1, c) := by
      by_cases q1 : a0.toInt < 0
      · rw [if_pos q1] at hC; exact hC
      · rw [if_neg q1, if_pos (by omega)] at hC; exact hC
    exact ⟨by rw [(Prod.mk.inj hC).1, (Prod.mk.inj hM).1], by rw [(Prod.mk.inj hC).2, (Prod.mk.inj hM).2]; exact h⟩
