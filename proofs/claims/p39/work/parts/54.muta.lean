/-! what changes the night by a number -/
theorem sim_turn {c m : St} {r r2 : Int32} {u w : St} {a0 a1 : Int32} (h : Sim c m) (hC : (r, u) = F_X7_turn 0 a0 a1 c) (hM : (r2, w) = F_X8_turn 0 a0 a1 m) : r = r2 ∧ Sim u w := by
  have g := h.1
  have hs := hasSt 12 a0 c
  rw [g.1.1.1] at hs
  have hm := isStM (a := a0) g.1.1.2
  have hi := inI (x := a1) (b := 0) (c := 6) (lo := 0) (hi := 6) m rfl rfl
  simp only [F_X7_turn, xl_d, Nat.reduceAdd] at hC
  simp only [F_X8_turn, F_X8_becomes, xl_d, xm_d, Nat.reduceAdd] at hM
  by_cases p : 0 ≤ a0.toInt ∧ a0.toInt < (m.1 0 3).toInt
  · rw [if_neg (fun z => hs.mp z p)] at hC
    rw [if_neg (fun z => hm.mp z p)] at hM
    by_cases q : 0 ≤ a1.toInt ∧ a1.toInt ≤ 6
    · rw [if_neg (by omega), if_neg (by omega)] at hC
      rw [if_neg (fun z => hi.mp z q)] at hM
      have h5 := g.1.1.2
      have m4 : ((4 : Int32) * a0).toInt = 4 * a0.toInt := mlI rfl rfl (by omega) (by omega)
      have a2 : ((4 : Int32) * a0 + 2).toInt = 4 * a0.toInt + 2 := adI m4 rfl (by omega) (by omega)
      have n2 := cnI (x := (4 : Int32) * a0 + 2) (by omega)
      have n0 := cnI (x := a0) (by omega)
      obtain ⟨hr, hu⟩ := Prod.mk.inj hC
      obtain ⟨hr2, hw⟩ := Prod.mk.inj hM
      have ei : ((4 : Int32) * a0 + 2).toNatClampNeg = 0 + 4 * a0.toNatClampNeg + 2 := by omega
      rw [ei] at hr2 hw
      subst hr hr2 hu hw
      have gi := g.2.2.1.2 a0.toNatClampNeg (by omega)
      refine ⟨gi.2.2.1.1, ?_⟩
      have nc := nc_ (c := c) (k := 15) (j := a0.toNatClampNeg) (x := a1)
      have nm := nm_ (m := m) (b := 0 + 4 * a0.toNatClampNeg + 2) (y := a1)
      refine h.now (fun a b z => nc _ _ (by omega)) (fun a b z => nm _ _ (by omega)) ⟨g.1.fr (nc _ _ (by omega)) (nc _ _ (by omega)) (nm _ _ (by omega)) (nm _ _ (by omega)), g.2.1.fr (fun j _ _ => nc _ _ (by omega)) (fun j _ => nc _ _ (by omega)) (nm _ _ (by omega)) (fun b _ _ => nm _ _ (by omega)), ?_, g.2.2.2.1.fr (fun j => nc _ _ (by omega)) (nm _ _ (by omega)) (g.1.2.2.2) (fun b _ _ => nm _ _ (by omega)), g.2.2.2.2.1.fr (nc _ _ (by omega)) (fun j => nc _ _ (by omega)) (nm _ _ (by omega)) (fun b _ _ => nm _ _ (by omega)), g.2.2.2.2.2.fr (nc _ _ (by omega)) (fun j => ⟨nc _ _ (by omega), nc _ _ (by omega)⟩) (fun b _ _ => nm _ _ (by omega))⟩
      refine ⟨by rw [nc 12 4 (by omega), nm 0 3 (by omega)]; exact g.2.2.1.1, fun i hi => ?_⟩
      rw [nm 0 3 (by omega)] at hi
      rw [nc (12 + 1) i (by omega), nc (12 + 2) i (by omega), nc 12 4 (by omega), nm 1 (0 + 4 * i) (by omega), nm 1 (0 + 4 * i + 1) (by omega), nm 1 (0 + 4 * i + 3) (by omega)]
      have gj := g.2.2.1.2 i hi
      by_cases e : i = a0.toNatClampNeg
      · subst e
        refine ⟨gj.1, gj.2.1, ⟨?_, ?_, ?_⟩, gj.2.2.2⟩
        · rw [up1_s]
          exact (up1_s _ _ _ _).symm
        · rw [up1_s]; omega
        · rw [up1_s]; omega
      · rw [nc (12 + 3) i (by omega), nm 1 (0 + 4 * i + 2) (by omega)]
        exact gj
    · rw [if_pos (hi.mpr q)] at hM
      have hC : (r, u) = (-1, c) := by
        by_cases q1 : a1.toInt < 0
        · rw [if_pos q1] at hC; exact hC
        · rw [if_neg q1, if_pos (by omega)] at hC; exact hC
      exact ⟨by rw [(Prod.mk.inj hC).1, (Prod.mk.inj hM).1], by rw [(Prod.mk.inj hC).2, (Prod.mk.inj hM).2]; exact h⟩
  · rw [if_pos (hs.mpr p)] at hC
    rw [if_pos (hm.mpr p)] at hM
    exact ⟨by rw [(Prod.mk.inj hC).1, (Prod.mk.inj hM).1], by rw [(Prod.mk.inj hC).2, (Prod.mk.inj hM).2]; exact h⟩
theorem sim_teach {c m : St} {r r2 : Int32} {u w : St} {a0 a1 : Int32} (h : Sim c m) (hC : (r, u) = F_X7_teach 0 a0 a1 c) (hM : (r2, w) = F_X8_teach 0 a0 a1 m) : r = r2 ∧ Sim u w := by
  have g := h.1
  have hs := hasWk 12 a0 c
  rw [g.1.2.1] at hs
  have hm := isWkM (a := a0) g.1.2.2
  have hi := inI (x := a1) (b := 0) (c := 3) (lo := 0) (hi := 3) m rfl rfl
  simp only [F_X7_teach, xl_d, Nat.reduceAdd] at hC
  simp only [F_X8_teach, F_X8_becomes, xl_d, xm_d, Nat.reduceAdd] at hM
  by_cases p : 0 ≤ a0.toInt ∧ a0.toInt < (m.1 0 4).toInt
  · rw [if_neg (fun z => hs.mp z p)] at hC
    rw [if_neg (fun z => hm.mp z p)] at hM
    by_cases q : 0 ≤ a1.toInt ∧ a1.toInt ≤ 3
    · rw [if_neg (by omega), if_neg (by omega)] at hC
      rw [if_neg (fun z => hi.mp z q)] at hM
      have h5 := g.1.2.2
      have a2 : ((20 : Int32) + a0).toInt = 20 + a0.toInt := adI rfl rfl (by omega) (by omega)
      have n2 := cnI (x := (20 : Int32) + a0) (by omega)
      have n0 := cnI (x := a0) (by omega)
      obtain ⟨hr, hu⟩ := Prod.mk.inj hC
      obtain ⟨hr2, hw⟩ := Prod.mk.inj hM
      have ei : ((20 : Int32) + a0).toNatClampNeg = 0 + 20 + a0.toNatClampNeg := by omega
      rw [ei] at hr2 hw
      subst hr hr2 hu hw
      have gi := g.2.2.2.1 a0.toNatClampNeg (by omega)
      refine ⟨gi.1, ?_⟩
      have nc := nc_ (c := c) (k := 16) (j := a0.toNatClampNeg) (x := a1)
      have nm := nm_ (m := m) (b := 0 + 20 + a0.toNatClampNeg) (y := a1)
      refine h.now (fun a b z => nc _ _ (by omega)) (fun a b z => nm _ _ (by omega)) ⟨g.1.fr (nc _ _ (by omega)) (nc _ _ (by omega)) (nm _ _ (by omega)) (nm _ _ (by omega)), g.2.1.fr (fun j _ _ => nc _ _ (by omega)) (fun j _ => nc _ _ (by omega)) (nm _ _ (by omega)) (fun b _ _ => nm _ _ (by omega)), g.2.2.1.fr (nc _ _ (by omega)) (fun j => ⟨nc _ _ (by omega), nc _ _ (by omega), nc _ _ (by omega)⟩) (nm _ _ (by omega)) (g.1.1.2.2) (fun b _ _ => nm _ _ (by omega)), ?_, g.2.2.2.2.1.fr (nc _ _ (by omega)) (fun j => nc _ _ (by omega)) (nm _ _ (by omega)) (fun b _ _ => nm _ _ (by omega)), g.2.2.2.2.2.fr (nc _ _ (by omega)) (fun j => ⟨nc _ _ (by omega), nc _ _ (by omega)⟩) (fun b _ _ => nm _ _ (by omega))⟩
      intro i hi
      rw [nm 0 4 (by omega)] at hi
      have gj := g.2.2.2.1 i hi
      by_cases e : i = a0.toNatClampNeg
      · subst e
        have x3 : (up1 m 1 (0 + 20 + a0.toNatClampNeg) a1).1 1 (0 + 20 + a0.toNatClampNeg) = a1 := up1_s _ _ _ _
        have x4 : (up1 c 16 a0.toNatClampNeg a1).1 (12 + 4) a0.toNatClampNeg = a1 := up1_s _ _ _ _
        rw [x3, x4]
        exact ⟨rfl, q⟩
      · rw [nc (12 + 4) i (by omega), nm 1 (0 + 20 + i) (by omega)]
        exact gj
    · rw [if_pos (hi.mpr q)] at hM
      have hC : (r, u) = (-1, c) := by
        by_cases q1 : a1.toInt < 0
        · rw [if_pos q1] at hC; exact hC
        · rw [if_neg q1, if_pos (by omega)] at hC; exact hC
      exact ⟨by rw [(Prod.mk.inj hC).1, (Prod.mk.inj hM).1], by rw [(Prod.mk.inj hC).2, (Prod.mk.inj hM).2]; exact h⟩
  · rw [if_pos (hs.mpr p)] at hC
    rw [if_pos (hm.mpr p)] at hM
    exact ⟨by rw [(Prod.mk.inj hC).1, (Prod.mk.inj hM).1], by rw [(Prod.mk.inj hC).2, (Prod.mk.inj hM).2]; exact h⟩
theorem sim_cloud {c m : St} {r r2 : Int32} {u w : St} {a0 a1 : Int32} (h : Sim c m) (hC : (r, u) = F_X7_cloud 0 a0 a1 c) (hM : (r2, w) = F_X8_cloud 0 a0 a1 m) : r = r2 ∧ Sim u w := by
  have g := h.1
  simp only [F_X7_cloud, onCl, xl_d, Nat.reduceAdd] at hC
  simp only [F_X8_cloud, xl_d, Nat.reduceAdd, cn28] at hM
  have g28 : c.1 12 11 = m.1 1 28 := g.2.1.2.2.2.2.2.1
  by_cases p : 0 ≤ a0.toInt ∧ a0.toInt ≤ 9
  · rw [if_neg (fun z => isHrC.mp z p)] at hC
    rw [if_neg (fun z => isHrM.mp z p)] at hM
    obtain ⟨x, hx1, hx2⟩ : ∃ x : Int32, F_X7_withBit (c.1 12 11) a0 a1 c = x ∧ (r2, w) = ((m.1 1 28 >>> (a0 &&& 31)) &&& 1, up1 m 1 28 x) := by
      simp only [F_X7_withBit, xl_d]
      rw [g28]
      by_cases q : a1.toInt = 0
      · rw [if_pos q] at hM ⊢; exact ⟨_, rfl, hM⟩
      · rw [if_neg q] at hM ⊢; exact ⟨_, rfl, hM⟩
    rw [hx1, g28] at hC
    obtain ⟨hr, hu⟩ := Prod.mk.inj hC
    obtain ⟨hr2, hw⟩ := Prod.mk.inj hx2
    subst hr hr2 hu hw
    refine ⟨rfl, ?_⟩
    have nc := nc_ (c := c) (k := 12) (j := 11) (x := x)
    have nm := nm_ (m := m) (b := 28) (y := x)
    refine h.now (fun a b z => nc _ _ (by omega)) (fun a b z => nm _ _ (by omega)) ⟨g.1.fr (nc _ _ (by omega)) (nc _ _ (by omega)) (nm _ _ (by omega)) (nm _ _ (by omega)), ?_, g.2.2.1.fr (nc _ _ (by omega)) (fun j => ⟨nc _ _ (by omega), nc _ _ (by omega), nc _ _ (by omega)⟩) (nm _ _ (by omega)) (g.1.1.2.2) (fun b _ _ => nm _ _ (by omega)), g.2.2.2.1.fr (fun j => nc _ _ (by omega)) (nm _ _ (by omega)) (g.1.2.2.2) (fun b _ _ => nm _ _ (by omega)), g.2.2.2.2.1.fr (nc _ _ (by omega)) (fun j => nc _ _ (by omega)) (nm _ _ (by omega)) (fun b _ _ => nm _ _ (by omega)), g.2.2.2.2.2.fr (nc _ _ (by omega)) (fun j => ⟨nc _ _ (by omega), nc _ _ (by omega)⟩) (fun b _ _ => nm _ _ (by omega))⟩
    obtain ⟨f1, f2, f3, f4, f5, f6, f7, f8, f9⟩ := g.2.1
    refine ⟨?_, ?_, ?_, ?_, ?_, ?_, ?_, ?_, ?_⟩
    · rw [nc 12 7 (by omega), nm 0 4 (by omega), nm 1 (0 + 23) (by omega)]; exact f1
    · rw [nc 12 8 (by omega), nm 1 (0 + 24) (by omega)]; exact f2
    · rw [nc 12 9 (by omega), nm 1 (0 + 25) (by omega)]; exact f3
    · rw [nc 12 10 (by omega), nm 1 (0 + 26) (by omega)]; exact f4
    · rw [nc (12 + 5) 3 (by omega), nm 1 (0 + 27) (by omega)]; exact f5
    · rw [up1_s]; exact (up1_s _ _ _ _).symm
    · rw [nc (12 + 5) 0 (by omega), nm 1 (0 + 29) (by omega)]; exact f7
    · rw [nc (12 + 5) 1 (by omega), nm 1 (0 + 30) (by omega), nm 1 (0 + 29) (by omega)]; exact f8
    · rw [nc (12 + 5) 2 (by omega), nm 1 (0 + 31) (by omega), nm 1 (0 + 29) (by omega)]; exact f9
  · rw [if_pos (isHrC.mpr p)] at hC
    rw [if_pos (isHrM.mpr p)] at hM
    exact ⟨by rw [(Prod.mk.inj hC).1, (Prod.mk.inj hM).1], by rw [(Prod.mk.inj hC).2, (Prod.mk.inj hM).2]; exact h⟩
theorem sim_cut {c m : St} {r r2 : Int32} {u w : St} {a0 : Int32} (h : Sim c m) (hC : (r, u) = F_X7_cut 0 a0 c) (hM : (r2, w) = F_X8_cut 0 a0 m) : r = r2 ∧ Sim u w := by
  have g := h.1
  have p1 := g.2.2.2.2.1.1
  have e14 : c.1 12 14 = m.1 1 32 := p1.1
  have p2 : 0 ≤ (m.1 1 32).toInt ∧ (m.1 1 32).toInt ≤ 8 := p1.2
  have hi := inI (x := a0) (b := 0) (c := (m.1 1 32).toInt64) (lo := 0) (hi := (m.1 1 32).toInt) m rfl (i64_of _)
  simp only [F_X7_cut, xl_d, Nat.reduceAdd] at hC
  simp only [F_X8_cut, F_X8_becomes, xl_d, xm_d, Nat.reduceAdd, cn32] at hM
  rw [e14] at hC
  by_cases p : 0 ≤ a0.toInt ∧ a0.toInt ≤ (m.1 1 32).toInt
  · rw [if_neg (by omega), if_neg (by omega)] at hC
    rw [if_neg (fun z => hi.mp z p)] at hM
    obtain ⟨hr, hu⟩ := Prod.mk.inj hC
    obtain ⟨hr2, hw⟩ := Prod.mk.inj hM
    subst hr hr2 hu hw
    refine ⟨rfl, ?_⟩
    have nc := nc_ (c := c) (k := 12) (j := 14) (x := a0)
    have nm := nm_ (m := m) (b := 32) (y := a0)
    refine h.now (fun a b z => nc _ _ (by omega)) (fun a b z => nm _ _ (by omega)) ⟨g.1.fr (nc _ _ (by omega)) (nc _ _ (by omega)) (nm _ _ (by omega)) (nm _ _ (by omega)), g.2.1.fr (fun j _ _ => nc _ _ (by omega)) (fun j _ => nc _ _ (by omega)) (nm _ _ (by omega)) (fun b _ _ => nm _ _ (by omega)), g.2.2.1.fr (nc _ _ (by omega)) (fun j => ⟨nc _ _ (by omega), nc _ _ (by omega), nc _ _ (by omega)⟩) (nm _ _ (by omega)) (g.1.1.2.2) (fun b _ _ => nm _ _ (by omega)), g.2.2.2.1.fr (fun j => nc _ _ (by omega)) (nm _ _ (by omega)) (g.1.2.2.2) (fun b _ _ => nm _ _ (by omega)), ?_, g.2.2.2.2.2.fr (nc _ _ (by omega)) (fun j => ⟨nc _ _ (by omega), nc _ _ (by omega)⟩) (fun b _ _ => nm _ _ (by omega))⟩
    have s32 : (up1 m 1 32 a0).1 1 (0 + 32) = a0 := up1_s _ _ _ _
    refine ⟨⟨by rw [s32]; exact up1_s _ _ _ _, by rw [s32]; exact p.1, by rw [s32]; omega⟩, fun i hi => ?_⟩
    rw [s32] at hi
    rw [nc (12 + 6) i (by omega), nm 1 (0 + 33 + i) (by omega), nm 0 3 (by omega)]
    exact g.2.2.2.2.1.2 i (by show (i : Int) < (m.1 1 32).toInt; omega)
  · rw [if_pos (hi.mpr p)] at hM
    have hC : (r, u) = (-1, c) := by
      by_cases q1 : a0.toInt < 0
      · rw [if_pos q1] at hC; exact hC
      · rw [if_neg q1, if_pos (by omega)] at hC; exact hC
    exact ⟨by rw [(Prod.mk.inj hC).1, (Prod.mk.inj hM).1], by rw [(Prod.mk.inj hC).2, (Prod.mk.inj hM).2]; exact h⟩
theorem sim_forget {c m : St} {r r2 : Int32} {u w : St} {a0 : Int32} (h : Sim c m) (hC : (r, u) = F_X7_forget 0 a0 c) (hM : (r2, w) = F_X8_forget 0 a0 m) : r = r2 ∧ Sim u w := by
  have g := h.1
  have p1 := g.2.2.2.2.2.1
  have e17 : c.1 12 17 = m.1 1 41 := p1.1
  have p2 : 0 ≤ (m.1 1 41).toInt ∧ (m.1 1 41).toInt ≤ 6 := p1.2
  have hi := inI (x := a0) (b := 0) (c := (m.1 1 41).toInt64) (lo := 0) (hi := (m.1 1 41).toInt) m rfl (i64_of _)
  simp only [F_X7_forget, xl_d, Nat.reduceAdd] at hC
  simp only [F_X8_forget, F_X8_becomes, xl_d, xm_d, Nat.reduceAdd, cn41] at hM
  rw [e17] at hC
  by_cases p : 0 ≤ a0.toInt ∧ a0.toInt ≤ (m.1 1 41).toInt
  · rw [if_neg (by omega), if_neg (by omega)] at hC
    rw [if_neg (fun z => hi.mp z p)] at hM
    obtain ⟨hr, hu⟩ := Prod.mk.inj hC
    obtain ⟨hr2, hw⟩ := Prod.mk.inj hM
    subst hr hr2 hu hw
    refine ⟨rfl, ?_⟩
    have nc := nc_ (c := c) (k := 12) (j := 17) (x := a0)
    have nm := nm_ (m := m) (b := 41) (y := a0)
    refine h.now (fun a b z => nc _ _ (by omega)) (fun a b z => nm _ _ (by omega)) ⟨g.1.fr (nc _ _ (by omega)) (nc _ _ (by omega)) (nm _ _ (by omega)) (nm _ _ (by omega)), g.2.1.fr (fun j _ _ => nc _ _ (by omega)) (fun j _ => nc _ _ (by omega)) (nm _ _ (by omega)) (fun b _ _ => nm _ _ (by omega)), g.2.2.1.fr (nc _ _ (by omega)) (fun j => ⟨nc _ _ (by omega), nc _ _ (by omega), nc _ _ (by omega)⟩) (nm _ _ (by omega)) (g.1.1.2.2) (fun b _ _ => nm _ _ (by omega)), g.2.2.2.1.fr (fun j => nc _ _ (by omega)) (nm _ _ (by omega)) (g.1.2.2.2) (fun b _ _ => nm _ _ (by omega)), g.2.2.2.2.1.fr (nc _ _ (by omega)) (fun j => nc _ _ (by omega)) (nm _ _ (by omega)) (fun b _ _ => nm _ _ (by omega)), ?_⟩
    have s41 : (up1 m 1 41 a0).1 1 (0 + 41) = a0 := up1_s _ _ _ _
    refine ⟨⟨by rw [s41]; exact up1_s _ _ _ _, by rw [s41]; exact p.1, by rw [s41]; omega⟩, fun i hi => ?_⟩
    rw [s41] at hi
    rw [nc (12 + 7) i (by omega), nc (12 + 8) i (by omega), nm 1 (0 + 42 + 2 * i) (by omega), nm 1 (0 + 42 + 2 * i + 1) (by omega)]
    exact g.2.2.2.2.2.2 i (by show (i : Int) < (m.1 1 41).toInt; omega)
  · rw [if_pos (hi.mpr p)] at hM
    have hC : (r, u) = (-1, c) := by
      by_cases q1 : a0.toInt < 0
      · rw [if_pos q1] at hC; exact hC
      · rw [if_neg q1, if_pos (by omega)] at hC; exact hC
    exact ⟨by rw [(Prod.mk.inj hC).1, (Prod.mk.inj hM).1], by rw [(Prod.mk.inj hC).2, (Prod.mk.inj hM).2]; exact h⟩
theorem sim_see {c m : St} {r r2 : Int32} {u w : St} {a0 a1 : Int32} (h : Sim c m) (hC : (r, u) = F_X7_see 0 a0 a1 c) (hM : (r2, w) = F_X8_see 0 a0 a1 m) : r = r2 ∧ Sim u w := by
  have g := h.1
  have p1 := g.2.2.2.2.2.1
  have e17 : c.1 12 17 = m.1 1 41 := p1.1
  have p2 : 0 ≤ (m.1 1 41).toInt ∧ (m.1 1 41).toInt ≤ 6 := p1.2
  have hi := inI (x := a0) (b := 0) (c := 8) (lo := 0) (hi := 8) m rfl rfl
  have hi2 := inI (x := a1) (b := (-99)) (c := 99) (lo := (-99)) (hi := 99) m rfl rfl
  simp only [F_X7_see, xl_d, Nat.reduceAdd] at hC
  simp only [F_X8_see, xl_d, Nat.reduceAdd, cn41] at hM
  rw [e17] at hC
  by_cases p : (0 ≤ a0.toInt ∧ a0.toInt ≤ 8) ∧ (-99 ≤ a1.toInt ∧ a1.toInt ≤ 99)
  · rw [if_neg (by omega), if_neg (by omega), if_neg (by omega), if_neg (by omega)] at hC
    rw [if_neg (fun z => hi.mp z p.1), if_neg (fun z => hi2.mp z p.2)] at hM
    by_cases q : (m.1 1 41).toInt = 6
    · rw [if_neg (by omega)] at hC
      rw [if_pos q] at hM
      exact ⟨by rw [(Prod.mk.inj hC).1, (Prod.mk.inj hM).1], by rw [(Prod.mk.inj hC).2, (Prod.mk.inj hM).2]; exact h⟩
    · rw [if_pos (by omega), up1_s] at hC
      rw [if_neg q] at hM
      have n41 := cnI (x := m.1 1 41) (by omega)
      have m2 : ((2 : Int32) * m.1 1 41).toInt = 2 * (m.1 1 41).toInt := mlI rfl rfl (by omega) (by omega)
      have m42 : ((42 : Int32) + (2 : Int32) * m.1 1 41).toInt = 42 + 2 * (m.1 1 41).toInt := adI rfl m2 (by omega) (by omega)
      have m43 : ((42 : Int32) + (2 : Int32) * m.1 1 41 + 1).toInt = 42 + 2 * (m.1 1 41).toInt + 1 := adI m42 rfl (by omega) (by omega)
      have n42 := cnI (x := (42 : Int32) + (2 : Int32) * m.1 1 41) (by omega)
      have n43 := cnI (x := (42 : Int32) + (2 : Int32) * m.1 1 41 + 1) (by omega)
      have e1 : (m.1 1 41 + 1).toInt = (m.1 1 41).toInt + 1 := adI rfl rfl (by omega) (by omega)
      rw [up1_s] at hM
      obtain ⟨hr, hu⟩ := Prod.mk.inj hC
      obtain ⟨hr2, hw⟩ := Prod.mk.inj hM
      have ei : ((42 : Int32) + (2 : Int32) * m.1 1 41).toNatClampNeg = 0 + 42 + 2 * (m.1 1 41).toNatClampNeg := by omega
      have ej : ((42 : Int32) + (2 : Int32) * m.1 1 41 + 1).toNatClampNeg = 0 + 42 + 2 * (m.1 1 41).toNatClampNeg + 1 := by omega
      rw [ei, ej] at hw
      have nc : ∀ a b : Nat, (a ≠ 19 ∧ a ≠ 20 ∧ (a ≠ 12 ∨ b ≠ 17)) → u.1 a b = c.1 a b := fun a b z => by rw [hu, up1_n _ _ (by omega), up1_n _ _ (by omega), up1_n _ _ (by omega)]
      have nm : ∀ a b : Nat, (a ≠ 1 ∨ (b ≠ 41 ∧ b ≠ 0 + 42 + 2 * (m.1 1 41).toNatClampNeg ∧ b ≠ 0 + 42 + 2 * (m.1 1 41).toNatClampNeg + 1)) → w.1 a b = m.1 a b := fun a b z => by rw [hw, up1_n _ _ (by omega), up1_n _ _ (by omega), up1_n _ _ (by omega)]
      refine ⟨by rw [hr, hr2], ?_⟩
      refine h.now (fun a b z => nc _ _ (by omega)) (fun a b z => nm _ _ (by omega)) ⟨g.1.fr (nc _ _ (by omega)) (nc _ _ (by omega)) (nm _ _ (by omega)) (nm _ _ (by omega)), g.2.1.fr (fun j _ _ => nc _ _ (by omega)) (fun j _ => nc _ _ (by omega)) (nm _ _ (by omega)) (fun b _ _ => nm _ _ (by omega)), g.2.2.1.fr (nc _ _ (by omega)) (fun j => ⟨nc _ _ (by omega), nc _ _ (by omega), nc _ _ (by omega)⟩) (nm _ _ (by omega)) (g.1.1.2.2) (fun b _ _ => nm _ _ (by omega)), g.2.2.2.1.fr (fun j => nc _ _ (by omega)) (nm _ _ (by omega)) (g.1.2.2.2) (fun b _ _ => nm _ _ (by omega)), g.2.2.2.2.1.fr (nc _ _ (by omega)) (fun j => nc _ _ (by omega)) (nm _ _ (by omega)) (fun b _ _ => nm _ _ (by omega)), ?_⟩
      have s41 : w.1 1 (0 + 41) = m.1 1 41 + 1 := by rw [hw]; exact up1_s _ _ _ _
      refine ⟨⟨by rw [s41, hu]; exact up1_s _ _ _ _, by rw [s41]; omega, by rw [s41]; omega⟩, fun i hi => ?_⟩
      rw [s41] at hi
      by_cases e : i = (m.1 1 41).toNatClampNeg
      · have x1 : u.1 (12 + 7) i = a0 := by rw [hu, up1_n _ _ (by omega), up1_n _ _ (by omega), e]; exact up1_s _ _ _ _
        have x2 : u.1 (12 + 8) i = a1 := by rw [hu, up1_n _ _ (by omega), e]; exact up1_s _ _ _ _
        have x3 : w.1 1 (0 + 42 + 2 * i) = a0 := by rw [hw, up1_n _ _ (by omega), up1_n _ _ (by omega), e, up1_s]
        have x4 : w.1 1 (0 + 42 + 2 * i + 1) = a1 := by rw [hw, up1_n _ _ (by omega), e, up1_s]
        rw [x1, x2, x3, x4]
        exact ⟨rfl, rfl, p.1⟩
      · have x1 : u.1 (12 + 7) i = c.1 (12 + 7) i := by rw [hu, up1_n _ _ (by omega), up1_n _ _ (by omega), up1_n _ _ (by omega)]
        have x2 : u.1 (12 + 8) i = c.1 (12 + 8) i := by rw [hu, up1_n _ _ (by omega), up1_n _ _ (by omega), up1_n _ _ (by omega)]
        rw [x1, x2, nm 1 (0 + 42 + 2 * i) (by omega), nm 1 (0 + 42 + 2 * i + 1) (by omega)]
        exact g.2.2.2.2.2.2 i (by show (i : Int) < (m.1 1 41).toInt; omega)
  · have hC : (r, u) = (-1, c) := by
      by_cases q1 : a0.toInt < 0
      · rw [if_pos q1] at hC; exact hC
      · rw [if_neg q1] at hC
        by_cases q2 : 8 < a0.toInt
        · rw [if_pos q2] at hC; exact hC
        · rw [if_neg q2] at hC
          by_cases q3 : a1.toInt < -99
          · rw [if_pos q3] at hC; exact hC
          · rw [if_neg q3, if_pos (by omega)] at hC; exact hC
    have hM : (r2, w) = (-1, m) := by
      by_cases q1 : 0 ≤ a0.toInt ∧ a0.toInt ≤ 8
      · rw [if_neg (fun z => hi.mp z q1), if_pos (hi2.mpr (fun z => p ⟨q1, z⟩))] at hM; exact hM
      · rw [if_pos (hi.mpr q1)] at hM; exact hM
    exact ⟨by rw [(Prod.mk.inj hC).1, (Prod.mk.inj hM).1], by rw [(Prod.mk.inj hC).2, (Prod.mk.inj hM).2]; exact h⟩
theorem sim_plans {c m : St} {r r2 : Int32} {u w : St} {a0 : Int32} (h : Sim c m) (hC : (r, u) = F_X7_plans 0 a0 c) (hM : (r2, w) = F_X8_plans 0 a0 m) : r = r2 ∧ Sim u w := by
  have g := h.1
  have p1 := g.2.2.2.2.1.1
  have e14 : c.1 12 14 = m.1 1 32 := p1.1
  have p2 : 0 ≤ (m.1 1 32).toInt ∧ (m.1 1 32).toInt ≤ 8 := p1.2
  have hs := hasAm 12 a0 c
  rw [g.1.1.1] at hs
  have hm := isAmM (a := a0) g.1.1.2
  have h5 := g.1.1.2
  simp only [F_X7_plans, F_X0_addAim, xl_d, xm_d, Nat.reduceAdd] at hC
  simp only [F_X8_plans, xl_d, Nat.reduceAdd, cn32] at hM
  rw [e14] at hC
  by_cases p : a0.toInt = 5 ∨ a0.toInt = 6 ∨ (0 ≤ a0.toInt ∧ a0.toInt < (m.1 0 3).toInt)
  · rw [if_neg (fun z => hs.mp z p)] at hC
    rw [if_neg (fun z => hm.mp z p)] at hM
    by_cases q : (m.1 1 32).toInt = 8
    · rw [if_neg (show ¬ (m.1 1 32).toInt < 8 by omega), if_pos (show ((0 : Int32), c).1.toInt = 0 from rfl)] at hC
      rw [if_pos q] at hM
      exact ⟨by rw [(Prod.mk.inj hC).1, (Prod.mk.inj hM).1], by rw [(Prod.mk.inj hC).2, (Prod.mk.inj hM).2]; exact h⟩
    · rw [if_pos (show (m.1 1 32).toInt < 8 by omega), if_neg (show ¬ ((1 : Int32), up1 (up1 c 18 (m.1 1 32).toNatClampNeg a0) 12 14 (m.1 1 32 + 1)).1.toInt = 0 from (by decide : ¬ (1 : Int32).toInt = 0))] at hC
      simp only [up1_s] at hC
      rw [if_neg q, up1_s] at hM
      have n32 := cnI (x := m.1 1 32) (by omega)
      have m33 : ((33 : Int32) + m.1 1 32).toInt = 33 + (m.1 1 32).toInt := adI rfl rfl (by omega) (by omega)
      have n33 := cnI (x := (33 : Int32) + m.1 1 32) (by omega)
      have e1 : (m.1 1 32 + 1).toInt = (m.1 1 32).toInt + 1 := adI rfl rfl (by omega) (by omega)
      obtain ⟨hr, hu⟩ := Prod.mk.inj hC
      obtain ⟨hr2, hw⟩ := Prod.mk.inj hM
      have ei : ((33 : Int32) + m.1 1 32).toNatClampNeg = 0 + 33 + (m.1 1 32).toNatClampNeg := by omega
      rw [ei] at hw
      have nc : ∀ a b : Nat, (a ≠ 18 ∧ (a ≠ 12 ∨ b ≠ 14)) → u.1 a b = c.1 a b := fun a b z => by rw [hu, up1_n _ _ (by omega), up1_n _ _ (by omega)]
      have nm : ∀ a b : Nat, (a ≠ 1 ∨ (b ≠ 32 ∧ b ≠ 0 + 33 + (m.1 1 32).toNatClampNeg)) → w.1 a b = m.1 a b := fun a b z => by rw [hw, up1_n _ _ (by omega), up1_n _ _ (by omega)]
      refine ⟨by rw [hr, hr2], ?_⟩
      refine h.now (fun a b z => nc _ _ (by omega)) (fun a b z => nm _ _ (by omega)) ⟨g.1.fr (nc _ _ (by omega)) (nc _ _ (by omega)) (nm _ _ (by omega)) (nm _ _ (by omega)), g.2.1.fr (fun j _ _ => nc _ _ (by omega)) (fun j _ => nc _ _ (by omega)) (nm _ _ (by omega)) (fun b _ _ => nm _ _ (by omega)), g.2.2.1.fr (nc _ _ (by omega)) (fun j => ⟨nc _ _ (by omega), nc _ _ (by omega), nc _ _ (by omega)⟩) (nm _ _ (by omega)) (g.1.1.2.2) (fun b _ _ => nm _ _ (by omega)), g.2.2.2.1.fr (fun j => nc _ _ (by omega)) (nm _ _ (by omega)) (g.1.2.2.2) (fun b _ _ => nm _ _ (by omega)), ?_, g.2.2.2.2.2.fr (nc _ _ (by omega)) (fun j => ⟨nc _ _ (by omega), nc _ _ (by omega)⟩) (fun b _ _ => nm _ _ (by omega))⟩
      have s32 : w.1 1 (0 + 32) = m.1 1 32 + 1 := by rw [hw]; exact up1_s _ _ _ _
      refine ⟨⟨by rw [s32, hu]; exact up1_s _ _ _ _, by rw [s32]; omega, by rw [s32]; omega⟩, fun i hi => ?_⟩
      rw [s32] at hi
      rw [nm 0 3 (by omega)]
      by_cases e : i = (m.1 1 32).toNatClampNeg
      · have x1 : u.1 (12 + 6) i = a0 := by rw [hu, up1_n _ _ (by omega), e]; exact up1_s _ _ _ _
        have x3 : w.1 1 (0 + 33 + i) = a0 := by rw [hw, up1_n _ _ (by omega), e, up1_s]
        rw [x1, x3]
        exact ⟨rfl, by omega, by omega, by omega⟩
      · have x1 : u.1 (12 + 6) i = c.1 (12 + 6) i := by rw [hu, up1_n _ _ (by omega), up1_n _ _ (by omega)]
        rw [x1, nm 1 (0 + 33 + i) (by omega)]
        exact g.2.2.2.2.1.2 i (by show (i : Int) < (m.1 1 32).toInt; omega)
  · rw [if_pos (hs.mpr p)] at hC
    rw [if_pos (hm.mpr p)] at hM
    exact ⟨by rw [(Prod.mk.inj hC).1, (Prod.mk.inj hM).1], by rw [(Prod.mk.inj hC).2, (Prod.mk.inj hM).2]; exact h⟩
