/-! numbers that stand as they are, tests of both -/
theorem cn0 : (0 : Int32).toNatClampNeg = 0 := rfl
theorem cn1 : (1 : Int32).toNatClampNeg = 1 := rfl
theorem cn2 : (2 : Int32).toNatClampNeg = 2 := rfl
theorem cn20 : (20 : Int32).toNatClampNeg = 20 := rfl
theorem cn21 : (21 : Int32).toNatClampNeg = 21 := rfl
theorem cn22 : (22 : Int32).toNatClampNeg = 22 := rfl
theorem cn23 : (23 : Int32).toNatClampNeg = 23 := rfl
theorem cn24 : (24 : Int32).toNatClampNeg = 24 := rfl
theorem cn25 : (25 : Int32).toNatClampNeg = 25 := rfl
theorem cn26 : (26 : Int32).toNatClampNeg = 26 := rfl
theorem cn27 : (27 : Int32).toNatClampNeg = 27 := rfl
theorem cn28 : (28 : Int32).toNatClampNeg = 28 := rfl
theorem cn29 : (29 : Int32).toNatClampNeg = 29 := rfl
theorem cn30 : (30 : Int32).toNatClampNeg = 30 := rfl
theorem cn31 : (31 : Int32).toNatClampNeg = 31 := rfl
theorem cn32 : (32 : Int32).toNatClampNeg = 32 := rfl
theorem cn33 : (33 : Int32).toNatClampNeg = 33 := rfl
theorem cn41 : (41 : Int32).toNatClampNeg = 41 := rfl
theorem nb1 : vp_nar .boolean (1 : Int32) = 1 := rfl
theorem nb0 : vp_nar .boolean (0 : Int32) = 0 := rfl
theorem isStM {a : Int32} {m : St} (h : 0 ≤ (m.1 0 3).toInt ∧ (m.1 0 3).toInt ≤ 5) : (F_X8_isStar 0 a m).toInt = 0 ↔ ¬ (0 ≤ a.toInt ∧ a.toInt < (m.1 0 3).toInt) := by
  have e : (m.1 0 3 - 1).toInt = (m.1 0 3).toInt - 1 := sbI rfl rfl (by omega) (by omega)
  simp only [F_X8_isStar, xl_d]
  rw [inI m (lo := 0) (hi := (m.1 0 3).toInt - 1) rfl (by rw [i64_of, e])]
  omega
theorem isWkM {a : Int32} {m : St} (h : 0 ≤ (m.1 0 4).toInt ∧ (m.1 0 4).toInt ≤ 3) : (F_X8_isWalker 0 a m).toInt = 0 ↔ ¬ (0 ≤ a.toInt ∧ a.toInt < (m.1 0 4).toInt) := by
  have e : (m.1 0 4 - 1).toInt = (m.1 0 4).toInt - 1 := sbI rfl rfl (by omega) (by omega)
  simp only [F_X8_isWalker, xl_d]
  rw [inI m (lo := 0) (hi := (m.1 0 4).toInt - 1) rfl (by rw [i64_of, e])]
  omega
theorem isAmM {a : Int32} {m : St} (h : 0 ≤ (m.1 0 3).toInt ∧ (m.1 0 3).toInt ≤ 5) : (F_X8_isAim 0 a m).toInt = 0 ↔ ¬ (a.toInt = 5 ∨ a.toInt = 6 ∨ (0 ≤ a.toInt ∧ a.toInt < (m.1 0 3).toInt)) := by
  have c1 : (1 : Int32).toInt = 1 := rfl
  have c0 : (0 : Int32).toInt = 0 := rfl
  have h1 := isStM (a := a) h
  have h2 := inI (x := a) (b := 5) (c := 6) (lo := 5) (hi := 6) m rfl rfl
  simp only [F_X8_isAim, xl_d]
  repeat' split
  all_goals omega
theorem isHrM {a : Int32} {m : St} : (F_X8_isHour a m).toInt = 0 ↔ ¬ (0 ≤ a.toInt ∧ a.toInt ≤ 9) := by
  simp only [F_X8_isHour, xl_d]
  exact inI m rfl rfl
theorem isPtM {a : Int32} {m : St} : (F_X8_isPart a m).toInt = 0 ↔ ¬ (0 ≤ a.toInt ∧ a.toInt ≤ 1) := by
  simp only [F_X8_isPart, xl_d]
  exact inI m rfl rfl
theorem isHrC {a : Int32} {c : St} : (F_X7_isHour a c).toInt = 0 ↔ ¬ (0 ≤ a.toInt ∧ a.toInt ≤ 9) := by
  have c1 : (1 : Int32).toInt = 1 := rfl
  have c0 : (0 : Int32).toInt = 0 := rfl
  simp only [F_X7_isHour]
  repeat' split
  all_goals omega
theorem isShC {a : Int32} {c : St} : (F_X7_isSheet a c).toInt = 0 ↔ ¬ (0 ≤ a.toInt ∧ a.toInt ≤ 3) := by
  have c1 : (1 : Int32).toInt = 1 := rfl
  have c0 : (0 : Int32).toInt = 0 := rfl
  simp only [F_X7_isSheet]
  repeat' split
  all_goals omega
theorem isLaC {a : Int32} {c : St} : (F_X7_isLane a c).toInt = 0 ↔ ¬ (0 ≤ a.toInt ∧ a.toInt ≤ 2) := by
  have c1 : (1 : Int32).toInt = 1 := rfl
  have c0 : (0 : Int32).toInt = 0 := rfl
  simp only [F_X7_isLane]
  repeat' split
  all_goals omega
theorem isZoC {a : Int32} {c : St} : (F_X7_isZeroOrOne a c).toInt = 0 ↔ ¬ (0 ≤ a.toInt ∧ a.toInt ≤ 1) := by
  have c1 : (1 : Int32).toInt = 1 := rfl
  have c0 : (0 : Int32).toInt = 0 := rfl
  simp only [F_X7_isZeroOrOne]
  repeat' split
  all_goals omega
theorem isShM {a b : Int32} {m : St} : (F_X8_isSheet a b m).toInt = 0 ↔ ¬ ((0 ≤ a.toInt ∧ a.toInt ≤ 3) ∧ (0 ≤ b.toInt ∧ b.toInt ≤ 2)) := by
  have c1 : (1 : Int32).toInt = 1 := rfl
  have c0 : (0 : Int32).toInt = 0 := rfl
  have h1 := inI (x := a) (b := 0) (c := 3) (lo := 0) (hi := 3) m rfl rfl
  have h2 := inI (x := b) (b := 0) (c := 2) (lo := 0) (hi := 2) m rfl rfl
  simp only [F_X8_isSheet, xl_d]
  repeat' split
  all_goals omega
/-- one of two -/
theorem b01i {x : Int32} (h : x.toInt = 0 ∨ x.toInt = 1) : (if x.toInt = 0 then (0 : Int32) else 1) = x := by
  rcases h with h | h
  · rw [if_pos h]; exact Int32.toInt_inj.mp (by rw [h]; rfl)
  · rw [if_neg (by omega)]; exact Int32.toInt_inj.mp (by rw [h]; rfl)
theorem bit_1 (x : Int32) : (if (x &&& 1).toInt = 1 then (1 : Int32) else 0) = x &&& 1 := by
  rcases bit01 x with h | h
  · rw [if_neg (by omega)]; exact Int32.toInt_inj.mp (by rw [h]; rfl)
  · rw [if_pos h]; exact Int32.toInt_inj.mp (by rw [h]; rfl)
theorem onKn (k : Nat) (a : Int32) (v w : St) : F_X7_oneIf (F_X0_isKnown k a v) w = (v.1 k 4 >>> (a &&& 31)) &&& 1 := by
  simp only [F_X7_oneIf, F_X0_isKnown, xl_d]
  rw [bit_1]
  exact b01i (bit01 _)
theorem onCl (k : Nat) (a : Int32) (v w : St) : F_X7_oneIf (F_X0_isCloudy k a v) w = (v.1 k 11 >>> (a &&& 31)) &&& 1 := by
  simp only [F_X7_oneIf, F_X0_isCloudy, xl_d]
  rw [bit_1]
  exact b01i (bit01 _)
/-! groups -/
theorem Na.fr {k : Nat} {c m c2 m2 : St} (h : Na k c m) (h1 : c2.1 k 3 = c.1 k 3) (h2 : c2.1 k 6 = c.1 k 6) (h3 : m2.1 0 3 = m.1 0 3) (h4 : m2.1 0 4 = m.1 0 4) : Na k c2 m2 := by
  unfold Na at h ⊢
  rw [h1, h2, h3, h4]; exact h
theorem Nf.fr {k o : Nat} {c m c2 m2 : St} (h : Nf k o c m) (h1 : ∀ j : Nat, 7 ≤ j → j ≤ 11 → c2.1 k j = c.1 k j) (h2 : ∀ j : Nat, j < 4 → c2.1 (k + 5) j = c.1 (k + 5) j) (h4 : m2.1 0 4 = m.1 0 4) (hm : ∀ b : Nat, 23 ≤ b → b ≤ 31 → m2.1 1 (o + b) = m.1 1 (o + b)) : Nf k o c2 m2 := by
  unfold Nf at h ⊢
  rw [h1 7 (by omega) (by omega), h1 8 (by omega) (by omega), h1 9 (by omega) (by omega), h1 10 (by omega) (by omega), h1 11 (by omega) (by omega), h2 0 (by omega), h2 1 (by omega), h2 2 (by omega), h2 3 (by omega), h4, hm 23 (by omega) (by omega), hm 24 (by omega) (by omega), hm 25 (by omega) (by omega), hm 26 (by omega) (by omega), hm 27 (by omega) (by omega), hm 28 (by omega) (by omega), hm 29 (by omega) (by omega), hm 30 (by omega) (by omega), hm 31 (by omega) (by omega)]
  exact h
theorem Ns.fr {k o : Nat} {c m c2 m2 : St} (h : Ns k o c m) (h1 : c2.1 k 4 = c.1 k 4) (h2 : ∀ j : Nat, c2.1 (k + 1) j = c.1 (k + 1) j ∧ c2.1 (k + 2) j = c.1 (k + 2) j ∧ c2.1 (k + 3) j = c.1 (k + 3) j) (h3 : m2.1 0 3 = m.1 0 3) (h5 : (m.1 0 3).toInt ≤ 5) (hm : ∀ b : Nat, o ≤ b → b < o + 20 → m2.1 1 b = m.1 1 b) : Ns k o c2 m2 := by
  unfold Ns at h ⊢
  rw [h1, h3]
  refine ⟨h.1, fun i hi => ?_⟩
  rw [(h2 i).1, (h2 i).2.1, (h2 i).2.2, hm _ (by omega) (by omega), hm _ (by omega) (by omega), hm _ (by omega) (by omega), hm _ (by omega) (by omega)]
  exact h.2 i hi
theorem Nw.fr {k o : Nat} {c m c2 m2 : St} (h : Nw k o c m) (h2 : ∀ j : Nat, c2.1 (k + 4) j = c.1 (k + 4) j) (h4 : m2.1 0 4 = m.1 0 4) (h5 : (m.1 0 4).toInt ≤ 3) (hm : ∀ b : Nat, o + 20 ≤ b → b < o + 23 → m2.1 1 b = m.1 1 b) : Nw k o c2 m2 := by
  unfold Nw at h ⊢
  rw [h4]
  intro i hi
  rw [h2, hm _ (by omega) (by omega)]
  exact h i hi
theorem Np.fr {k o : Nat} {c m c2 m2 : St} (h : Np k o c m) (h1 : c2.1 k 14 = c.1 k 14) (h2 : ∀ j : Nat, c2.1 (k + 6) j = c.1 (k + 6) j) (h3 : m2.1 0 3 = m.1 0 3) (hm : ∀ b : Nat, o + 32 ≤ b → b < o + 41 → m2.1 1 b = m.1 1 b) : Np k o c2 m2 := by
  unfold Np at h ⊢
  have h8 := h.1.2.2
  rw [h1, h3, hm (o + 32) (by omega) (by omega)]
  refine ⟨h.1, fun i hi => ?_⟩
  rw [h2, hm _ (by omega) (by omega)]
  exact h.2 i hi
theorem Nq.fr {k o : Nat} {c m c2 m2 : St} (h : Nq k o c m) (h1 : c2.1 k 17 = c.1 k 17) (h2 : ∀ j : Nat, c2.1 (k + 7) j = c.1 (k + 7) j ∧ c2.1 (k + 8) j = c.1 (k + 8) j) (hm : ∀ b : Nat, o + 41 ≤ b → b < o + 54 → m2.1 1 b = m.1 1 b) : Nq k o c2 m2 := by
  unfold Nq at h ⊢
  have h8 := h.1.2.2
  rw [h1, hm (o + 41) (by omega) (by omega)]
  refine ⟨h.1, fun i hi => ?_⟩
  rw [(h2 i).1, (h2 i).2, hm _ (by omega) (by omega), hm _ (by omega) (by omega)]
  exact h.2 i hi
theorem Sim.now {c m c2 m2 : St} (h : Sim c m) (hc : ∀ a b : Nat, ((63 ≤ a ∧ a < 91) ∨ a = 2 ∨ (a = 1 ∧ b = 1) ∨ (a = 0 ∧ b = 10)) → c2.1 a b = c.1 a b) (hm : ∀ a b : Nat, ((a = 1 ∧ 54 ≤ b) ∨ a = 3 ∨ (5 ≤ a ∧ a < 9) ∨ (a = 0 ∧ (b = 3 ∨ b = 4 ∨ b = 12 ∨ b = 29))) → m2.1 a b = m.1 a b) (hn : NR 12 0 c2 m2) : Sim c2 m2 :=
  ⟨hn, h.2.1.fr (hm _ _ (by omega)) (hm _ _ (by omega)) (fun b _ => hm _ _ (by omega)) (fun b => hm _ _ (by omega)) (fun a b _ _ => hc _ _ (by omega)), h.2.2.1.fr (hc _ _ (by omega)) (fun b => hc _ _ (by omega)) (hm _ _ (by omega)) (fun b => hm _ _ (by omega)), h.2.2.2.1.fr (fun a b _ _ => hc _ _ (by omega)) (fun a b _ => hm _ _ (by omega)), by rw [hc 0 10 (by omega), hm 0 29 (by omega)]; exact h.2.2.2.2⟩
theorem nm_ {m : St} {b : Nat} {y : Int32} : ∀ a j : Nat, (a ≠ 1 ∨ j ≠ b) → (up1 m 1 b y).1 a j = m.1 a j := fun _ _ z => up1_n _ _ z
theorem nc_ {c : St} {k j : Nat} {x : Int32} : ∀ a b : Nat, (a ≠ k ∨ b ≠ j) → (up1 c k j x).1 a b = c.1 a b := fun _ _ z => up1_n _ _ z
