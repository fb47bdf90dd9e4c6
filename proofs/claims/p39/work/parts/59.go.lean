/-! go, read -/
theorem stM1 (m : St) : (∀ b : Nat, b < 54 → (F_X8_starts 0 m).1 2 b = m.1 1 b) ∧ ∀ a b : Nat, a ≠ 2 → (F_X8_starts 0 m).1 a b = m.1 a b := by
  have c0 : (0 : Int32).toInt = 0 := rfl
  generalize hu : F_X8_starts 0 m = u
  unfold F_X8_starts at hu
  obtain ⟨N, hN⟩ : ∃ N : Nat, N = (2147483647 - (0 : Int32).toInt).toNat := ⟨_, rfl⟩
  rw [← hN] at hu
  obtain ⟨P, eP, hu⟩ := xl_e hu
  have Lp : ∀ (n : Nat) (y : Int32) (x : St), (2147483647 - y.toInt).toNat < n → 0 ≤ y.toInt → y.toInt ≤ 54 → (∀ b : Nat, (b : Int) < y.toInt → x.1 2 b = m.1 1 b) → (∀ a b : Nat, a ≠ 2 → x.1 a b = m.1 a b) → (∀ b : Nat, b < 54 → (lp P (fun _ _ => m) n y x).1 2 b = m.1 1 b) ∧ ∀ a b : Nat, a ≠ 2 → (lp P (fun _ _ => m) n y x).1 a b = m.1 a b := by
    intro n
    induction n with
    | zero => intro y x hm; exact absurd hm (Nat.not_lt_zero _)
    | succ n ih =>
      intro y x hm h0 h1 hz hf
      rw [lp_s]
      by_cases d : y.toInt < 54
      · have ey : (y + 1).toInt = y.toInt + 1 := adI rfl rfl (by omega) (by omega)
        have hcn := cnI (x := y) h0
        have ep : P (lp P (fun _ _ => m) n) y x = lp P (fun _ _ => m) n (y + 1) (up1 x 2 y.toNatClampNeg (m.1 1 y.toNatClampNeg)) := by
          generalize lp P (fun _ _ => m) n = sf
          rw [eP]
          simp only [xl_d, Nat.reduceAdd]
          rw [if_pos d, hf 1 _ (by omega)]
        rw [ep]
        refine ih (y + 1) _ (by omega) (by omega) (by omega) (fun b hb => ?_) (fun a b z => by rw [up1_n _ _ (by omega)]; exact hf a b z)
        by_cases e : b = y.toNatClampNeg
        · rw [e, up1_s]
        · rw [up1_n _ _ (by omega)]; exact hz b (by omega)
      · generalize lp P (fun _ _ => m) n = sf
        have ep : P sf y x = x := by
          rw [eP]
          simp only [xl_d, Nat.reduceAdd]
          rw [if_neg d]
        rw [ep]
        exact ⟨fun b hb => hz b (by omega), hf⟩
  rw [← hu]
  exact Lp (N + 1) 0 m (by rw [← hN]; exact Nat.lt_succ_self N) (by omega) (by omega) (fun j hj => by omega) (fun _ _ _ => rfl)
theorem seM1 (m : St) : (∀ b : Nat, b < 54 → (F_X8_settles 0 m).1 1 b = m.1 2 b) ∧ ∀ a b : Nat, (a ≠ 1 ∨ 54 ≤ b) → (F_X8_settles 0 m).1 a b = m.1 a b := by
  have c0 : (0 : Int32).toInt = 0 := rfl
  generalize hu : F_X8_settles 0 m = u
  unfold F_X8_settles at hu
  obtain ⟨N, hN⟩ : ∃ N : Nat, N = (2147483647 - (0 : Int32).toInt).toNat := ⟨_, rfl⟩
  rw [← hN] at hu
  obtain ⟨P, eP, hu⟩ := xl_e hu
  have Lp : ∀ (n : Nat) (y : Int32) (x : St), (2147483647 - y.toInt).toNat < n → 0 ≤ y.toInt → y.toInt ≤ 54 → (∀ b : Nat, (b : Int) < y.toInt → x.1 1 b = m.1 2 b) → (∀ a b : Nat, (a ≠ 1 ∨ 54 ≤ b) → x.1 a b = m.1 a b) → (∀ b : Nat, b < 54 → (lp P (fun _ _ => m) n y x).1 1 b = m.1 2 b) ∧ ∀ a b : Nat, (a ≠ 1 ∨ 54 ≤ b) → (lp P (fun _ _ => m) n y x).1 a b = m.1 a b := by
    intro n
    induction n with
    | zero => intro y x hm; exact absurd hm (Nat.not_lt_zero _)
    | succ n ih =>
      intro y x hm h0 h1 hz hf
      rw [lp_s]
      by_cases d : y.toInt < 54
      · have ey : (y + 1).toInt = y.toInt + 1 := adI rfl rfl (by omega) (by omega)
        have hcn := cnI (x := y) h0
        have ep : P (lp P (fun _ _ => m) n) y x = lp P (fun _ _ => m) n (y + 1) (up1 x 1 y.toNatClampNeg (m.1 2 y.toNatClampNeg)) := by
          generalize lp P (fun _ _ => m) n = sf
          rw [eP]
          simp only [xl_d, Nat.reduceAdd]
          rw [if_pos d, hf 2 _ (by omega)]
        rw [ep]
        refine ih (y + 1) _ (by omega) (by omega) (by omega) (fun b hb => ?_) (fun a b z => by rw [up1_n _ _ (by omega)]; exact hf a b z)
        by_cases e : b = y.toNatClampNeg
        · rw [e, up1_s]
        · rw [up1_n _ _ (by omega)]; exact hz b (by omega)
      · generalize lp P (fun _ _ => m) n = sf
        have ep : P sf y x = x := by
          rw [eP]
          simp only [xl_d, Nat.reduceAdd]
          rw [if_neg d]
        rw [ep]
        exact ⟨fun b hb => hz b (by omega), hf⟩
  rw [← hu]
  exact Lp (N + 1) 0 m (by rw [← hN]; exact Nat.lt_succ_self N) (by omega) (by omega) (fun j hj => by omega) (fun _ _ _ => rfl)
/-- the row `at` as it begins; the place may lie elsewhere -/
theorem NR.at {k p : Nat} {c m u : St} (h : NR k 0 c m) (hu : ∀ b : Nat, b < 54 → u.1 2 b = m.1 1 b) (h3 : u.1 0 3 = m.1 0 3) (h4 : u.1 0 4 = m.1 0 4) (hp : ∀ j : Nat, j < 4 → c.1 p j = c.1 (k + 5) j) : AtR k p c u := by
  obtain ⟨⟨a1, a2⟩, ⟨f1, f2, f3, f4, f5, f6, f7, f8, f9⟩, ⟨s1, s2⟩, w, -, -⟩ := h
  simp only [Nat.zero_add] at f1 f2 f3 f4 f5 f6 f7 f8 f9 s2 w
  refine ⟨⟨by rw [h3]; exact a1, by rw [h4]; exact a2⟩, ⟨by rw [h4, hu 23 (by omega)]; exact f1, by rw [hu 26 (by omega)]; exact f4, by rw [hu 28 (by omega)]; exact f6⟩, fun i hi => ?_, fun i hi => ?_, ⟨by rw [hp 3 (by omega), hu 27 (by omega)]; exact f5, by rw [hp 0 (by omega), hu 29 (by omega)]; exact f7, by rw [hp 1 (by omega), hu 30 (by omega), hu 29 (by omega)]; exact f8, by rw [hp 2 (by omega), hu 31 (by omega), hu 29 (by omega)]; exact f9⟩⟩
  · rw [h3] at hi
    rw [hu (4 * i) (by omega), hu (4 * i + 1) (by omega), hu (4 * i + 2) (by omega), hu (4 * i + 3) (by omega)]
    exact s2 i hi
  · rw [h4] at hi
    rw [hu (20 + i) (by omega)]
    exact w i hi
/-- and as it ends -/
theorem NR.to {c m c2 m2 w : St} {p : Nat} (h : NR 12 0 c m) (hA : AtR 12 p c2 m2) (hc : ∀ a b : Nat, 12 ≤ a → a < 21 → a ≠ 17 → w.1 a b = c.1 a b) (hcp : ∀ j : Nat, j < 4 → w.1 17 j = c2.1 p j) {x : St} (hx : ∀ b : Nat, b < 54 → b ≠ 27 → b ≠ 29 → b ≠ 30 → b ≠ 31 → x.1 1 b = m.1 1 b) (h27 : x.1 1 27 = m2.1 2 27 ∧ x.1 1 29 = m2.1 2 29 ∧ x.1 1 30 = m2.1 2 30 ∧ x.1 1 31 = m2.1 2 31) (h3 : x.1 0 3 = m.1 0 3) (h4 : x.1 0 4 = m.1 0 4) : NR 12 0 w x := by
  obtain ⟨⟨a1, a2⟩, ⟨f1, f2, f3, f4, f5, f6, f7, f8, f9⟩, s, wk, pl, q⟩ := h
  obtain ⟨-, -, -, -, ⟨q1, q2, q3, q4⟩⟩ := hA
  have x5 := a1.2.2
  refine ⟨⟨by rw [hc 12 3 (by omega) (by omega) (by omega), h3]; exact a1, by rw [hc 12 6 (by omega) (by omega) (by omega), h4]; exact a2⟩, ⟨?_, ?_, ?_, ?_, ?_, ?_, ?_, ?_, ?_⟩, ?_, ?_, ?_, ?_⟩
  · rw [hc 12 7 (by omega) (by omega) (by omega), h4, hx (0 + 23) (by omega) (by omega) (by omega) (by omega) (by omega)]; exact f1
  · rw [hc 12 8 (by omega) (by omega) (by omega), hx (0 + 24) (by omega) (by omega) (by omega) (by omega) (by omega)]; exact f2
  · rw [hc 12 9 (by omega) (by omega) (by omega), hx (0 + 25) (by omega) (by omega) (by omega) (by omega) (by omega)]; exact f3
  · rw [hc 12 10 (by omega) (by omega) (by omega), hx (0 + 26) (by omega) (by omega) (by omega) (by omega) (by omega)]; exact f4
  · simp only [Nat.zero_add, Nat.reduceAdd]
    rw [hcp 3 (by omega), h27.1]; exact q1
  · rw [hc 12 11 (by omega) (by omega) (by omega), hx (0 + 28) (by omega) (by omega) (by omega) (by omega) (by omega)]; exact f6
  · simp only [Nat.zero_add, Nat.reduceAdd]
    rw [hcp 0 (by omega), h27.2.1]; exact q2
  · simp only [Nat.zero_add, Nat.reduceAdd]
    rw [hcp 1 (by omega), h27.2.2.1, h27.2.1]; exact q3
  · simp only [Nat.zero_add, Nat.reduceAdd]
    rw [hcp 2 (by omega), h27.2.2.2, h27.2.1]; exact q4
  · exact s.fr (hc _ _ (by omega) (by omega) (by omega)) (fun j => ⟨hc _ _ (by omega) (by omega) (by omega), hc _ _ (by omega) (by omega) (by omega), hc _ _ (by omega) (by omega) (by omega)⟩) h3 x5 (fun b _ _ => hx _ (by omega) (by omega) (by omega) (by omega) (by omega))
  · exact wk.fr (fun j => hc _ _ (by omega) (by omega) (by omega)) h4 a2.2.2 (fun b _ _ => hx _ (by omega) (by omega) (by omega) (by omega) (by omega))
  · exact pl.fr (hc _ _ (by omega) (by omega) (by omega)) (fun j => hc _ _ (by omega) (by omega) (by omega)) h3 (fun b _ _ => hx _ (by omega) (by omega) (by omega) (by omega) (by omega))
  · exact q.fr (hc _ _ (by omega) (by omega) (by omega)) (fun j => ⟨hc _ _ (by omega) (by omega) (by omega), hc _ _ (by omega) (by omega) (by omega)⟩) (fun b _ _ => hx _ (by omega) (by omega) (by omega) (by omega) (by omega))
theorem sim_go {c m : St} {r r2 : Int32} {u w : St} {a0 : Int32} (h : Sim c m) (hC : (r, u) = F_X7_go 0 a0 c) (hM : (r2, w) = F_X8_go 0 a0 m) : r = r2 ∧ Sim u w := by
  have g := h.1
  have c0 : (0 : Int32).toInt = 0 := rfl
  have c1 : (1 : Int32).toInt = 1 := rfl
  have hs := hasAm 12 a0 c
  rw [g.1.1.1] at hs
  have hm := isAmM (a := a0) g.1.1.2
  simp only [F_X7_go, xl_d, xm_d, Nat.reduceAdd] at hC
  simp only [F_X8_go, xl_d, xm_d, Nat.reduceAdd, cn30] at hM
  by_cases p : a0.toInt = 5 ∨ a0.toInt = 6 ∨ (0 ≤ a0.toInt ∧ a0.toInt < (m.1 0 3).toInt)
  · rw [if_neg (fun z => hs.mp z p)] at hC
    rw [if_neg (fun z => hm.mp z p)] at hM
    have hst := stM1 m
    generalize F_X8_starts 0 m = ms at hst hM
    have hA : AtR 12 17 c ms := g.at hst.1 (hst.2 0 3 (by omega)) (hst.2 0 4 (by omega)) (fun j _ => rfl)
    have hS := hA.step (by omega) (a := a0) (by rw [hst.2 0 3 (by omega)]; exact p)
    generalize F_X0_step 12 17 a0 c = S at hS hC
    generalize F_X8_steps 0 a0 ms = T at hS hM
    obtain ⟨e1, hA2, fC, fM, hb⟩ := hS
    rw [e1] at hC
    rcases hb with ⟨-, t1, -⟩ | ⟨-, t1, t2, s2⟩
    · rw [t1, if_neg (by decide)] at hC hM
      have hse := seM1 T.2
      generalize F_X8_settles 0 T.2 = X at hse hM
      obtain ⟨hr, hu⟩ := Prod.mk.inj hC
      obtain ⟨hr2, hw⟩ := Prod.mk.inj hM
      rw [hr, hr2, hu, hw, hse.1 30 (by omega)]
      refine ⟨hA2.2.2.2.2.2.2.1.1, ?_⟩
      have hx : ∀ a b : Nat, (a ≠ 1 ∨ 54 ≤ b) → (a ≠ 2 ∧ (a ≠ 0 ∨ b ≠ 19)) → X.1 a b = m.1 a b := fun a b z1 z2 => by rw [hse.2 a b z1, fM a b (by omega), hst.2 a b (by omega)]
      refine h.now (fun a b z => fC a b (by omega)) (fun a b z => hx a b (by omega) (by omega)) ?_
      refine g.to hA2 (fun a b z1 z2 z3 => fC a b (by omega)) (fun j _ => rfl) (fun b hb n1 n2 n3 n4 => ?_) ⟨hse.1 27 (by omega), hse.1 29 (by omega), hse.1 30 (by omega), hse.1 31 (by omega)⟩ (hx 0 3 (by omega) (by omega)) (hx 0 4 (by omega) (by omega))
      rw [hse.1 b hb, fM 2 b (by omega), hst.1 b hb]
    · rw [t1, if_pos c0] at hC hM
      obtain ⟨hr, hu⟩ := Prod.mk.inj hC
      obtain ⟨hr2, hw⟩ := Prod.mk.inj hM
      rw [hr, hr2, hu, hw, t2, s2]
      exact ⟨rfl, h.fr (fun _ _ _ => rfl) (fun a b z => hst.2 a b (by omega))⟩
  · rw [if_pos (hs.mpr p)] at hC
    rw [if_pos (hm.mpr p)] at hM
    exact ⟨by rw [(Prod.mk.inj hC).1, (Prod.mk.inj hM).1], by rw [(Prod.mk.inj hC).2, (Prod.mk.inj hM).2]; exact h⟩
