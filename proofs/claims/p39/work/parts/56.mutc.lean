/-! images -/
theorem cpM {a b : Int32} {o p : Nat} (m : St) (ha : a.toInt = (o : Int)) (hb : b.toInt = (p : Int)) (h : o + 54 ≤ p ∨ p + 54 ≤ o) (ho : o ≤ 108) (hp : p ≤ 108) : (∀ j : Nat, j < 54 → (F_X8_copies 0 a b m).1 1 (o + j) = m.1 1 (p + j)) ∧ ∀ x y : Nat, (x ≠ 1 ∨ y < o ∨ o + 54 ≤ y) → (F_X8_copies 0 a b m).1 x y = m.1 x y := by
  have c0 : (0 : Int32).toInt = 0 := rfl
  generalize hu : F_X8_copies 0 a b m = u
  unfold F_X8_copies at hu
  obtain ⟨N, hN⟩ : ∃ N : Nat, N = (2147483647 - (0 : Int32).toInt).toNat := ⟨_, rfl⟩
  rw [← hN] at hu
  obtain ⟨P2, e2, hu⟩ := xl_e hu
  have Lp : ∀ (n : Nat) (y : Int32) (x : St), (2147483647 - y.toInt).toNat < n → 0 ≤ y.toInt → y.toInt ≤ 54 → (∀ j : Nat, (j : Int) < y.toInt → x.1 1 (o + j) = m.1 1 (p + j)) → (∀ s t : Nat, (s ≠ 1 ∨ t < o ∨ o + 54 ≤ t) → x.1 s t = m.1 s t) → (∀ j : Nat, j < 54 → (lp P2 (fun _ _ => m) n y x).1 1 (o + j) = m.1 1 (p + j)) ∧ ∀ s t : Nat, (s ≠ 1 ∨ t < o ∨ o + 54 ≤ t) → (lp P2 (fun _ _ => m) n y x).1 s t = m.1 s t := by
    intro n
    induction n with
    | zero => intro y x hm; exact absurd hm (Nat.not_lt_zero _)
    | succ n ih =>
      intro y x hm h0 h1 hz hf
      rw [lp_s]
      by_cases d : y.toInt < 54
      · have ey : (y + 1).toInt = y.toInt + 1 := adI rfl rfl (by omega) (by omega)
        have hcn := cnI (x := y) h0
        have ea : (a + y).toInt = (o : Int) + y.toInt := adI ha rfl (by omega) (by omega)
        have eb : (b + y).toInt = (p : Int) + y.toInt := adI hb rfl (by omega) (by omega)
        have na := cnI (x := a + y) (by omega)
        have nb := cnI (x := b + y) (by omega)
        have ep : P2 (lp P2 (fun _ _ => m) n) y x = lp P2 (fun _ _ => m) n (y + 1) (up1 x 1 (o + y.toNatClampNeg) (m.1 1 (p + y.toNatClampNeg))) := by
          generalize lp P2 (fun _ _ => m) n = sf
          rw [e2]
          simp only [xl_d, Nat.reduceAdd]
          rw [if_pos d, show (a + y).toNatClampNeg = o + y.toNatClampNeg by omega, show (b + y).toNatClampNeg = p + y.toNatClampNeg by omega, hf 1 (p + y.toNatClampNeg) (by omega)]
        rw [ep]
        refine ih (y + 1) _ (by omega) (by omega) (by omega) (fun j hj => ?_) (fun s t z => by rw [up1_n _ _ (by omega)]; exact hf s t z)
        by_cases e : j = y.toNatClampNeg
        · rw [e, up1_s]
        · rw [up1_n _ _ (by omega)]; exact hz j (by omega)
      · generalize lp P2 (fun _ _ => m) n = sf
        have ep : P2 sf y x = x := by
          rw [e2]
          simp only [xl_d, Nat.reduceAdd]
          rw [if_neg d]
        rw [ep]
        exact ⟨fun j hj => hz j (by omega), hf⟩
  rw [← hu]
  exact Lp (N + 1) 0 m (by rw [← hN]; exact Nat.lt_succ_self N) (by omega) (by omega) (fun j hj => by omega) (fun _ _ _ => rfl)
theorem sim_keep {c m : St} {r r2 : Int32} {u w : St} {a0 : Int32} (h : Sim c m) (hC : (r, u) = F_X7_keep 0 a0 c) (hM : (r2, w) = F_X8_keep 0 a0 m) : r = r2 ∧ Sim u w := by
  have g := h.1
  have hi := inI (x := a0) (b := 0) (c := 1) (lo := 0) (hi := 1) m rfl rfl
  have c1 : (1 : Int32).toInt = 1 := rfl
  have c0 : (0 : Int32).toInt = 0 := rfl
  simp only [F_X7_keep, F_X7_oneIf, xl_d, Nat.reduceAdd, nb1] at hC
  simp only [F_X8_keep, F_X8_flag, xl_d, Nat.reduceAdd, nb1] at hM
  by_cases p : 0 ≤ a0.toInt ∧ a0.toInt ≤ 1
  · rw [if_neg (by omega), if_pos (by omega)] at hC
    rw [if_neg (fun z => hi.mp z p)] at hM
    have n0 := cnI (x := a0) (by omega)
    have im := h.2.1 a0.toNatClampNeg (by omega)
    have e1 : (a0 + 1).toInt = a0.toInt + 1 := adI rfl rfl (by omega) (by omega)
    have e2 : ((54 : Int32) * (a0 + 1)).toInt = 54 * (a0.toInt + 1) := mlI rfl e1 (by omega) (by omega)
    have be := beN (62 + (3 + 9 * a0.toNatClampNeg)) 12 (by omega) c
    have cp := cpM (a := (54 : Int32) * (a0 + 1)) (b := 0) (o := 54 * (a0.toNatClampNeg + 1)) (p := 0) (up1 m 3 a0.toNatClampNeg 1) (by omega) rfl (by omega) (by omega) (by omega)
    generalize F_X0_become (62 + (3 + 9 * a0.toNatClampNeg)) 12 c = u7 at be hC
    generalize F_X8_copies 0 ((54 : Int32) * (a0 + 1)) 0 (up1 m 3 a0.toNatClampNeg 1) = u16 at cp hM
    obtain ⟨be1, be2, be3, be4, be5, be6, be7⟩ := be
    obtain ⟨cp1, cp2⟩ := cp
    obtain ⟨hr, hu⟩ := Prod.mk.inj hC
    obtain ⟨hr2, hw⟩ := Prod.mk.inj hM
    have nu : ∀ a b : Nat, (a ≠ 63 ∨ b ≠ a0.toNatClampNeg) → u.1 a b = u7.1 a b := fun a b z => by rw [hu, up1_n _ _ (by omega)]
    have fc : ∀ a b : Nat, (a < 62 + (3 + 9 * a0.toNatClampNeg) ∨ 62 + (3 + 9 * a0.toNatClampNeg) + 9 ≤ a) → (a ≠ 63 ∨ b ≠ a0.toNatClampNeg) → u.1 a b = c.1 a b := fun a b z1 z2 => by rw [nu a b z2, be7 a b z1]
    have fm : ∀ a b : Nat, (a ≠ 1 ∨ b < 54 * (a0.toNatClampNeg + 1) ∨ 54 * (a0.toNatClampNeg + 1) + 54 ≤ b) → (a ≠ 3 ∨ b ≠ a0.toNatClampNeg) → w.1 a b = m.1 a b := fun a b z1 z2 => by rw [hw, cp2 a b z1, up1_n _ _ (by omega)]
    have w1 : ∀ j : Nat, j < 54 → w.1 1 (54 * (a0.toNatClampNeg + 1) + j) = m.1 1 (0 + j) := fun j hj => by rw [hw, cp1 j hj, up1_n _ _ (by omega)]
    have w3 : w.1 3 a0.toNatClampNeg = 1 := by rw [hw, cp2 3 _ (by omega), up1_s]
    have u63 : u.1 63 a0.toNatClampNeg = 1 := by rw [hu, up1_s]
    refine ⟨by rw [hr, hr2, im.1], ?_, ?_, ?_, ?_, ?_⟩
    · exact g.fr (fm _ _ (by omega) (by omega)) (fm _ _ (by omega) (by omega)) (fun b _ _ => fm _ _ (by omega) (by omega)) (fun a b _ _ => fc _ _ (by omega) (by omega))
    · intro i hi2
      by_cases e : i = a0.toNatClampNeg
      · subst e
        rw [u63, w3]
        refine ⟨rfl, Or.inr c1, fun _ => ?_⟩
        have ek : 62 + (3 + 9 * a0.toNatClampNeg) = 65 + 9 * a0.toNatClampNeg := by omega
        rw [ek] at be1 be2 be3 be4 be5 be6
        exact g.mv (fm _ _ (by omega) (by omega)) (fm _ _ (by omega) (by omega)) w1 (fun j z => by rw [nu _ _ (by omega)]; exact be1 j z) (fun j z => by rw [nu _ _ (by omega)]; exact be2 j z) (fun j z => by rw [nu _ _ (by omega), nu _ _ (by omega), nu _ _ (by omega)]; exact be3 j z) (fun j z => by rw [nu _ _ (by omega)]; exact be4 j z) (fun j z => by rw [nu _ _ (by omega)]; exact be5 j z) (fun j z => by rw [nu _ _ (by omega), nu _ _ (by omega)]; exact be6 j z)
      · have im2 := h.2.1 i hi2
        rw [fc 63 i (by omega) (by omega), fm 3 i (by omega) (by omega)]
        exact ⟨im2.1, im2.2.1, fun z => (im2.2.2 z).fr (fm _ _ (by omega) (by omega)) (fm _ _ (by omega) (by omega)) (fun b _ _ => fm _ _ (by omega) (by omega)) (fun a b _ _ => fc _ _ (by omega) (by omega))⟩
    · exact h.2.2.1.fr (fc _ _ (by omega) (by omega)) (fun b => fc _ _ (by omega) (by omega)) (fm _ _ (by omega) (by omega)) (fun b => fm _ _ (by omega) (by omega))
    · exact h.2.2.2.1.fr (fun a b _ _ => fc _ _ (by omega) (by omega)) (fun a b _ => fm _ _ (by omega) (by omega))
    · rw [fc 0 10 (by omega) (by omega), fm 0 29 (by omega) (by omega)]; exact h.2.2.2.2
  · rw [if_pos (hi.mpr p)] at hM
    have hC : (r, u) = (-1, c) := by
      by_cases q1 : a0.toInt < 0
      · rw [if_pos q1] at hC; exact hC
      · rw [if_neg q1, if_neg (by omega)] at hC; exact hC
    exact ⟨by rw [(Prod.mk.inj hC).1, (Prod.mk.inj hM).1], by rw [(Prod.mk.inj hC).2, (Prod.mk.inj hM).2]; exact h⟩
theorem sim_back {c m : St} {r r2 : Int32} {u w : St} {a0 : Int32} (h : Sim c m) (hC : (r, u) = F_X7_back 0 a0 c) (hM : (r2, w) = F_X8_back 0 a0 m) : r = r2 ∧ Sim u w := by
  have g := h.1
  have hi := inI (x := a0) (b := 0) (c := 1) (lo := 0) (hi := 1) m rfl rfl
  have c1 : (1 : Int32).toInt = 1 := rfl
  have c0 : (0 : Int32).toInt = 0 := rfl
  simp only [F_X7_back, xl_d, Nat.reduceAdd] at hC
  simp only [F_X8_back, xl_d, Nat.reduceAdd, cn29] at hM
  by_cases p : 0 ≤ a0.toInt ∧ a0.toInt ≤ 1
  · rw [if_neg (by omega), if_pos (by omega)] at hC
    rw [if_neg (fun z => hi.mp z p)] at hM
    have n0 := cnI (x := a0) (by omega)
    have im := h.2.1 a0.toNatClampNeg (by omega)
    rw [im.1] at hC
    by_cases q : (m.1 3 a0.toNatClampNeg).toInt = 0
    · rw [if_pos q] at hC hM
      exact ⟨by rw [(Prod.mk.inj hC).1, (Prod.mk.inj hM).1], by rw [(Prod.mk.inj hC).2, (Prod.mk.inj hM).2]; exact h⟩
    · rw [if_neg q] at hC hM
      have gI := im.2.2 (by omega)
      have e1 : (a0 + 1).toInt = a0.toInt + 1 := adI rfl rfl (by omega) (by omega)
      have e2 : ((54 : Int32) * (a0 + 1)).toInt = 54 * (a0.toInt + 1) := mlI rfl e1 (by omega) (by omega)
      have be := beN 12 (62 + (3 + 9 * a0.toNatClampNeg)) (by omega) c
      have cp := cpM (a := 0) (b := (54 : Int32) * (a0 + 1)) (o := 0) (p := 54 * (a0.toNatClampNeg + 1)) m rfl (by omega) (by omega) (by omega) (by omega)
      generalize F_X0_become 12 (62 + (3 + 9 * a0.toNatClampNeg)) c = u7 at be hC
      generalize F_X8_copies 0 0 ((54 : Int32) * (a0 + 1)) m = u16 at cp hM
      obtain ⟨be1, be2, be3, be4, be5, be6, be7⟩ := be
      obtain ⟨cp1, cp2⟩ := cp
      obtain ⟨hr, hu⟩ := Prod.mk.inj hC
      obtain ⟨hr2, hw⟩ := Prod.mk.inj hM
      have ek : 62 + (3 + 9 * a0.toNatClampNeg) = 65 + 9 * a0.toNatClampNeg := by omega
      rw [ek] at be1 be2 be3 be4 be5 be6
      have nN : NR 12 0 u7 u16 := gI.mv (cp2 _ _ (by omega)) (cp2 _ _ (by omega)) cp1 be1 be2 be3 be4 be5 be6
      refine ⟨?_, ?_⟩
      · rw [hr, hr2]; exact nN.2.1.2.2.2.2.2.2.1.1
      · rw [hu, hw]
        exact h.now (fun a b z => be7 a b (by omega)) (fun a b z => cp2 a b (by omega)) nN
  · rw [if_pos (hi.mpr p)] at hM
    have hC : (r, u) = (-1, c) := by
      by_cases q1 : a0.toInt < 0
      · rw [if_pos q1] at hC; exact hC
      · rw [if_neg q1, if_neg (by omega)] at hC; exact hC
    exact ⟨by rw [(Prod.mk.inj hC).1, (Prod.mk.inj hM).1], by rw [(Prod.mk.inj hC).2, (Prod.mk.inj hM).2]; exact h⟩
/-! sheets -/
theorem Sim.shts {c m c2 m2 : St} (h : Sim c m) (hc : ∀ a b : Nat, (a < 83 ∨ 91 ≤ a) → c2.1 a b = c.1 a b) (hm : ∀ a b : Nat, (a < 6 ∨ 8 < a) → m2.1 a b = m.1 a b) (hs : Sh c2 m2) : Sim c2 m2 :=
  ⟨h.1.fr (hm _ _ (by omega)) (hm _ _ (by omega)) (fun b _ _ => hm _ _ (by omega)) (fun a b _ _ => hc _ _ (by omega)), h.2.1.fr (hm _ _ (by omega)) (hm _ _ (by omega)) (fun b _ => hm _ _ (by omega)) (fun b => hm _ _ (by omega)) (fun a b _ _ => hc _ _ (by omega)), h.2.2.1.fr (hc _ _ (by omega)) (fun b => hc _ _ (by omega)) (hm _ _ (by omega)) (fun b => hm _ _ (by omega)), hs, by rw [hc 0 10 (by omega), hm 0 29 (by omega)]; exact h.2.2.2.2⟩
theorem rnC (k : Nat) (a b : Int32) (c : St) : (F_X4_renew k a b c).1 k 0 = a ∧ (F_X4_renew k a b c).1 k 1 = b ∧ (∀ j : Nat, j < 40 → (F_X4_renew k a b c).1 (k + 1) j = 0) ∧ ∀ s t : Nat, (s ≠ k + 1 ∧ (s ≠ k ∨ 2 ≤ t)) → (F_X4_renew k a b c).1 s t = c.1 s t := by
  have c0 : (0 : Int32).toInt = 0 := rfl
  generalize hu : F_X4_renew k a b c = u
  unfold F_X4_renew at hu
  obtain ⟨N, hN⟩ : ∃ N : Nat, N = (2147483647 - (0 : Int32).toInt).toNat := ⟨_, rfl⟩
  rw [← hN] at hu
  obtain ⟨P, eP, hu⟩ := xl_e hu
  simp only [xl_d] at hu
  have Lp : ∀ (n : Nat) (y : Int32) (x : St), (2147483647 - y.toInt).toNat < n → 0 ≤ y.toInt → y.toInt ≤ 40 → (∀ j : Nat, (j : Int) < y.toInt → x.1 (k + 1) j = 0) → (∀ j : Nat, j < 40 → (lp P (fun _ _ => c) n y x).1 (k + 1) j = 0) ∧ ∀ s t : Nat, s ≠ k + 1 → (lp P (fun _ _ => c) n y x).1 s t = x.1 s t := by
    intro n
    induction n with
    | zero => intro y x hm; exact absurd hm (Nat.not_lt_zero _)
    | succ n ih =>
      intro y x hm h0 h1 hz
      rw [lp_s]
      by_cases d : y.toInt < 40
      · have ey : (y + 1).toInt = y.toInt + 1 := adI rfl rfl (by omega) (by omega)
        have hcn := cnI (x := y) h0
        have ep : P (lp P (fun _ _ => c) n) y x = lp P (fun _ _ => c) n (y + 1) (up1 x (k + 1) y.toNatClampNeg 0) := by
          generalize lp P (fun _ _ => c) n = sf
          rw [eP]
          simp only [xl_d]
          rw [if_pos d]
        rw [ep]
        have q := ih (y + 1) (up1 x (k + 1) y.toNatClampNeg 0) (by omega) (by omega) (by omega) (fun j hj => by
          by_cases e : j = y.toNatClampNeg
          · rw [e, up1_s]
          · rw [up1_n _ _ (by omega)]; exact hz j (by omega))
        exact ⟨q.1, fun s t z => by rw [q.2 s t z, up1_n _ _ (by omega)]⟩
      · generalize lp P (fun _ _ => c) n = sf
        have ep : P sf y x = x := by
          rw [eP]
          simp only [xl_d]
          rw [if_neg d]
        rw [ep]
        exact ⟨fun j hj => hz j (by omega), fun _ _ _ => rfl⟩
  have q := Lp (N + 1) 0 (up1 (up1 c k 0 a) k 1 b) (by rw [← hN]; exact Nat.lt_succ_self N) (by omega) (by omega) (fun j hj => by omega)
  rw [hu] at q
  refine ⟨?_, ?_, q.1, fun s t z => ?_⟩
  · rw [q.2 k 0 (by omega), up1_n _ _ (by omega), up1_s]
  · rw [q.2 k 1 (by omega), up1_s]
  · rw [q.2 s t z.1, up1_n _ _ (by omega), up1_n _ _ (by omega)]
theorem sim_sheet {c m : St} {r r2 : Int32} {u w : St} {a0 a1 a2 : Int32} (h : Sim c m) (hC : (r, u) = F_X7_sheet 0 a0 a1 a2 c) (hM : (r2, w) = F_X8_sheet 0 a0 a1 a2 m) : r = r2 ∧ Sim u w := by
  have g := h.1
  have c1 : (1 : Int32).toInt = 1 := rfl
  have c0 : (0 : Int32).toInt = 0 := rfl
  simp only [F_X7_sheet, xl_d, Nat.reduceAdd] at hC
  generalize hmm : F_X8_sheet 0 a0 a1 a2 m = mm at hM
  unfold F_X8_sheet at hmm
  obtain ⟨N, hN⟩ : ∃ N : Nat, N = (2147483647 - (0 : Int32).toInt).toNat := ⟨_, rfl⟩
  rw [← hN] at hmm
  obtain ⟨P, eP, hmm⟩ := xl_e hmm
  simp only [xl_d, Nat.reduceAdd] at hmm
  by_cases p : (0 ≤ a0.toInt ∧ a0.toInt ≤ 3) ∧ (0 ≤ a1.toInt ∧ a1.toInt ≤ 2)
  · rw [if_neg (fun z => isShC.mp z p.1), if_neg (fun z => isLaC.mp z p.2)] at hC
    rw [if_neg (fun z => isShM.mp z p)] at hmm
    by_cases q1 : 40 < a2.toInt
    · rw [if_pos q1] at hC hmm
      rw [← hmm] at hM
      exact ⟨by rw [(Prod.mk.inj hC).1, (Prod.mk.inj hM).1], by rw [(Prod.mk.inj hC).2, (Prod.mk.inj hM).2]; exact h⟩
    · rw [if_neg q1] at hC hmm
      by_cases q2 : a2.toInt < 0
      · rw [if_pos q2] at hC hmm
        rw [← hmm] at hM
        exact ⟨by rw [(Prod.mk.inj hC).1, (Prod.mk.inj hM).1], by rw [(Prod.mk.inj hC).2, (Prod.mk.inj hM).2]; exact h⟩
      · rw [if_neg q2] at hC hmm
        have n0 := cnI (x := a0) (by omega)
        have rn := rnC (64 + (19 + 2 * a0.toNatClampNeg)) a1 a2 c
        generalize F_X4_renew (64 + (19 + 2 * a0.toNatClampNeg)) a1 a2 c = u11 at rn hC
        obtain ⟨rn1, rn2, rn3, rn4⟩ := rn
        have Lp : ∀ (n : Nat) (y : Int32) (x : St), (2147483647 - y.toInt).toNat < n → 0 ≤ y.toInt → y.toInt ≤ 40 → (∀ j : Nat, (j : Int) < y.toInt → x.1 8 (40 * a0.toNatClampNeg + j) = 0) → (lp P (fun _ _ => ((0 : Int32), m)) n y x).1 = 1 ∧ (∀ j : Nat, j < 40 → (lp P (fun _ _ => ((0 : Int32), m)) n y x).2.1 8 (40 * a0.toNatClampNeg + j) = 0) ∧ ∀ s t : Nat, (s ≠ 8 ∨ t < 40 * a0.toNatClampNeg ∨ 40 * a0.toNatClampNeg + 40 ≤ t) → (lp P (fun _ _ => ((0 : Int32), m)) n y x).2.1 s t = x.1 s t := by
          intro n
          induction n with
          | zero => intro y x hm; exact absurd hm (Nat.not_lt_zero _)
          | succ n ih =>
            intro y x hm h0 h1 hz
            rw [lp_s]
            by_cases d : y.toInt < 40
            · have ey : (y + 1).toInt = y.toInt + 1 := adI rfl rfl (by omega) (by omega)
              have hcn := cnI (x := y) h0
              have m40 : ((40 : Int32) * a0).toInt = 40 * a0.toInt := mlI rfl rfl (by omega) (by omega)
              have a40 : ((40 : Int32) * a0 + y).toInt = 40 * a0.toInt + y.toInt := adI m40 rfl (by omega) (by omega)
              have n40 := cnI (x := (40 : Int32) * a0 + y) (by omega)
              have ep : P (lp P (fun _ _ => ((0 : Int32), m)) n) y x = lp P (fun _ _ => ((0 : Int32), m)) n (y + 1) (up1 x 8 (40 * a0.toNatClampNeg + y.toNatClampNeg) 0) := by
                generalize lp P (fun _ _ => ((0 : Int32), m)) n = sf
                rw [eP]
                simp only [xl_d, Nat.reduceAdd]
                rw [if_pos d, show ((40 : Int32) * a0 + y).toNatClampNeg = 40 * a0.toNatClampNeg + y.toNatClampNeg by omega]
              rw [ep]
              have q := ih (y + 1) (up1 x 8 (40 * a0.toNatClampNeg + y.toNatClampNeg) 0) (by omega) (by omega) (by omega) (fun j hj => by
                by_cases e : j = y.toNatClampNeg
                · rw [e, up1_s]
                · rw [up1_n _ _ (by omega)]; exact hz j (by omega))
              exact ⟨q.1, q.2.1, fun s t z => by rw [q.2.2 s t z, up1_n _ _ (by omega)]⟩
            · generalize lp P (fun _ _ => ((0 : Int32), m)) n = sf
              have ep : P sf y x = (1, x) := by
                rw [eP]
                simp only [xl_d, Nat.reduceAdd]
                rw [if_neg d]
              rw [ep]
              exact ⟨rfl, fun j hj => hz j (by omega), fun _ _ _ => rfl⟩
        have q := Lp (N + 1) 0 (up1 (up1 m 6 a0.toNatClampNeg a1) 7 a0.toNatClampNeg a2) (by rw [← hN]; exact Nat.lt_succ_self N) (by omega) (by omega) (fun j hj => by omega)
        rw [hmm, ← hM] at q
        obtain ⟨qr, qz, qf⟩ := q
        simp only at qr qz qf
        obtain ⟨hr, hu⟩ := Prod.mk.inj hC
        rw [hr, qr]
        refine ⟨rfl, ?_⟩
        rw [hu]
        refine h.shts (fun a b z => rn4 a b (by omega)) (fun a b z => by rw [qf a b (by omega), up1_n _ _ (by omega), up1_n _ _ (by omega)]) (fun s hs => ?_)
        by_cases e : s = a0.toNatClampNeg
        · subst e
          have e83 : 64 + (19 + 2 * a0.toNatClampNeg) = 83 + 2 * a0.toNatClampNeg := by omega
          rw [e83] at rn1 rn2 rn3
          have w6 : w.1 6 a0.toNatClampNeg = a1 := by rw [qf 6 _ (by omega), up1_n _ _ (by omega), up1_s]
          have w7 : w.1 7 a0.toNatClampNeg = a2 := by rw [qf 7 _ (by omega), up1_s]
          rw [rn1, rn2, w6, w7]
          refine ⟨Or.inr ⟨rfl, p.2⟩, ⟨rfl, by omega, by omega⟩, fun i hi => ?_⟩
          rw [show 84 + 2 * a0.toNatClampNeg = 83 + 2 * a0.toNatClampNeg + 1 by omega, rn3 i hi, qz i hi]
        · have hh := h.2.2.2.1 s hs
          rw [rn4 (83 + 2 * s) 0 (by omega), rn4 (83 + 2 * s) 1 (by omega), qf 6 s (by omega), qf 7 s (by omega), up1_n _ _ (by omega), up1_n _ _ (by omega), up1_n _ _ (by omega), up1_n _ _ (by omega)]
          refine ⟨hh.1, hh.2.1, fun i hi => ?_⟩
          rw [rn4 (84 + 2 * s) i (by omega), qf 8 _ (by omega), up1_n _ _ (by omega), up1_n _ _ (by omega)]
          exact hh.2.2 i hi
  · rw [if_pos (isShM.mpr p)] at hmm
    rw [← hmm] at hM
    have hC : (r, u) = (-1, c) := by
      by_cases q1 : 0 ≤ a0.toInt ∧ a0.toInt ≤ 3
      · rw [if_neg (fun z => isShC.mp z q1), if_pos (isLaC.mpr (fun z => p ⟨q1, z⟩))] at hC; exact hC
      · rw [if_pos (isShC.mpr q1)] at hC; exact hC
    exact ⟨by rw [(Prod.mk.inj hC).1, (Prod.mk.inj hM).1], by rw [(Prod.mk.inj hC).2, (Prod.mk.inj hM).2]; exact h⟩
theorem sim_lay {c m : St} {r r2 : Int32} {u w : St} {a0 a1 a2 : Int32} (h : Sim c m) (hC : (r, u) = F_X7_lay 0 a0 a1 a2 c) (hM : (r2, w) = F_X8_lay 0 a0 a1 a2 m) : r = r2 ∧ Sim u w := by
  have g := h.1
  have c1 : (1 : Int32).toInt = 1 := rfl
  have c0 : (0 : Int32).toInt = 0 := rfl
  simp only [F_X7_lay, F_X4_tearAt, F_X4_lowest, xl_d, Nat.reduceAdd] at hC
  simp only [F_X8_lay, xl_d, Nat.reduceAdd] at hM
  by_cases p : 0 ≤ a0.toInt ∧ a0.toInt ≤ 3
  · rw [if_neg (fun z => isShC.mp z p)] at hC
    rw [if_neg (fun z => isShM.mp z ⟨p, by omega⟩)] at hM
    have n0 := cnI (x := a0) (by omega)
    have hh := h.2.2.2.1 a0.toNatClampNeg (by omega)
    have e83 : 64 + (19 + 2 * a0.toNatClampNeg) = 83 + 2 * a0.toNatClampNeg := by omega
    rw [e83] at hC
    rcases hh.1 with hx | hx
    · rw [if_pos (show (c.1 (83 + 2 * a0.toNatClampNeg) 0).toInt = -1 from hx.1), if_neg (by decide)] at hC
      rw [if_pos hx.2] at hM
      exact ⟨by rw [(Prod.mk.inj hC).1, (Prod.mk.inj hM).1]; rfl, by rw [(Prod.mk.inj hC).2, (Prod.mk.inj hM).2]; exact h⟩
    · have hs := hh.2.1
      rw [hx.1, hs.1] at hC
      rw [if_neg (show ¬ (m.1 6 a0.toNatClampNeg).toInt = -1 by omega), if_pos trivial] at hC
      rw [if_neg (show ¬ (m.1 6 a0.toNatClampNeg).toInt = -4 by omega)] at hM
      have e1 : (m.1 7 a0.toNatClampNeg - 1).toInt = (m.1 7 a0.toNatClampNeg).toInt - 1 := sbI rfl rfl (by omega) (by omega)
      have hi := inI (x := a1) (b := 0) (c := (m.1 7 a0.toNatClampNeg - 1).toInt64) (lo := 0) (hi := (m.1 7 a0.toNatClampNeg).toInt - 1) m rfl (by rw [i64_of, e1])
      by_cases q : 0 ≤ a1.toInt ∧ a1.toInt < (m.1 7 a0.toNatClampNeg).toInt
      · rw [if_neg (show ¬ a1.toInt < 0 by omega), if_pos q.2, if_pos c0] at hC
        rw [if_neg (fun z => hi.mp z (by omega))] at hM
        have n1 := cnI (x := a1) (by omega)
        have m40 : ((40 : Int32) * a0).toInt = 40 * a0.toInt := mlI rfl rfl (by omega) (by omega)
        have a40 : ((40 : Int32) * a0 + a1).toInt = 40 * a0.toInt + a1.toInt := adI m40 rfl (by omega) (by omega)
        have n40 := cnI (x := (40 : Int32) * a0 + a1) (by omega)
        rw [show ((40 : Int32) * a0 + a1).toNatClampNeg = 40 * a0.toNatClampNeg + a1.toNatClampNeg by omega] at hM
        obtain ⟨v, hv1, hv2⟩ : ∃ v : Int32, (r, u) = (1, up1 c (83 + 2 * a0.toNatClampNeg + 1) a1.toNatClampNeg v) ∧ (r2, w) = (1, up1 m 8 (40 * a0.toNatClampNeg + a1.toNatClampNeg) v) := by
          by_cases z0 : (m.1 6 a0.toNatClampNeg).toInt = 0
          · rw [if_pos z0] at hC hM; exact ⟨_, hC, hM⟩
          · rw [if_neg z0] at hC hM
            by_cases z1 : (m.1 6 a0.toNatClampNeg).toInt = 1
            · rw [if_pos z1] at hC hM; exact ⟨_, hC, hM⟩
            · rw [if_neg z1] at hC hM; exact ⟨_, hC, hM⟩
        obtain ⟨hr, hu⟩ := Prod.mk.inj hv1
        obtain ⟨hr2, hw⟩ := Prod.mk.inj hv2
        subst hr hr2 hu hw
        refine ⟨rfl, h.shts (fun a b z => up1_n _ _ (by omega)) (fun a b z => up1_n _ _ (by omega)) (fun s hs2 => ?_)⟩
        have hj := h.2.2.2.1 s hs2
        rw [up1_n _ _ (by omega), up1_n _ _ (by omega), up1_n _ _ (by omega), up1_n _ _ (by omega)]
        refine ⟨hj.1, hj.2.1, fun i hi2 => ?_⟩
        by_cases e : s = a0.toNatClampNeg ∧ i = a1.toNatClampNeg
        · obtain ⟨rfl, rfl⟩ := e
          rw [show 84 + 2 * a0.toNatClampNeg = 83 + 2 * a0.toNatClampNeg + 1 by omega, up1_s, up1_s]
        · rw [up1_n _ _ (by omega), up1_n _ _ (by omega)]
          exact hj.2.2 i hi2
      · rw [if_pos (hi.mpr (by omega))] at hM
        have hC : (r, u) = ((-10 : Int32) - 2, c) := by
          by_cases z : a1.toInt < 0
          · rw [if_pos z, if_neg (by decide)] at hC; exact hC
          · rw [if_neg z, if_neg (show ¬ a1.toInt < (m.1 7 a0.toNatClampNeg).toInt by omega), if_neg (by decide)] at hC; exact hC
        exact ⟨by rw [(Prod.mk.inj hC).1, (Prod.mk.inj hM).1]; rfl, by rw [(Prod.mk.inj hC).2, (Prod.mk.inj hM).2]; exact h⟩
  · rw [if_pos (isShC.mpr p)] at hC
    rw [if_pos (isShM.mpr (fun z => p z.1))] at hM
    exact ⟨by rw [(Prod.mk.inj hC).1, (Prod.mk.inj hM).1], by rw [(Prod.mk.inj hC).2, (Prod.mk.inj hM).2]; exact h⟩
