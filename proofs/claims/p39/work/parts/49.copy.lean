/-! a night is copied -/
theorem beP (k k1 : Nat) (h : k ≠ k1) (v : St) : (F_X2_become k k1 v).1 k 0 = v.1 k1 0 ∧ (F_X2_become k k1 v).1 k 1 = v.1 k1 1 ∧ (F_X2_become k k1 v).1 k 2 = v.1 k1 2 ∧ (F_X2_become k k1 v).1 k 3 = v.1 k1 3 ∧ ∀ a b : Nat, (a ≠ k ∨ 4 ≤ b) → (F_X2_become k k1 v).1 a b = v.1 a b := by
  generalize hu : F_X2_become k k1 v = u
  unfold F_X2_become at hu
  simp only [xl_d] at hu
  have a0 : ∀ x : Int32, (up1 v k 0 x).1 k1 1 = v.1 k1 1 := fun x => up1_n _ _ (by omega)
  rw [a0] at hu
  have a1 : ∀ x y : Int32, (up1 (up1 v k 0 x) k 1 y).1 k1 2 = v.1 k1 2 := fun x y => by rw [up1_n _ _ (by omega), up1_n _ _ (by omega)]
  rw [a1] at hu
  have a2 : ∀ x y z : Int32, (up1 (up1 (up1 v k 0 x) k 1 y) k 2 z).1 k1 3 = v.1 k1 3 := fun x y z => by rw [up1_n _ _ (by omega), up1_n _ _ (by omega), up1_n _ _ (by omega)]
  rw [a2] at hu
  subst hu
  refine ⟨?_, ?_, ?_, ?_, fun a b z => ?_⟩
  · rw [up1_n _ _ (by omega), up1_n _ _ (by omega), up1_n _ _ (by omega), up1_s]
  · rw [up1_n _ _ (by omega), up1_n _ _ (by omega), up1_s]
  · rw [up1_n _ _ (by omega), up1_s]
  · rw [up1_s]
  · rw [up1_n _ _ (by omega), up1_n _ _ (by omega), up1_n _ _ (by omega), up1_n _ _ (by omega)]
theorem cpy0 {f g : Nat → Int32} {n j : Nat} (h : j < n) : va_cpy f g 0 0 n j = f j := by
  unfold va_cpy
  rw [if_pos (by omega), show 0 + (j - 0) = j by omega]
theorem beN (k k1 : Nat) (h : k + 9 ≤ k1 ∨ k1 + 9 ≤ k) (v : St) : (∀ j : Nat, (j = 3 ∨ j = 4 ∨ (6 ≤ j ∧ j ≤ 11) ∨ j = 14 ∨ j = 17) → (F_X0_become k k1 v).1 k j = v.1 k1 j) ∧ (∀ j : Nat, j < 4 → (F_X0_become k k1 v).1 (k + 5) j = v.1 (k1 + 5) j) ∧ (∀ j : Nat, j < 5 → (F_X0_become k k1 v).1 (k + 1) j = v.1 (k1 + 1) j ∧ (F_X0_become k k1 v).1 (k + 2) j = v.1 (k1 + 2) j ∧ (F_X0_become k k1 v).1 (k + 3) j = v.1 (k1 + 3) j) ∧ (∀ j : Nat, j < 3 → (F_X0_become k k1 v).1 (k + 4) j = v.1 (k1 + 4) j) ∧ (∀ j : Nat, j < 8 → (F_X0_become k k1 v).1 (k + 6) j = v.1 (k1 + 6) j) ∧ (∀ j : Nat, j < 6 → (F_X0_become k k1 v).1 (k + 7) j = v.1 (k1 + 7) j ∧ (F_X0_become k k1 v).1 (k + 8) j = v.1 (k1 + 8) j) ∧ (∀ a b : Nat, (a < k ∨ k + 9 ≤ a) → (F_X0_become k k1 v).1 a b = v.1 a b) := by
  generalize hu : F_X0_become k k1 v = u
  unfold F_X0_become at hu
  have f0 : ∀ a b : Nat, (a < k ∨ k + 9 ≤ a) → v.1 a b = v.1 a b := fun _ _ _ => rfl
  obtain ⟨x1, ex1, hu⟩ := xl_e hu
  rw [f0 k1 3 (by omega)] at ex1
  obtain ⟨v2, ev2, hu⟩ := xl_e hu
  have fv2 : ∀ a b : Nat, (a < k ∨ k + 9 ≤ a) → v2.1 a b = v.1 a b := fun a b z => by rw [ev2, up1_n _ _ (by omega)]
  obtain ⟨x3, ex3, hu⟩ := xl_e hu
  rw [fv2 k1 4 (by omega)] at ex3
  obtain ⟨v4, ev4, hu⟩ := xl_e hu
  have fv4 : ∀ a b : Nat, (a < k ∨ k + 9 ≤ a) → v4.1 a b = v.1 a b := fun a b z => by rw [ev4, up1_n _ _ (by omega)]; exact fv2 a b z
  obtain ⟨x5, ex5, hu⟩ := xl_e hu
  rw [fv4 k1 6 (by omega)] at ex5
  obtain ⟨v6, ev6, hu⟩ := xl_e hu
  have fv6 : ∀ a b : Nat, (a < k ∨ k + 9 ≤ a) → v6.1 a b = v.1 a b := fun a b z => by rw [ev6, up1_n _ _ (by omega)]; exact fv4 a b z
  obtain ⟨x7, ex7, hu⟩ := xl_e hu
  rw [fv6 k1 7 (by omega)] at ex7
  obtain ⟨v8, ev8, hu⟩ := xl_e hu
  have fv8 : ∀ a b : Nat, (a < k ∨ k + 9 ≤ a) → v8.1 a b = v.1 a b := fun a b z => by rw [ev8, up1_n _ _ (by omega)]; exact fv6 a b z
  obtain ⟨x9, ex9, hu⟩ := xl_e hu
  rw [fv8 k1 8 (by omega)] at ex9
  obtain ⟨v10, ev10, hu⟩ := xl_e hu
  have fv10 : ∀ a b : Nat, (a < k ∨ k + 9 ≤ a) → v10.1 a b = v.1 a b := fun a b z => by rw [ev10, up1_n _ _ (by omega)]; exact fv8 a b z
  obtain ⟨x11, ex11, hu⟩ := xl_e hu
  rw [fv10 k1 9 (by omega)] at ex11
  obtain ⟨v12, ev12, hu⟩ := xl_e hu
  have fv12 : ∀ a b : Nat, (a < k ∨ k + 9 ≤ a) → v12.1 a b = v.1 a b := fun a b z => by rw [ev12, up1_n _ _ (by omega)]; exact fv10 a b z
  obtain ⟨x13, ex13, hu⟩ := xl_e hu
  rw [fv12 k1 10 (by omega)] at ex13
  obtain ⟨v14, ev14, hu⟩ := xl_e hu
  have fv14 : ∀ a b : Nat, (a < k ∨ k + 9 ≤ a) → v14.1 a b = v.1 a b := fun a b z => by rw [ev14, up1_n _ _ (by omega)]; exact fv12 a b z
  obtain ⟨x15, ex15, hu⟩ := xl_e hu
  rw [fv14 k1 11 (by omega)] at ex15
  obtain ⟨v16, ev16, hu⟩ := xl_e hu
  have fv16 : ∀ a b : Nat, (a < k ∨ k + 9 ≤ a) → v16.1 a b = v.1 a b := fun a b z => by rw [ev16, up1_n _ _ (by omega)]; exact fv14 a b z
  obtain ⟨u17, eu17, hu⟩ := xl_e hu
  have hp := beP (k + 5) (k1 + 5) (by omega) v16
  rw [← eu17] at hp
  rw [fv16 (k1 + 5) 0 (by omega), fv16 (k1 + 5) 1 (by omega), fv16 (k1 + 5) 2 (by omega), fv16 (k1 + 5) 3 (by omega)] at hp
  have fu17 : ∀ a b : Nat, (a < k ∨ k + 9 ≤ a) → u17.1 a b = v.1 a b := fun a b z => by rw [hp.2.2.2.2 a b (by omega)]; exact fv16 a b z
  obtain ⟨x19, ex19, hu⟩ := xl_e hu
  rw [fu17 k1 14 (by omega)] at ex19
  obtain ⟨v20, ev20, hu⟩ := xl_e hu
  have fv20 : ∀ a b : Nat, (a < k ∨ k + 9 ≤ a) → v20.1 a b = v.1 a b := fun a b z => by rw [ev20, up1_n _ _ (by omega)]; exact fu17 a b z
  obtain ⟨x21, ex21, hu⟩ := xl_e hu
  rw [fv20 k1 17 (by omega)] at ex21
  obtain ⟨v22, ev22, hu⟩ := xl_e hu
  have fv22 : ∀ a b : Nat, (a < k ∨ k + 9 ≤ a) → v22.1 a b = v.1 a b := fun a b z => by rw [ev22, up1_n _ _ (by omega)]; exact fv20 a b z
  obtain ⟨v23, ev23, hu⟩ := xl_e hu
  have fv23 : ∀ a b : Nat, (a < k ∨ k + 9 ≤ a) → v23.1 a b = v.1 a b := fun a b z => by rw [ev23, upR_n _ _ (by omega)]; exact fv22 a b z
  obtain ⟨v24, ev24, hu⟩ := xl_e hu
  have fv24 : ∀ a b : Nat, (a < k ∨ k + 9 ≤ a) → v24.1 a b = v.1 a b := fun a b z => by rw [ev24, upR_n _ _ (by omega)]; exact fv23 a b z
  obtain ⟨v25, ev25, hu⟩ := xl_e hu
  have fv25 : ∀ a b : Nat, (a < k ∨ k + 9 ≤ a) → v25.1 a b = v.1 a b := fun a b z => by rw [ev25, upR_n _ _ (by omega)]; exact fv24 a b z
  obtain ⟨v26, ev26, hu⟩ := xl_e hu
  have fv26 : ∀ a b : Nat, (a < k ∨ k + 9 ≤ a) → v26.1 a b = v.1 a b := fun a b z => by rw [ev26, upR_n _ _ (by omega)]; exact fv25 a b z
  obtain ⟨v27, ev27, hu⟩ := xl_e hu
  have fv27 : ∀ a b : Nat, (a < k ∨ k + 9 ≤ a) → v27.1 a b = v.1 a b := fun a b z => by rw [ev27, upR_n _ _ (by omega)]; exact fv26 a b z
  obtain ⟨v28, ev28, hu⟩ := xl_e hu
  have fv28 : ∀ a b : Nat, (a < k ∨ k + 9 ≤ a) → v28.1 a b = v.1 a b := fun a b z => by rw [ev28, upR_n _ _ (by omega)]; exact fv27 a b z
  obtain ⟨v29, ev29, hu⟩ := xl_e hu
  have fv29 : ∀ a b : Nat, (a < k ∨ k + 9 ≤ a) → v29.1 a b = v.1 a b := fun a b z => by rw [ev29, upR_n _ _ (by omega)]; exact fv28 a b z
  subst hu
  refine ⟨fun j hj => ?_, fun j hj => ?_, fun j hj => ⟨?_, ?_, ?_⟩, fun j hj => ?_, fun j hj => ?_, fun j hj => ⟨?_, ?_⟩, fv29⟩
  · rcases (show j = 3 ∨ j = 4 ∨ j = 6 ∨ j = 7 ∨ j = 8 ∨ j = 9 ∨ j = 10 ∨ j = 11 ∨ j = 14 ∨ j = 17 by omega) with rfl | rfl | rfl | rfl | rfl | rfl | rfl | rfl | rfl | rfl
    · rw [ev29, upR_n _ _ (by omega), ev28, upR_n _ _ (by omega), ev27, upR_n _ _ (by omega), ev26, upR_n _ _ (by omega), ev25, upR_n _ _ (by omega), ev24, upR_n _ _ (by omega), ev23, upR_n _ _ (by omega), ev22, up1_n _ _ (by omega), ev20, up1_n _ _ (by omega), hp.2.2.2.2 _ _ (by omega), ev16, up1_n _ _ (by omega), ev14, up1_n _ _ (by omega), ev12, up1_n _ _ (by omega), ev10, up1_n _ _ (by omega), ev8, up1_n _ _ (by omega), ev6, up1_n _ _ (by omega), ev4, up1_n _ _ (by omega), ev2, up1_s, ex1]
    · rw [ev29, upR_n _ _ (by omega), ev28, upR_n _ _ (by omega), ev27, upR_n _ _ (by omega), ev26, upR_n _ _ (by omega), ev25, upR_n _ _ (by omega), ev24, upR_n _ _ (by omega), ev23, upR_n _ _ (by omega), ev22, up1_n _ _ (by omega), ev20, up1_n _ _ (by omega), hp.2.2.2.2 _ _ (by omega), ev16, up1_n _ _ (by omega), ev14, up1_n _ _ (by omega), ev12, up1_n _ _ (by omega), ev10, up1_n _ _ (by omega), ev8, up1_n _ _ (by omega), ev6, up1_n _ _ (by omega), ev4, up1_s, ex3]
    · rw [ev29, upR_n _ _ (by omega), ev28, upR_n _ _ (by omega), ev27, upR_n _ _ (by omega), ev26, upR_n _ _ (by omega), ev25, upR_n _ _ (by omega), ev24, upR_n _ _ (by omega), ev23, upR_n _ _ (by omega), ev22, up1_n _ _ (by omega), ev20, up1_n _ _ (by omega), hp.2.2.2.2 _ _ (by omega), ev16, up1_n _ _ (by omega), ev14, up1_n _ _ (by omega), ev12, up1_n _ _ (by omega), ev10, up1_n _ _ (by omega), ev8, up1_n _ _ (by omega), ev6, up1_s, ex5]
    · rw [ev29, upR_n _ _ (by omega), ev28, upR_n _ _ (by omega), ev27, upR_n _ _ (by omega), ev26, upR_n _ _ (by omega), ev25, upR_n _ _ (by omega), ev24, upR_n _ _ (by omega), ev23, upR_n _ _ (by omega), ev22, up1_n _ _ (by omega), ev20, up1_n _ _ (by omega), hp.2.2.2.2 _ _ (by omega), ev16, up1_n _ _ (by omega), ev14, up1_n _ _ (by omega), ev12, up1_n _ _ (by omega), ev10, up1_n _ _ (by omega), ev8, up1_s, ex7]
    · rw [ev29, upR_n _ _ (by omega), ev28, upR_n _ _ (by omega), ev27, upR_n _ _ (by omega), ev26, upR_n _ _ (by omega), ev25, upR_n _ _ (by omega), ev24, upR_n _ _ (by omega), ev23, upR_n _ _ (by omega), ev22, up1_n _ _ (by omega), ev20, up1_n _ _ (by omega), hp.2.2.2.2 _ _ (by omega), ev16, up1_n _ _ (by omega), ev14, up1_n _ _ (by omega), ev12, up1_n _ _ (by omega), ev10, up1_s, ex9]
    · rw [ev29, upR_n _ _ (by omega), ev28, upR_n _ _ (by omega), ev27, upR_n _ _ (by omega), ev26, upR_n _ _ (by omega), ev25, upR_n _ _ (by omega), ev24, upR_n _ _ (by omega), ev23, upR_n _ _ (by omega), ev22, up1_n _ _ (by omega), ev20, up1_n _ _ (by omega), hp.2.2.2.2 _ _ (by omega), ev16, up1_n _ _ (by omega), ev14, up1_n _ _ (by omega), ev12, up1_s, ex11]
    · rw [ev29, upR_n _ _ (by omega), ev28, upR_n _ _ (by omega), ev27, upR_n _ _ (by omega), ev26, upR_n _ _ (by omega), ev25, upR_n _ _ (by omega), ev24, upR_n _ _ (by omega), ev23, upR_n _ _ (by omega), ev22, up1_n _ _ (by omega), ev20, up1_n _ _ (by omega), hp.2.2.2.2 _ _ (by omega), ev16, up1_n _ _ (by omega), ev14, up1_s, ex13]
    · rw [ev29, upR_n _ _ (by omega), ev28, upR_n _ _ (by omega), ev27, upR_n _ _ (by omega), ev26, upR_n _ _ (by omega), ev25, upR_n _ _ (by omega), ev24, upR_n _ _ (by omega), ev23, upR_n _ _ (by omega), ev22, up1_n _ _ (by omega), ev20, up1_n _ _ (by omega), hp.2.2.2.2 _ _ (by omega), ev16, up1_s, ex15]
    · rw [ev29, upR_n _ _ (by omega), ev28, upR_n _ _ (by omega), ev27, upR_n _ _ (by omega), ev26, upR_n _ _ (by omega), ev25, upR_n _ _ (by omega), ev24, upR_n _ _ (by omega), ev23, upR_n _ _ (by omega), ev22, up1_n _ _ (by omega), ev20, up1_s, ex19]
    · rw [ev29, upR_n _ _ (by omega), ev28, upR_n _ _ (by omega), ev27, upR_n _ _ (by omega), ev26, upR_n _ _ (by omega), ev25, upR_n _ _ (by omega), ev24, upR_n _ _ (by omega), ev23, upR_n _ _ (by omega), ev22, up1_s, ex21]
  · have e : v29.1 (k + 5) j = u17.1 (k + 5) j := by rw [ev29, upR_n _ _ (by omega), ev28, upR_n _ _ (by omega), ev27, upR_n _ _ (by omega), ev26, upR_n _ _ (by omega), ev25, upR_n _ _ (by omega), ev24, upR_n _ _ (by omega), ev23, upR_n _ _ (by omega), ev22, up1_n _ _ (by omega), ev20, up1_n _ _ (by omega)]
    rw [e]
    rcases (show j = 0 ∨ j = 1 ∨ j = 2 ∨ j = 3 by omega) with rfl | rfl | rfl | rfl
    · exact hp.1
    · exact hp.2.1
    · exact hp.2.2.1
    · exact hp.2.2.2.1
  · rw [ev29, upR_n _ _ (by omega), ev28, upR_n _ _ (by omega), ev27, upR_n _ _ (by omega), ev26, upR_n _ _ (by omega), ev25, upR_n _ _ (by omega), ev24, upR_n _ _ (by omega), ev23, upR_k, cpy0 hj]
    exact fv22 (k1 + 1) j (by omega)
  · rw [ev29, upR_n _ _ (by omega), ev28, upR_n _ _ (by omega), ev27, upR_n _ _ (by omega), ev26, upR_n _ _ (by omega), ev25, upR_n _ _ (by omega), ev24, upR_k, cpy0 hj]
    exact fv23 (k1 + 2) j (by omega)
  · rw [ev29, upR_n _ _ (by omega), ev28, upR_n _ _ (by omega), ev27, upR_n _ _ (by omega), ev26, upR_n _ _ (by omega), ev25, upR_k, cpy0 hj]
    exact fv24 (k1 + 3) j (by omega)
  · rw [ev29, upR_n _ _ (by omega), ev28, upR_n _ _ (by omega), ev27, upR_n _ _ (by omega), ev26, upR_k, cpy0 hj]
    exact fv25 (k1 + 4) j (by omega)
  · rw [ev29, upR_n _ _ (by omega), ev28, upR_n _ _ (by omega), ev27, upR_k, cpy0 hj]
    exact fv26 (k1 + 6) j (by omega)
  · rw [ev29, upR_n _ _ (by omega), ev28, upR_k, cpy0 hj]
    exact fv27 (k1 + 7) j (by omega)
  · rw [ev29, upR_k, cpy0 hj]
    exact fv28 (k1 + 8) j (by omega)
/-! the reference's draft, and how it is kept -/
def fd (b : Nat) : Int32 := if b = 24 then 20 else if b = 25 then 2 else if b = 26 then 3 else if b = 27 then 20 else 0
theorem fdM (m : St) : (∀ b : Nat, b < 54 → (F_X8_firstDraft 0 m).1 4 b = fd b) ∧ ((F_X8_firstDraft 0 m).1 0 6 = 0 ∧ (F_X8_firstDraft 0 m).1 0 7 = 0 ∧ (F_X8_firstDraft 0 m).1 0 8 = 0 ∧ (F_X8_firstDraft 0 m).1 0 9 = 0 ∧ (F_X8_firstDraft 0 m).1 0 10 = (-4)) ∧ ∀ a b : Nat, (a ≠ 4 ∧ (a ≠ 0 ∨ b < 6 ∨ 10 < b)) → (F_X8_firstDraft 0 m).1 a b = m.1 a b := by
  have n24 : (24 : Int32).toNatClampNeg = 24 := rfl
  have n25 : (25 : Int32).toNatClampNeg = 25 := rfl
  have n26 : (26 : Int32).toNatClampNeg = 26 := rfl
  have n27 : (27 : Int32).toNatClampNeg = 27 := rfl
  have c0 : (0 : Int32).toInt = 0 := rfl
  generalize hu : F_X8_firstDraft 0 m = u
  unfold F_X8_firstDraft at hu
  rw [n24, n25, n26, n27] at hu
  obtain ⟨N, hN⟩ : ∃ N : Nat, N = (2147483647 - (0 : Int32).toInt).toNat := ⟨_, rfl⟩
  rw [← hN] at hu
  obtain ⟨P2, e2, hu⟩ := xl_e hu
  have Lp : ∀ (n : Nat) (y : Int32) (x : St), (2147483647 - y.toInt).toNat < n → 0 ≤ y.toInt → y.toInt ≤ 54 → (∀ b : Nat, (b : Int) < y.toInt → x.1 4 b = 0) → (∀ b : Nat, b < 54 → (lp P2 (fun _ _ => m) n y x).1 4 b = fd b) ∧ ((lp P2 (fun _ _ => m) n y x).1 0 6 = 0 ∧ (lp P2 (fun _ _ => m) n y x).1 0 7 = 0 ∧ (lp P2 (fun _ _ => m) n y x).1 0 8 = 0 ∧ (lp P2 (fun _ _ => m) n y x).1 0 9 = 0 ∧ (lp P2 (fun _ _ => m) n y x).1 0 10 = (-4)) ∧ ∀ a b : Nat, (a ≠ 4 ∧ (a ≠ 0 ∨ b < 6 ∨ 10 < b)) → (lp P2 (fun _ _ => m) n y x).1 a b = x.1 a b := by
    intro n
    induction n with
    | zero => intro y x hm; exact absurd hm (Nat.not_lt_zero _)
    | succ n ih =>
      intro y x hm h0 h1 hz
      rw [lp_s]
      by_cases d : y.toInt < 54
      · have ep : P2 (lp P2 (fun _ _ => m) n) y x = lp P2 (fun _ _ => m) n (y + 1) (up1 x 4 y.toNatClampNeg 0) := by
          generalize lp P2 (fun _ _ => m) n = sf
          rw [e2]
          simp only [xl_d, Nat.reduceAdd]
          rw [if_pos d]
        rw [ep]
        have ey : (y + 1).toInt = y.toInt + 1 := adI rfl rfl (by omega) (by omega)
        have hcn := cnI (x := y) h0
        have q := ih (y + 1) (up1 x 4 y.toNatClampNeg 0) (by omega) (by omega) (by omega) (fun b hb => by
          by_cases e : b = y.toNatClampNeg
          · rw [e, up1_s]
          · rw [up1_n _ _ (by omega)]; exact hz b (by omega))
        exact ⟨q.1, q.2.1, fun a b z => by rw [q.2.2 a b z, up1_n _ _ (by omega)]⟩
      · generalize lp P2 (fun _ _ => m) n = sf
        have ep : P2 sf y x = up1 (up1 (up1 (up1 (up1 (up1 (up1 (up1 (up1 x 4 24 20) 4 25 2) 4 26 3) 4 27 20) 0 6 0) 0 7 0) 0 8 0) 0 9 0) 0 10 (-4) := by
          rw [e2]
          simp only [xl_d, Nat.reduceAdd]
          rw [if_neg d]
        rw [ep]
        refine ⟨fun b hb => ?_, ⟨?_, ?_, ?_, ?_, ?_⟩, fun a b z => ?_⟩
        · rw [up1_n _ _ (by omega), up1_n _ _ (by omega), up1_n _ _ (by omega), up1_n _ _ (by omega), up1_n _ _ (by omega)]
          unfold fd
          by_cases e27 : b = 27
          · subst e27; rw [up1_s]; rfl
          · rw [up1_n _ _ (by omega)]
            by_cases e26 : b = 26
            · subst e26; rw [up1_s]; rfl
            · rw [up1_n _ _ (by omega)]
              by_cases e25 : b = 25
              · subst e25; rw [up1_s]; rfl
              · rw [up1_n _ _ (by omega)]
                by_cases e24 : b = 24
                · subst e24; rw [up1_s]; rfl
                · rw [up1_n _ _ (by omega), if_neg e24, if_neg e25, if_neg e26, if_neg e27]
                  exact hz b (by omega)
        · rw [up1_n _ _ (by omega), up1_n _ _ (by omega), up1_n _ _ (by omega), up1_n _ _ (by omega), up1_s]
        · rw [up1_n _ _ (by omega), up1_n _ _ (by omega), up1_n _ _ (by omega), up1_s]
        · rw [up1_n _ _ (by omega), up1_n _ _ (by omega), up1_s]
        · rw [up1_n _ _ (by omega), up1_s]
        · rw [up1_s]
        · rw [up1_n _ _ (by omega), up1_n _ _ (by omega), up1_n _ _ (by omega), up1_n _ _ (by omega), up1_n _ _ (by omega), up1_n _ _ (by omega), up1_n _ _ (by omega), up1_n _ _ (by omega), up1_n _ _ (by omega)]
  have q := Lp (N + 1) 0 m (by rw [← hN]; exact Nat.lt_succ_self N) (by omega) (by omega) (fun b hb => by omega)
  rw [hu] at q
  exact q
/-- the draft is kept -/
def KD (m u : St) : Prop := (∀ b : Nat, b < 54 → ((∀ s : Nat, (s : Int) < (m.1 0 6).toInt → b ≠ 4 * s + 3) → u.1 1 b = m.1 4 b) ∧ ∀ s : Nat, (s : Int) < (m.1 0 6).toInt → b = 4 * s + 3 → u.1 1 b = (m.1 0 8 >>> (Int32.ofNat s &&& 31)) &&& 1) ∧ (u.1 0 3 = m.1 0 6 ∧ u.1 0 4 = m.1 0 7 ∧ u.1 3 0 = 0 ∧ u.1 3 1 = 0) ∧ ∀ a b : Nat, ((a ≠ 1 ∨ 54 ≤ b) ∧ (a ≠ 3 ∨ 2 ≤ b) ∧ (a ≠ 0 ∨ (b ≠ 3 ∧ b ≠ 4))) → u.1 a b = m.1 a b
theorem kdM (m : St) (h6 : 0 ≤ (m.1 0 6).toInt ∧ (m.1 0 6).toInt ≤ 5) : KD m (F_X8_keepDraft 0 m) := by
  have n0 : (0 : Int32).toNatClampNeg = 0 := rfl
  have n1 : (1 : Int32).toNatClampNeg = 1 := rfl
  have c0 : (0 : Int32).toInt = 0 := rfl
  have cb : vp_nar .boolean (0 : Int32) = 0 := rfl
  generalize hu : F_X8_keepDraft 0 m = u
  unfold F_X8_keepDraft at hu
  rw [n0, n1, cb] at hu
  obtain ⟨N, hN⟩ : ∃ N : Nat, N = (2147483647 - (0 : Int32).toInt).toNat := ⟨_, rfl⟩
  rw [← hN] at hu
  obtain ⟨P44, e44, hu⟩ := xl_e hu
  obtain ⟨P2, e2, hu⟩ := xl_e hu
  have L44 : ∀ (n : Nat) (y : Int32) (x : St), (2147483647 - y.toInt).toNat < n → 0 ≤ y.toInt → y.toInt ≤ (m.1 0 6).toInt → x.1 0 3 = m.1 0 6 → x.1 0 4 = m.1 0 7 → x.1 0 8 = m.1 0 8 → (∀ b : Nat, b < 54 → ((∀ s : Nat, (s : Int) < y.toInt → b ≠ 4 * s + 3) → x.1 1 b = m.1 4 b) ∧ ∀ s : Nat, (s : Int) < y.toInt → b = 4 * s + 3 → x.1 1 b = (m.1 0 8 >>> (Int32.ofNat s &&& 31)) &&& 1) → (∀ a b : Nat, ((a ≠ 1 ∨ 54 ≤ b) ∧ (a ≠ 3 ∨ 2 ≤ b) ∧ (a ≠ 0 ∨ (b ≠ 3 ∧ b ≠ 4))) → x.1 a b = m.1 a b) → KD m (lp P44 (fun _ _ => m) n y x) := by
    intro n
    induction n with
    | zero => intro y x hm; exact absurd hm (Nat.not_lt_zero _)
    | succ n ih =>
      intro y x hm h0 h1 g3 g4 g8 gb gf
      rw [lp_s]
      by_cases d : y.toInt < (m.1 0 6).toInt
      · have m4 : ((4 : Int32) * y).toInt = 4 * y.toInt := mlI rfl rfl (by omega) (by omega)
        have a3 : ((4 : Int32) * y + 3).toInt = 4 * y.toInt + 3 := adI m4 rfl (by omega) (by omega)
        have hc3 := cnI (x := (4 : Int32) * y + 3) (by omega)
        have ey : (y + 1).toInt = y.toInt + 1 := adI rfl rfl (by omega) (by omega)
        have hcn := cnI (x := y) h0
        have hyo : y = Int32.ofNat y.toNatClampNeg := i32_of hcn.symm (by omega)
        have ep : P44 (lp P44 (fun _ _ => m) n) y x = lp P44 (fun _ _ => m) n (y + 1) (up1 x 1 ((4 : Int32) * y + 3).toNatClampNeg ((m.1 0 8 >>> (y &&& 31)) &&& 1)) := by
          generalize lp P44 (fun _ _ => m) n = sf
          rw [e44]
          simp only [xl_d, Nat.reduceAdd]
          rw [g3, g8, if_pos d]
        rw [ep]
        refine ih (y + 1) _ (by omega) (by omega) (by omega) (by rw [up1_n _ _ (by omega)]; exact g3) (by rw [up1_n _ _ (by omega)]; exact g4) (by rw [up1_n _ _ (by omega)]; exact g8) (fun b hb => ⟨fun z => ?_, fun s hs e => ?_⟩) (fun a b z => by rw [up1_n _ _ (by omega)]; exact gf a b z)
        · have := z y.toNatClampNeg (by omega)
          rw [up1_n _ _ (by omega)]
          exact (gb b hb).1 (fun s hs => z s (by omega))
        · by_cases es : s = y.toNatClampNeg
          · rw [show b = ((4 : Int32) * y + 3).toNatClampNeg by omega, up1_s, es, ← hyo]
          · rw [up1_n _ _ (by omega)]
            exact (gb b hb).2 s (by omega) e
      · generalize lp P44 (fun _ _ => m) n = sf
        have ep : P44 sf y x = up1 (up1 x 3 0 0) 3 1 0 := by
          rw [e44]
          simp only [xl_d, Nat.reduceAdd]
          rw [g3, if_neg d]
        rw [ep]
        have hy : y.toInt = (m.1 0 6).toInt := by omega
        rw [hy] at gb
        refine ⟨fun b hb => ?_, ⟨?_, ?_, ?_, ?_⟩, fun a b z => ?_⟩
        · rw [up1_n _ _ (by omega), up1_n _ _ (by omega)]; exact gb b hb
        · rw [up1_n _ _ (by omega), up1_n _ _ (by omega)]; exact g3
        · rw [up1_n _ _ (by omega), up1_n _ _ (by omega)]; exact g4
        · rw [up1_n _ _ (by omega), up1_s]
        · rw [up1_s]
        · rw [up1_n _ _ (by omega), up1_n _ _ (by omega)]; exact gf a b z
  have L2 : ∀ (n : Nat) (y : Int32) (x : St), (2147483647 - y.toInt).toNat < n → 0 ≤ y.toInt → y.toInt ≤ 54 → (∀ b : Nat, (b : Int) < y.toInt → x.1 1 b = m.1 4 b) → (∀ a b : Nat, (a ≠ 1 ∨ 54 ≤ b) → x.1 a b = m.1 a b) → KD m (lp P2 (fun _ _ => m) n y x) := by
    intro n
    induction n with
    | zero => intro y x hm; exact absurd hm (Nat.not_lt_zero _)
    | succ n ih =>
      intro y x hm h0 h1 hz hfr
      rw [lp_s]
      by_cases d : y.toInt < 54
      · have hcn := cnI (x := y) h0
        have ep : P2 (lp P2 (fun _ _ => m) n) y x = lp P2 (fun _ _ => m) n (y + 1) (up1 x 1 y.toNatClampNeg (m.1 4 y.toNatClampNeg)) := by
          generalize lp P2 (fun _ _ => m) n = sf
          rw [e2]
          simp only [xl_d, Nat.reduceAdd]
          rw [if_pos d, hfr 4 _ (by omega)]
        rw [ep]
        have ey : (y + 1).toInt = y.toInt + 1 := adI rfl rfl (by omega) (by omega)
        refine ih (y + 1) _ (by omega) (by omega) (by omega) (fun b hb => ?_) (fun a b z => by rw [up1_n _ _ (by omega)]; exact hfr a b z)
        by_cases e : b = y.toNatClampNeg
        · rw [e, up1_s]
        · rw [up1_n _ _ (by omega)]; exact hz b (by omega)
      · generalize lp P2 (fun _ _ => m) n = sf
        have ep : P2 sf y x = lp P44 (fun _ _ => m) (N + 1) 0 (up1 (up1 x 0 3 (m.1 0 6)) 0 4 (m.1 0 7)) := by
          rw [e2]
          simp only [xl_d, Nat.reduceAdd]
          rw [if_neg d, hfr 0 6 (by omega), up1_n _ _ (by omega), hfr 0 7 (by omega)]
        rw [ep]
        refine L44 (N + 1) 0 _ (by rw [← hN]; exact Nat.lt_succ_self N) (by omega) (by omega) ?_ ?_ ?_ (fun b hb => ⟨fun _ => ?_, fun s hs => by omega⟩) (fun a b z => ?_)
        · rw [up1_n _ _ (by omega), up1_s]
        · rw [up1_s]
        · rw [up1_n _ _ (by omega), up1_n _ _ (by omega)]; exact hfr 0 8 (by omega)
        · rw [up1_n _ _ (by omega), up1_n _ _ (by omega)]; exact hz b (by omega)
        · rw [up1_n _ _ (by omega), up1_n _ _ (by omega)]; exact hfr a b (by omega)
  rw [← hu]
  exact L2 (N + 1) 0 m (by rw [← hN]; exact Nat.lt_succ_self N) (by omega) (by omega) (fun b hb => by omega) (fun _ _ _ => rfl)
