/-! one thing changed -/
theorem TR.chg {c m c2 m2 : St} (h : TR c m) (hc : ∀ a b : Nat, 22 ≤ a → a < 28 → ¬ (a = 22 ∧ (b = 4 ∨ b = 7 ∨ b = 11)) → ¬ (a = 27 ∧ b = 3) → c2.1 a b = c.1 a b) (hm : ∀ a b : Nat, ((a = 2 ∧ b < 33 ∧ b ≠ 23 ∧ b ≠ 27 ∧ b ≠ 28 ∧ b ≠ 3 ∧ b ≠ 7 ∧ b ≠ 11 ∧ b ≠ 15 ∧ b ≠ 19) ∨ (a = 0 ∧ (b = 3 ∨ b = 4))) → m2.1 a b = m.1 a b) (h7 : c2.1 22 7 = m2.1 2 23 ∧ 0 ≤ (m2.1 2 23).toInt ∧ (¬ (m.1 0 4).toInt = 0 → (m2.1 2 23).toInt < (m.1 0 4).toInt)) (h11 : c2.1 22 11 = m2.1 2 28) (h27 : c2.1 27 3 = m2.1 2 27 ∧ 0 ≤ (m2.1 2 27).toInt ∧ (m2.1 2 27).toInt ≤ 99) (hk : ∀ i : Nat, (i : Int) < (m.1 0 3).toInt → (c2.1 22 4 >>> (Int32.ofNat i &&& 31)) &&& 1 = m2.1 2 (4 * i + 3)) (hp : ∀ i : Nat, (i : Int) < (m.1 2 32).toInt → c2.1 28 i = m2.1 2 (33 + i) ∧ amO (m2.1 2 (33 + i)).toInt (m.1 0 3).toInt) : TR c2 m2 := by
  obtain ⟨⟨⟨a1, a2⟩, ⟨-, b2, -⟩, s, w, -, d2, d3, d4⟩, ⟨e1, e2⟩, p1, -⟩ := h
  have m3 := hm 0 3 (by omega)
  have m4 := hm 0 4 (by omega)
  have m32 := hm 2 32 (by omega)
  refine ⟨⟨⟨?_, ?_⟩, ⟨?_, ?_, h11⟩, fun i hi => ?_, fun i hi => ?_, h27, ?_, ?_, ?_⟩, ⟨?_, ?_⟩, ?_, fun i hi => ?_⟩
  · rw [hc 22 3 (by omega) (by omega) (by omega) (by omega), m3]; exact a1
  · rw [hc 22 6 (by omega) (by omega) (by omega) (by omega), m4]; exact a2
  · rw [m4]; exact h7
  · rw [hc 22 10 (by omega) (by omega) (by omega) (by omega), hm 2 26 (by omega)]; exact b2
  · rw [m3] at hi
    rw [hc (22 + 1) i (by omega) (by omega) (by omega) (by omega), hc (22 + 2) i (by omega) (by omega) (by omega) (by omega), hc (22 + 3) i (by omega) (by omega) (by omega) (by omega), hm 2 (4 * i) (by omega), hm 2 (4 * i + 1) (by omega), hm 2 (4 * i + 2) (by omega)]
    exact ⟨(s i hi).1, (s i hi).2.1, (s i hi).2.2.1, hk i hi⟩
  · rw [m4] at hi
    rw [hc (22 + 4) i (by omega) (by omega) (by omega) (by omega), hm 2 (20 + i) (by omega)]
    exact w i hi
  · rw [hc 27 0 (by omega) (by omega) (by omega) (by omega), hm 2 29 (by omega)]; exact d2
  · rw [hc 27 1 (by omega) (by omega) (by omega) (by omega), hm 2 30 (by omega), hm 2 29 (by omega)]; exact d3
  · rw [hc 27 2 (by omega) (by omega) (by omega) (by omega), hm 2 31 (by omega), hm 2 29 (by omega)]; exact d4
  · rw [hc 22 8 (by omega) (by omega) (by omega) (by omega), hm 2 24 (by omega)]; exact e1
  · rw [hc 22 9 (by omega) (by omega) (by omega) (by omega), hm 2 25 (by omega)]; exact e2
  · rw [hc 22 14 (by omega) (by omega) (by omega) (by omega), m32]; exact p1
  · rw [m32] at hi
    rw [m3]
    exact hp i hi
theorem nn_ {c : St} {k j : Nat} {x : Int32} (a b : Nat) (z : a ≠ k ∨ b ≠ j) : (up1 c k j x).1 a b = c.1 a b := up1_n _ _ z
theorem TR.front {c m : St} (h : TR c m) {w : Int32} (hw : 0 ≤ w.toInt ∧ w.toInt < (m.1 0 4).toInt) : TR (up1 c 22 7 w) (up1 m 2 23 w) := by
  have h3 := h.1.1.1.2
  have h8 := h.2.2.1.2
  refine h.chg (fun a b _ _ _ _ => nn_ a b (by omega)) (fun a b _ => nn_ a b (by omega)) ⟨?_, ?_, ?_⟩ ?_ ?_ (fun i hi => ?_) (fun i hi => ?_)
  · rw [up1_s, up1_s]
  · rw [up1_s]; omega
  · rw [up1_s]; omega
  · rw [nn_ 22 11 (by omega), nn_ 2 28 (by omega)]; exact h.1.2.1.2.2
  · rw [nn_ 27 3 (by omega), nn_ 2 27 (by omega)]; exact h.1.2.2.2.2.1
  · rw [nn_ 22 4 (by omega), nn_ 2 (4 * i + 3) (by omega)]; exact (h.1.2.2.1 i hi).2.2.2
  · rw [nn_ 28 i (by omega), nn_ 2 (33 + i) (by omega)]; exact h.2.2.2 i hi
theorem TR.water {c m : St} (h : TR c m) {w : Int32} (hw : 0 ≤ w.toInt ∧ w.toInt ≤ 40) : TR (up1 c 27 3 w) (up1 m 2 27 w) := by
  have h3 := h.1.1.1.2
  have h8 := h.2.2.1.2
  refine h.chg (fun a b _ _ _ _ => nn_ a b (by omega)) (fun a b _ => nn_ a b (by omega)) ?_ ?_ ⟨?_, ?_, ?_⟩ (fun i hi => ?_) (fun i hi => ?_)
  · rw [nn_ 22 7 (by omega), nn_ 2 23 (by omega)]; exact h.1.2.1.1
  · rw [nn_ 22 11 (by omega), nn_ 2 28 (by omega)]; exact h.1.2.1.2.2
  · rw [up1_s, up1_s]
  · rw [up1_s]; omega
  · rw [up1_s]; omega
  · rw [nn_ 22 4 (by omega), nn_ 2 (4 * i + 3) (by omega)]; exact (h.1.2.2.1 i hi).2.2.2
  · rw [nn_ 28 i (by omega), nn_ 2 (33 + i) (by omega)]; exact h.2.2.2 i hi
theorem TR.cloud {c m : St} (h : TR c m) (w : Int32) : TR (up1 c 22 11 w) (up1 m 2 28 w) := by
  have h3 := h.1.1.1.2
  have h8 := h.2.2.1.2
  refine h.chg (fun a b _ _ _ _ => nn_ a b (by omega)) (fun a b _ => nn_ a b (by omega)) ?_ ?_ ?_ (fun i hi => ?_) (fun i hi => ?_)
  · rw [nn_ 22 7 (by omega), nn_ 2 23 (by omega)]; exact h.1.2.1.1
  · rw [up1_s, up1_s]
  · rw [nn_ 27 3 (by omega), nn_ 2 27 (by omega)]; exact h.1.2.2.2.2.1
  · rw [nn_ 22 4 (by omega), nn_ 2 (4 * i + 3) (by omega)]; exact (h.1.2.2.1 i hi).2.2.2
  · rw [nn_ 28 i (by omega), nn_ 2 (33 + i) (by omega)]; exact h.2.2.2 i hi
theorem TR.plan {c m : St} (h : TR c m) {w : Int32} {j : Nat} (hj : (j : Int) < (m.1 2 32).toInt) (hw : amO w.toInt (m.1 0 3).toInt) : TR (up1 c 28 j w) (up1 m 2 (33 + j) w) := by
  have h3 := h.1.1.1.2
  have h8 := h.2.2.1.2
  refine h.chg (fun a b _ _ _ _ => nn_ a b (by omega)) (fun a b _ => nn_ a b (by omega)) ?_ ?_ ?_ (fun i hi => ?_) (fun i hi => ?_)
  · rw [nn_ 22 7 (by omega), nn_ 2 23 (by omega)]; exact h.1.2.1.1
  · rw [nn_ 22 11 (by omega), nn_ 2 28 (by omega)]; exact h.1.2.1.2.2
  · rw [nn_ 27 3 (by omega), nn_ 2 27 (by omega)]; exact h.1.2.2.2.2.1
  · rw [nn_ 22 4 (by omega), nn_ 2 (4 * i + 3) (by omega)]; exact (h.1.2.2.1 i hi).2.2.2
  · by_cases e : i = j
    · rw [e, up1_s, up1_s]; exact ⟨rfl, hw⟩
    · rw [nn_ 28 i (by omega), nn_ 2 (33 + i) (by omega)]; exact h.2.2.2 i hi
/-- the stars known, told anew -/
theorem knJ {m : St} (K : Int32) (h5 : 0 ≤ (m.1 0 3).toInt ∧ (m.1 0 3).toInt ≤ 5) : (∀ i : Nat, (i : Int) < (m.1 0 3).toInt → (F_X8_knowsJust 0 K m).1 2 (4 * i + 3) = (K >>> (Int32.ofNat i &&& 31)) &&& 1) ∧ ∀ a b : Nat, (a ≠ 2 ∨ (b ≠ 3 ∧ b ≠ 7 ∧ b ≠ 11 ∧ b ≠ 15 ∧ b ≠ 19)) → (F_X8_knowsJust 0 K m).1 a b = (F_X8_starts 0 m).1 a b := by
  have c0 : (0 : Int32).toInt = 0 := rfl
  have s3 := (stM1 m).2 0 3 (by omega)
  generalize hu : F_X8_knowsJust 0 K m = u
  unfold F_X8_knowsJust at hu
  obtain ⟨N, hN⟩ : ∃ N : Nat, N = (2147483647 - (0 : Int32).toInt).toNat := ⟨_, rfl⟩
  rw [← hN] at hu
  obtain ⟨P, eP, hu⟩ := xl_e hu
  rw [xl_d] at hu
  generalize F_X8_starts 0 m = s at *
  have Lp : ∀ (n : Nat) (y : Int32) (i : Nat) (x : St), (2147483647 - y.toInt).toNat < n → y.toInt = (i : Int) → (i : Int) ≤ (m.1 0 3).toInt → (∀ j : Nat, j < i → x.1 2 (4 * j + 3) = (K >>> (Int32.ofNat j &&& 31)) &&& 1) → (∀ a b : Nat, (a ≠ 2 ∨ (b ≠ 3 ∧ b ≠ 7 ∧ b ≠ 11 ∧ b ≠ 15 ∧ b ≠ 19)) → x.1 a b = s.1 a b) → (∀ j : Nat, (j : Int) < (m.1 0 3).toInt → (lp P (fun _ _ => m) n y x).1 2 (4 * j + 3) = (K >>> (Int32.ofNat j &&& 31)) &&& 1) ∧ ∀ a b : Nat, (a ≠ 2 ∨ (b ≠ 3 ∧ b ≠ 7 ∧ b ≠ 11 ∧ b ≠ 15 ∧ b ≠ 19)) → (lp P (fun _ _ => m) n y x).1 a b = s.1 a b := by
    intro n
    induction n with
    | zero => intro y i x hm; exact absurd hm (Nat.not_lt_zero _)
    | succ n ih =>
      intro y i x hm hy h1 hz hf
      rw [lp_s]
      have ex : x.1 0 3 = m.1 0 3 := by rw [hf 0 3 (by omega), s3]
      by_cases d : y.toInt < (m.1 0 3).toInt
      · have ey : (y + 1).toInt = y.toInt + 1 := adI rfl rfl (by omega) (by omega)
        have m4 : ((4 : Int32) * y).toInt = 4 * y.toInt := mlI rfl rfl (by omega) (by omega)
        have a2 : ((4 : Int32) * y + 3).toInt = 4 * y.toInt + 3 := adI m4 rfl (by omega) (by omega)
        have n2 := cnI (x := (4 : Int32) * y + 3) (by omega)
        have ep : P (lp P (fun _ _ => m) n) y x = lp P (fun _ _ => m) n (y + 1) (up1 x 2 (4 * i + 3) ((K >>> (Int32.ofNat i &&& 31)) &&& 1)) := by
          generalize lp P (fun _ _ => m) n = sf
          rw [eP]
          simp only [xl_d, Nat.reduceAdd]
          rw [if_pos (by rw [ex]; exact d), show ((4 : Int32) * y + 3).toNatClampNeg = 4 * i + 3 by omega, ← i32_of hy (by omega)]
        rw [ep]
        refine ih (y + 1) (i + 1) _ (by omega) (by omega) (by omega) (fun j hj => ?_) (fun a b z => by rw [up1_n _ _ (by omega)]; exact hf a b z)
        by_cases e : j = i
        · rw [e, up1_s]
        · rw [up1_n _ _ (by omega)]; exact hz j (by omega)
      · have ep : P (lp P (fun _ _ => m) n) y x = x := by
          generalize lp P (fun _ _ => m) n = sf
          rw [eP]
          simp only [xl_d, Nat.reduceAdd]
          rw [if_neg (by rw [ex]; exact d)]
        rw [ep]
        exact ⟨fun j hj => hz j (by omega), hf⟩
  rw [← hu]
  exact Lp (N + 1) 0 0 s (by rw [← hN]; exact Nat.lt_succ_self N) rfl (by omega) (fun j hj => by omega) (fun _ _ _ => rfl)
theorem NR.know {c m : St} (h : NR 12 0 c m) (K : Int32) : TR (up1 (F_X6_begin 21 12 c) 22 4 K) (F_X8_knowsJust 0 K m) := by
  obtain ⟨hT, -, -⟩ := h.tr
  have s3 := (stM1 m).2 0 3 (by omega)
  have h8 := hT.2.2.1.2
  obtain ⟨k1, k2⟩ := knJ (m := m) K h.1.1.2
  refine hT.chg (fun a b _ _ _ _ => nn_ a b (by omega)) (fun a b _ => k2 a b (by omega)) ?_ ?_ ?_ (fun i hi => ?_) (fun i hi => ?_)
  · rw [nn_ 22 7 (by omega), k2 2 23 (by omega)]; exact hT.1.2.1.1
  · rw [nn_ 22 11 (by omega), k2 2 28 (by omega)]; exact hT.1.2.1.2.2
  · rw [nn_ 27 3 (by omega), k2 2 27 (by omega)]; exact hT.1.2.2.2.2.1
  · rw [s3] at hi
    rw [up1_s, k1 i hi]
  · rw [nn_ 28 i (by omega), k2 2 (33 + i) (by omega)]; exact hT.2.2.2 i hi
/-- neither loop touches the night -/
theorem NR.nx {c m c2 m2 : St} (h : NR 12 0 c m) (hc : ∀ a b : Nat, a < 21 → c2.1 a b = c.1 a b) (hm : ∀ a b : Nat, (a = 1 ∨ (a = 0 ∧ (b = 3 ∨ b = 4))) → m2.1 a b = m.1 a b) : NR 12 0 c2 m2 :=
  h.fr (hm _ _ (by omega)) (hm _ _ (by omega)) (fun b _ _ => hm _ _ (by omega)) (fun a b _ _ => hc _ _ (by omega))
theorem WG.nx {c m x z u w : St} (h : NR 12 0 c m) (g : WG x z u w) (hc : ∀ a b : Nat, a < 21 → x.1 a b = c.1 a b) (hm : ∀ a b : Nat, (a = 1 ∨ (a = 0 ∧ (b = 3 ∨ b = 4))) → z.1 a b = m.1 a b) : NR 12 0 u w :=
  h.nx (fun a b z => by rw [g.2.2.1 a b (by omega)]; exact hc a b z) (fun a b z => by rw [g.2.2.2.1 a b (by omega)]; exact hm a b z)
theorem ans_thirst {c m : St} {r r2 : Int32} {u w : St} (h : Sim c m) (hC : (r, u) = F_X7_thirst 0 c) (hM : (r2, w) = F_X8_thirst 0 m) : r = r2 := by
  have c0 : (0 : Int32).toInt = 0 := rfl
  unfold F_X7_thirst at hC
  unfold F_X8_thirst at hM
  obtain ⟨N, hN⟩ : ∃ N : Nat, N = (2147483647 - (0 : Int32).toInt).toNat := ⟨_, rfl⟩
  rw [← hN] at hC hM
  obtain ⟨P, eP, hC⟩ := xl_e hC.symm
  obtain ⟨Q, eQ, hM⟩ := xl_e hM.symm
  have Lp : ∀ (n : Nat) (y : Int32) (x z : St), (2147483647 - y.toInt).toNat < n → 0 ≤ y.toInt → y.toInt ≤ 41 → NR 12 0 x z → (lp P (fun _ _ => ((0 : Int32), c)) n y x).1 = (lp Q (fun _ _ => ((0 : Int32), m)) n y z).1 := by
    intro n
    induction n with
    | zero => intro y x z hm; exact absurd hm (Nat.not_lt_zero _)
    | succ n ih =>
      intro y x z hm h0 h1 hR
      rw [lp_s, lp_s]
      generalize lp P (fun _ _ => ((0 : Int32), c)) n = sf at *
      generalize lp Q (fun _ _ => ((0 : Int32), m)) n = sg at *
      rw [eP, eQ]
      simp only [xl_d, xm_d, Nat.reduceAdd, cn27]
      by_cases d : 40 < y.toInt
      · rw [if_pos d, if_pos d]
      · have ey : (y + 1).toInt = y.toInt + 1 := adI rfl rfl (by omega) (by omega)
        obtain ⟨hT, -, fb⟩ := hR.tr
        have hW := (hT.water (w := y) ⟨h0, by omega⟩).walk
        have fs := (stM1 z).2
        have hn := hW.nx hR (fun a b zz => by rw [nn_ a b (by omega)]; exact fb a b (by omega)) (fun a b zz => by rw [nn_ a b (by omega)]; exact fs a b (by omega))
        rw [if_neg d, if_neg d, hW.2.1.2]
        by_cases q : ((F_X8_plansGo 0 (up1 (F_X8_starts 0 z) 2 27 y)).1 0 20).toInt = -4
        · rw [if_pos q, if_pos q]
        · rw [if_neg q, if_neg q]
          exact ih (y + 1) _ _ (by omega) (by omega) (by omega) hn
  have := Lp (N + 1) 0 c m (by rw [← hN]; exact Nat.lt_succ_self N) (by omega) (by omega) h.1
  rw [hC, hM] at this
  exact this
