/-! the class weighs: from one depth to the one before -/
theorem OG.step {al : Nat → Int32} {n v D : Nat} {fl e0 e1 : Int32} {nx : Nat → St → Int64 × St} (hD : D < 8) (h0 : e0.toInt = (D : Int)) (h1 : e1.toInt = ((D + 1 : Nat) : Int)) (hv : v ≤ 10) (hf : OG al n v fl (D + 1) (nx 41)) : OG al n v fl D (weighG e0 e1 nx 41) := by
  intro x z hW hvx hfl hDn
  have c0 : (0 : Int32).toInt = 0 := rfl
  have c1 : (1 : Int32).toInt = 1 := rfl
  have k0 := cnI (x := e0) (by omega)
  have k1 := cnI (x := e1) (by omega)
  have n0 : e0.toNatClampNeg = D := by omega
  have n1 : e1.toNatClampNeg = D + 1 := by omega
  have p0 : 51 + (1 + D) = 52 + D := by omega
  have p1 : 51 + (1 + (D + 1)) = 53 + D := by omega
  have ha : Al al n := fun j hj h5 => by
    have := (hW.2.2.2 j hj).2
    unfold amO at this
    omega
  have hn8 := hW.2.1.2
  obtain ⟨hz, ⟨q3, q0, -, -⟩, -, -⟩ := hW.iz
  obtain ⟨r1, r2, r3⟩ := hr_i hz
  generalize hu : weighG e0 e1 nx 41 x = U
  unfold weighG at hu
  obtain ⟨N, hN⟩ : ∃ N : Nat, N = (2147483647 - (0 : Int32).toInt).toNat := ⟨_, rfl⟩
  rw [← hN] at hu
  obtain ⟨M, hM⟩ : ∃ M : Nat, N = M + 1 + 1 := ⟨N - 2, by omega⟩
  obtain ⟨P, eP, hu⟩ := xl_e hu
  simp only [xl_d, xm_d, Nat.reduceAdd, n0, n1, p0, p1] at hu
  have hpl := hasPl 42 e0 x
  rw [h0, hW.2.1.1] at hpl
  have hcs := cnS (p := 52 + D) (c := x)
  rw [q3, q0] at hcs
  by_cases dn : D < n
  · rw [if_neg (fun y => hpl.mp y (by omega))] at hu
    obtain ⟨d, hd⟩ : ∃ d, n - D = d + 1 := ⟨n - D - 1, by omega⟩
    have hd1 : n - (D + 1) = d := by omega
    obtain ⟨E, hE⟩ : ∃ E, E = 10 ^ d := ⟨_, rfl⟩
    have hE1 : E ≤ 10000000 := by
      rw [hE]
      exact Nat.pow_le_pow_right (n := 10) (j := 7) (by omega) (by omega)
    have e10 : 10 ^ (d + 1) = 10 * E := by rw [Nat.pow_succ, ← hE, Nat.mul_comm]
    rw [hd, e10]
    by_cases g : 0 < (z.1 2 27).toInt ∧ (z.1 2 29).toInt < 10
    · rw [if_neg (fun y => hcs.mp y g), hM] at hu
      have it0 : ∀ (sf : Int64 → Int32 → St → Int64 × St) (y : Int64) (Y : Nat) (i : Int32) (b wt : Nat) (fb w : Int32) (s : St), b < 2 → fb = Int32.ofNat b → w.toInt = (wt : Int) → wt ≤ 10 → y.toInt = (Y : Int) → Y ≤ 300 * E → FrD D x s → (∀ (u : St) (C : Int32) (t : Int32 × St), F_X2_become (53 + D) (52 + D) s = u → F_X7_withBit (u.1 42 11) (u.1 (52 + D) 0) fb u = C → F_X0_step 42 (53 + D) ((up1 u 42 11 C).1 48 D) (up1 u 42 11 C) = t → P sf y i s = (if 0 < w.toInt then sf (y + w.toInt64 * (nx 41 t.2).1) (i + 1) (nx 41 t.2).2 else sf y (i + 1) s)) → ∃ (y' : Int64) (Y' : Nat) (s' : St) (C : Int32), P sf y i s = sf y' (i + 1) s' ∧ y'.toInt = (Y' : Int) ∧ FrD D x s' ∧ Y' ≤ Y + wt * (30 * E) ∧ (C >>> (Int32.ofNat (hr z) &&& 31)) &&& 1 = Int32.ofNat b ∧ Y' * 10 ^ (9 - hr z) = Y * 10 ^ (9 - hr z) + wt * (Rr (vzO fl) al v d (D + 1) (F_X8_steps 0 (al D) (up1 z 2 28 C)).2 * E) := by
        intro sf y Y i b wt fb w s hb hfb hw hwt hy hY hs hP
        obtain ⟨u, hU⟩ : ∃ u, F_X2_become (53 + D) (52 + D) s = u := ⟨_, rfl⟩
        obtain ⟨C, hC⟩ : ∃ C, F_X7_withBit (u.1 42 11) (u.1 (52 + D) 0) fb u = C := ⟨_, rfl⟩
        obtain ⟨t, ht⟩ : ∃ t, F_X0_step 42 (53 + D) ((up1 u 42 11 C).1 48 D) (up1 u 42 11 C) = t := ⟨_, rfl⟩
        have hPP := hP u C t hU hC ht
        rw [hfb] at hC
        obtain ⟨cb, ⟨W, o1, o2, o3⟩, o4⟩ := OG.core hD dn hf hW hvx hfl g hs hb hU hC ht
        rw [hd1, ← hE] at o2 o3
        by_cases w0 : 0 < w.toInt
        · rw [if_pos w0] at hPP
          refine ⟨_, Y + wt * W, _, C, hPP, ?_, o4, Nat.add_le_add_left (Nat.mul_le_mul_left wt o2) Y, cb, ?_⟩
          · have l1 : w.toInt64.toInt = (wt : Int) := by rw [i64_of]; exact hw
            have l2 : wt * W ≤ 10 * (30 * E) := Nat.mul_le_mul hwt o2
            have l4 : (wt : Int) * (W : Int) = ((wt * W : Nat) : Int) := (Int.natCast_mul wt W).symm
            obtain ⟨K, hK⟩ : ∃ K, K = wt * W := ⟨_, rfl⟩
            rw [← hK] at l2 l4 ⊢
            have l3 : (w.toInt64 * (nx 41 t.2).1).toInt = (wt : Int) * (W : Int) := mlL l1 o1 (by omega) (by omega)
            rw [l4] at l3
            rw [adL hy l3 (by omega) (by omega)]
            exact (Int.natCast_add Y K).symm
          · rw [Nat.add_mul, Nat.mul_assoc, o3]
        · rw [if_neg w0] at hPP
          have e0w : wt = 0 := by omega
          exact ⟨y, Y, s, C, hPP, hy, hs, Nat.le_add_right _ _, cb, by rw [e0w, Nat.zero_mul, Nat.add_zero]⟩
      have fin : ∀ (sf : Int64 → Int32 → St → Int64 × St) (y : Int64) (i : Int32) (s : St), 1 < i.toInt → P sf y i s = (y, s) := by
        intro sf y i s h
        rw [eP]
        simp only [xl_d, xm_d, if_pos h]
      have hx0 : FrD D x x := fun _ _ _ _ => rfl
      have z1 : ((0 : Int32) + 1).toInt = 1 := rfl
      have z2 : ((0 : Int32) + 1 + 1).toInt = 2 := rfl
      have hAB : (10 - v) * (30 * E) + v * (30 * E) = 10 * (30 * E) := by rw [← Nat.add_mul, show 10 - v + v = 10 by omega]
      obtain ⟨sf0, hs0⟩ : ∃ sf0, sf0 = lp P (fun _ _ _ => ((0 : Int64), x)) (M + 1 + 1) := ⟨_, rfl⟩
      obtain ⟨sf1, hs1⟩ : ∃ sf1, sf1 = lp P (fun _ _ _ => ((0 : Int64), x)) (M + 1) := ⟨_, rfl⟩
      obtain ⟨sf2, hs2⟩ : ∃ sf2, sf2 = lp P (fun _ _ _ => ((0 : Int64), x)) M := ⟨_, rfl⟩
      have e01 : sf0 = P sf1 := by rw [hs0, hs1, lp_s]
      have e12 : sf1 = P sf2 := by rw [hs1, hs2, lp_s]
      rw [lp_s, ← hs0] at hu
      obtain ⟨y1, Y1, s1, C0, a1, a2, a3, a4, a5, a6⟩ := it0 sf0 0 0 0 0 (10 - v) 0 (10 - x.1 41 2) x (by omega) rfl (by rw [sbI (a := 10) (b := (v : Int)) rfl hvx (by omega) (by omega)]; omega) (by omega) rfl (by omega) hx0 (by
        intro u C t hU hC ht
        rw [eP]
        simp only [xl_d, xm_d, Nat.reduceAdd, n0, n1, p0, p1, if_neg (show ¬ 1 < (0 : Int32).toInt by omega), if_neg (show ¬ (0 : Int32).toInt = 1 by omega)]
        rw [hU, hC, ht])
      obtain ⟨y2, Y2, s2, C1, b1, b2, b3, b4, b5, b6⟩ := it0 sf1 y1 Y1 (0 + 1) 1 v 1 (s1.1 41 2) s1 (by omega) rfl (by rw [a3 41 2 (by omega) (by omega)]; exact hvx) hv a2 (by omega) a3 (by
        intro u C t hU hC ht
        rw [eP]
        simp only [xl_d, xm_d, Nat.reduceAdd, n0, n1, p0, p1, if_neg (show ¬ 1 < ((0 : Int32) + 1).toInt by omega), if_pos z1]
        rw [hU, hC, ht])
      rw [a1, e01, b1, e12, fin _ _ _ _ (by omega)] at hu
      rw [← hu]
      refine ⟨⟨Y2, b2, by omega, ?_⟩, b3⟩
      rw [Rr_y (vzO_q fl) ha (by omega) hz g a5 b5, show 10 - hr z = 9 - hr z + 1 by omega, Nat.pow_succ, ← Nat.mul_assoc, b6, a6, Nat.zero_mul, Nat.zero_add, ← Nat.mul_assoc (10 - v), ← Nat.mul_assoc v, ← Nat.add_mul, Nat.mul_assoc, Nat.mul_comm E 10]
    · rw [if_pos (hcs.mpr g)] at hu
      obtain ⟨w1, w2⟩ := hW.bec hD
      obtain ⟨⟨W, o1, o2, o3⟩, o4⟩ := hf _ z w1 (by rw [w2 41 2 (by omega) (by omega)]; exact hvx) (by rw [w2 41 3 (by omega) (by omega)]; exact hfl) (by omega)
      rw [hd1, ← hE] at o2 o3
      rw [← hu]
      refine ⟨⟨10 * W, ?_, by omega, ?_⟩, fun a b y1 y2 => ?_⟩
      · show ((10 : Int64) * (nx 41 (F_X2_become (53 + D) (52 + D) x)).1).toInt = _
        rw [mlL (x := (10 : Int64)) (a := 10) rfl o1 (by omega) (by omega)]
        omega
      · rw [Rr_n g, Nat.mul_assoc, o3]
        exact Nat.mul_left_comm 10 _ E
      · show (nx 41 (F_X2_become (53 + D) (52 + D) x)).2.1 a b = _
        rw [o4 a b (by omega) y2, w2 a b y1 y2]
  · rw [if_pos (hpl.mpr (by omega))] at hu
    exact hW.leaf hv hfl (by omega) hu
theorem cn8 : (8 : Int32).toNatClampNeg = 8 := rfl
theorem OG.e {al : Nat → Int32} {n v : Nat} {fl : Int32} (hv : v ≤ 10) : OG al n v fl 8 (F_X1_weigh_v8 41) := by
  intro x z hW _ hfl hn
  have h8 := hW.2.1.2
  refine hW.leaf hv hfl (by omega) ?_
  simp only [F_X1_weigh_v8, xl_d, Nat.reduceAdd, cn8]
theorem OG.z {al : Nat → Int32} {n v : Nat} {fl : Int32} (hv : v ≤ 10) : OG al n v fl 0 (F_X1_weigh_v0 41) := by
  have h8 : OG al n v fl 8 (F_X1_weigh_v8 41) := OG.e hv
  have h7 : OG al n v fl 7 (F_X1_weigh_v7 41) := by rw [wv_7]; exact OG.step (by omega) rfl rfl hv h8
  have h6 : OG al n v fl 6 (F_X1_weigh_v6 41) := by rw [wv_6]; exact OG.step (by omega) rfl rfl hv h7
  have h5 : OG al n v fl 5 (F_X1_weigh_v5 41) := by rw [wv_5]; exact OG.step (by omega) rfl rfl hv h6
  have h4 : OG al n v fl 4 (F_X1_weigh_v4 41) := by rw [wv_4]; exact OG.step (by omega) rfl rfl hv h5
  have h3 : OG al n v fl 3 (F_X1_weigh_v3 41) := by rw [wv_3]; exact OG.step (by omega) rfl rfl hv h4
  have h2 : OG al n v fl 2 (F_X1_weigh_v2 41) := by rw [wv_2]; exact OG.step (by omega) rfl rfl hv h3
  have h1 : OG al n v fl 1 (F_X1_weigh_v1 41) := by rw [wv_1]; exact OG.step (by omega) rfl rfl hv h2
  rw [wv_0]
  exact OG.step (by omega) rfl rfl hv h1
