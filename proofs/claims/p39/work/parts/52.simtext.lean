/-! text: both answer alike, and stay alike -/
theorem Dr0 {c m : St} (h3 : c.1 3 3 = 0 ∧ c.1 3 4 = 0 ∧ c.1 3 6 = 0 ∧ c.1 3 7 = 0 ∧ c.1 3 8 = 20 ∧ c.1 3 9 = 2 ∧ c.1 3 10 = 3 ∧ c.1 3 11 = 0 ∧ c.1 8 0 = 0 ∧ c.1 8 1 = 0 ∧ c.1 8 2 = 0 ∧ c.1 8 3 = 20 ∧ c.1 3 14 = 0 ∧ c.1 3 17 = 0) (h7 : c.1 1 7 = 0) (hm : ∀ b : Nat, b < 54 → m.1 4 b = fd b) (h6 : m.1 0 6 = 0 ∧ m.1 0 7 = 0 ∧ m.1 0 8 = 0 ∧ m.1 0 9 = 0 ∧ m.1 0 10 = (-4)) : Dr c m := by
  have c0 : (0 : Int32).toInt = 0 := rfl
  have c20 : (20 : Int32).toInt = 20 := rfl
  have c4 : (-4 : Int32).toInt = -4 := rfl
  obtain ⟨a1, a2, a3, a4, a5, a6, a7, a8, a9, a10, a11, a12, a13, a14⟩ := h3
  obtain ⟨b1, b2, b3, b4, b5⟩ := h6
  have d32 : m.1 4 32 = 0 := by rw [hm 32 (by omega)]; rfl
  refine ⟨⟨⟨by rw [a1, b1], by rw [b1]; omega, by rw [b1]; omega⟩, fun i hi => by rw [b1] at hi; omega⟩, ⟨⟨by rw [a3, b2], by rw [b2]; omega, by rw [b2]; omega⟩, fun i hi => by rw [b2] at hi; omega⟩, ?_, ⟨⟨by rw [a13, d32], by rw [d32]; omega, by rw [d32]; omega⟩, ⟨by rw [a2, b3], by rw [b3]; omega, by rw [b3]; omega⟩, fun i hi => by rw [d32] at hi; omega, fun s hs => ?_⟩, ⟨⟨by rw [b4, h7]; rfl, by rw [h7]; omega, by rw [h7]; omega⟩, fun _ => by rw [d32]; exact c0⟩⟩
  · unfold DF
    rw [a4, a5, a6, a7, a12, a8, a9, a10, a11, a14, hm 23 (by omega), hm 24 (by omega), hm 25 (by omega), hm 26 (by omega), hm 27 (by omega), hm 28 (by omega), hm 29 (by omega), hm 30 (by omega), hm 31 (by omega), hm 41 (by omega)]
    exact ⟨⟨rfl, rfl⟩, rfl, rfl, rfl, ⟨rfl, by decide, by decide⟩, rfl, ⟨rfl, rfl⟩, ⟨rfl, rfl⟩, ⟨rfl, rfl⟩, ⟨rfl, rfl⟩⟩
  · rw [b5, b3, d32]
    have hp : 0 < 2 ^ s := Nat.two_pow_pos s
    constructor
    · intro _; exact ⟨by omega, fun i hi => by omega⟩
    · intro _; omega
set_option maxHeartbeats 1000000 in
theorem sim_text {c m : St} {r r2 : Int32} {u w : St} (h : Sim c m) (hC : (r, u) = F_X7_text 0 c) (hM : (r2, w) = F_X8_text 0 m) (fC : ∀ k j : Nat, ¬ ((0 + 1 ≤ k ∧ k < 0 + 21) ∨ k = 0 + 63 ∨ (k = 0 ∧ j = 9)) → u.1 k j = c.1 k j) (gC : (∀ k j : Nat, ¬ (k = 0 + 1 ∨ (0 + 3 ≤ k ∧ k < 0 + 12) ∨ (k = 0 ∧ j = 9)) → u.1 k j = c.1 k j) ∨ (u.1 0 9).toInt = 0) (fM : ∀ k j : Nat, ¬ ((k = 0 ∧ 3 ≤ j ∧ j ≤ 18) ∨ k = 0 + 1 ∨ k = 0 + 3 ∨ k = 0 + 4) → w.1 k j = m.1 k j) (gM : (∀ k j : Nat, ¬ ((k = 0 ∧ 6 ≤ j ∧ j ≤ 18) ∨ k = 0 + 4) → w.1 k j = m.1 k j) ∨ (w.1 0 17).toInt = 0) : r = r2 ∧ Sim u w := by
  have c0 : (0 : Int32).toInt = 0 := rfl
  have c6 : (6 : Int32).toInt = 6 := rfl
  have cb : vp_nar .boolean (0 : Int32) = 0 := rfl
  obtain ⟨hbb, hB, hl⟩ := h.2.2.1.ok
  have hL0 := h.2.2.1.1.2
  generalize hBB : BM 0 m = B at hbb hB
  generalize hLL : (m.1 0 12).toInt = L at hB hl hL0
  obtain ⟨N, hN⟩ : ∃ N : Nat, N = (2147483647 - (0 : Int32).toInt).toNat := ⟨_, rfl⟩
  -- the reading of the class
  obtain ⟨rl, hrl0⟩ : ∃ z, F_X5_readLines 1 c = z := ⟨_, rfl⟩
  have hrl := hrl0
  unfold F_X5_readLines at hrl
  rw [← hN] at hrl
  obtain ⟨J68, e68, hrl⟩ := xl_e hrl
  obtain ⟨P33, e33, hrl⟩ := xl_e hrl
  obtain ⟨u20, eu20, hrl⟩ := xl_e hrl
  obtain ⟨x22, ex22, hrl⟩ := xl_e hrl
  obtain ⟨x23, ex23, hrl⟩ := xl_e hrl
  obtain ⟨x24, ex24, hrl⟩ := xl_e hrl
  obtain ⟨x25, ex25, hrl⟩ := xl_e hrl
  simp only [xl_d, Nat.reduceAdd] at hrl
  simp only [Nat.reduceAdd] at eu20
  have hcl := clC0 c
  rw [← eu20] at hcl
  obtain ⟨k1, k2, k3, k4, k5, k6, k7, k8, k9, k10, k11, k12, k13, k14, kf⟩ := hcl
  have n25 : ∀ a b : Nat, (a ≠ 1 ∨ (b ≠ 5 ∧ b ≠ 7 ∧ b ≠ 8 ∧ b ≠ 9)) → x25.1 a b = u20.1 a b := fun a b z => by rw [ex25, up1_n _ _ (by omega), ex24, up1_n _ _ (by omega), ex23, up1_n _ _ (by omega), ex22, up1_n _ _ (by omega)]
  have z5 : x25.1 1 5 = 0 := by rw [ex25, up1_s]
  have z7 : x25.1 1 7 = 0 := by rw [ex25, up1_n _ _ (by omega), ex24, up1_s]
  have z8 : x25.1 1 8 = 0 := by rw [ex25, up1_n _ _ (by omega), ex24, up1_n _ _ (by omega), ex23, up1_n _ _ (by omega), ex22, up1_s]
  -- the reference's
  obtain ⟨tx, htm0⟩ : ∃ z, F_X8_text 0 m = z := ⟨_, rfl⟩
  have htm := htm0
  rw [htm0] at hM
  unfold F_X8_text at htm
  obtain ⟨J73, e73, htm⟩ := xl_e htm
  obtain ⟨J68m, e68m, htm⟩ := xl_e htm
  obtain ⟨J44, e44, htm⟩ := xl_e htm
  obtain ⟨P20, e20, htm⟩ := xl_e htm
  obtain ⟨y22, ey22, htm⟩ := xl_e htm
  obtain ⟨y23, ey23, htm⟩ := xl_e htm
  obtain ⟨y24, ey24, htm⟩ := xl_e htm
  simp only [xl_d] at htm
  have hfd := fdM y23
  rw [← ey24] at hfd
  obtain ⟨d1, d2, d3⟩ := hfd
  have n24 : ∀ a b : Nat, (a ≠ 4 ∧ (a ≠ 0 ∨ b < 6 ∨ (10 < b ∧ b ≠ 13 ∧ b ≠ 17))) → y24.1 a b = m.1 a b := fun a b z => by rw [d3 a b (by omega), ey23, up1_n _ _ (by omega), ey22, up1_n _ _ (by omega)]
  have y13 : y24.1 0 13 = 0 := by rw [d3 0 13 (by omega), ey23, up1_s]
  have y17 : y24.1 0 17 = 0 := by rw [d3 0 17 (by omega), ey23, up1_n _ _ (by omega), ey22, up1_s]
  -- they begin alike
  have hS : RS 0 Dr B L x25 y24 := by
    refine ⟨⟨?_, ?_, ?_⟩, Or.inr ⟨by rw [z8]; exact c0, by rw [y17]; exact c0, by rw [z5, y13], by rw [y13]; omega, ?_⟩⟩
    · rw [BC_f (v := c) (by rw [n25 1 1 (by omega), kf 1 1 (by omega)]) (fun i => by rw [n25 2 i (by omega), kf 2 i (by omega)])]; exact hbb
    · rw [BM_f (v := m) (n24 0 12 (by omega)) (fun i => n24 5 i (by omega))]; exact hBB
    · rw [n25 1 1 (by omega), kf 1 1 (by omega)]; exact hl
    · refine Dr0 ?_ z7 d1 d2
      rw [n25 3 3 (by omega), n25 3 4 (by omega), n25 3 6 (by omega), n25 3 7 (by omega), n25 3 8 (by omega), n25 3 9 (by omega), n25 3 10 (by omega), n25 3 11 (by omega), n25 8 0 (by omega), n25 8 1 (by omega), n25 8 2 (by omega), n25 8 3 (by omega), n25 3 14 (by omega), n25 3 17 (by omega)]
      exact ⟨k1, k2, k3, k4, k5, k6, k7, k8, k9, k10, k11, k12, k13, k14⟩
  have hA := (hS.next Dr_stb hB).1
  have hR := (hA.take Dr_stb hB).1
  have E33 : ∀ sf y x, P33 sf y x = if (x.1 1 8).toInt = 0 then (if (x.1 1 3).toInt = 0 then J68 y x else (if 160 < y.toInt then J68 y x else sf (y + 1) (F_X5_takeToken 1 (F_X5_readLine 1 x)))) else J68 y x := fun sf y x => by rw [e33]; simp only [xl_d]
  have E20 : ∀ sf y x, P20 sf y x = if (x.1 0 17).toInt = 0 then (if (x.1 0 15).toInt = 0 then J44 y x else sf (y + 1) (F_X8_readLine 0 x)) else J44 y x := fun sf y x => by rw [e20]; simp only [xl_d]
  generalize F_X5_takeToken 1 x25 = cs at hR hrl
  generalize F_X8_next1 0 y24 = ms at hR htm
  obtain ⟨yy, c2, m2, q2, g1, g2, hR2, hkind⟩ := RT.lines hB E33 E20 (dC := fun _ _ => (0, c)) (dM := fun _ _ => (0, m)) 200 0 0 cs ms (N + 1) (tm (ms.1 0 13).toInt (ms.1 0 17).toInt (ms.1 0 15).toInt + 1) hR (by omega) (by omega) (fun z => by
    rcases hR.2 with w | w
    · exact absurd z w.1
    · have w4 := w.2.2.1.2.2.2.1
      have w2 := w.2.2.1.2.1
      omega) (by rw [← hN]; exact Nat.lt_succ_self N) (Nat.succ_pos _) (fun _ => Nat.lt_succ_self _)
  rw [g1] at hrl
  rw [g2] at htm
  have E68 : J68 yy c2 = if (c2.1 1 8).toInt = 0 then (if (F_X5_namesNoStar 1 c2).toInt = 0 then (yy, c2) else (yy, F_X5_refuse 1 6 (c2.1 1 1) c2)) else (yy, c2) := by rw [e68]; simp only [xl_d]
  have E73 : ∀ (y : Int32) (x : St), J73 y x = if 0 < ((up1 x 0 12 0).1 0 17).toInt then ((-10 : Int32) - (up1 x 0 12 0).1 0 18, up1 x 0 12 0) else (y, F_X8_keepDraft 0 (up1 x 0 12 0)) := fun y x => by rw [e73]; simp only [xl_d]
  have E68m : ∀ (y z : Int32) (x : St), J68m y z x = J73 y (F_X8_needs 0 z 6 x) := fun y z x => by rw [e68m]; simp only [xl_d]
  have E44 : J44 yy m2 = if (m2.1 0 17).toInt = 0 then (if (m2.1 0 10).toInt < (m2.1 0 6).toInt then J73 yy (F_X8_needs 0 1 6 m2) else J73 yy (F_X8_needs 0 0 6 m2)) else J73 yy m2 := by rw [e44]; simp only [xl_d]; rw [E68m, E68m]
  -- the class behind its reading
  unfold F_X7_text at hC
  rw [← hN] at hC
  obtain ⟨P61, e61, hC⟩ : ∃ P61 : (Int32 → Int32 → St → Int32 × St) → Int32 → Int32 → St → Int32 × St, (∀ sf a b x, P61 sf a b x = if b.toInt < 2 then sf a (b + 1) (up1 x 63 b.toNatClampNeg 0) else (a, x)) ∧ (r, u) = (if ((up1 (up1 rl.2 1 1 0) 0 9 ((up1 rl.2 1 1 0).1 1 8)).1 0 9).toInt = 0 then lp P61 (fun _ _ _ => ((0 : Int32), c)) (N + 1) rl.1 0 (F_X0_become 12 3 (up1 (up1 rl.2 1 1 0) 0 9 ((up1 rl.2 1 1 0).1 1 8))) else ((-10 : Int32) - (up1 (up1 rl.2 1 1 0) 0 9 ((up1 rl.2 1 1 0).1 1 8)).1 1 9, up1 (up1 rl.2 1 1 0) 0 9 ((up1 rl.2 1 1 0).1 1 8))) := by
    obtain ⟨P61, e61, hC⟩ := xl_e hC.symm
    refine ⟨P61, fun sf a b x => ?_, ?_⟩
    · rw [e61]; simp only [xl_d, Nat.reduceAdd]; rw [cb]
    · simp only [xl_d, xm_d, Nat.reduceAdd] at hC
      rw [hrl0] at hC
      exact hC.symm
  -- a fault
  have bad_end : ∀ (cf mf : St), rl.2 = cf → Fl cf mf → tx = J73 yy mf → r = r2 ∧ Sim u w := by
    intro cf mf hcf hfl htx
    rw [hcf] at hC
    have v9 : ∀ a b : Nat, (a ≠ 0 ∨ b ≠ 9) → (up1 (up1 cf 1 1 0) 0 9 ((up1 cf 1 1 0).1 1 8)).1 a b = (up1 cf 1 1 0).1 a b := fun a b z => up1_n _ _ z
    have s9 : (up1 (up1 cf 1 1 0) 0 9 ((up1 cf 1 1 0).1 1 8)).1 0 9 = cf.1 1 8 := by rw [up1_s, up1_n _ _ (by omega)]
    rw [s9, if_neg hfl.1, v9 1 9 (by omega), up1_n _ _ (by omega)] at hC
    have m17 : (up1 mf 0 12 0).1 0 17 = mf.1 0 17 := up1_n _ _ (by omega)
    rw [htx, E73, m17, if_pos hfl.2.1, up1_n _ _ (by omega)] at hM
    obtain ⟨hr, hu⟩ := Prod.mk.inj hC
    obtain ⟨hr2, hw⟩ := Prod.mk.inj hM
    have u09 : u.1 0 9 = cf.1 1 8 := by rw [hu]; exact s9
    have w17 : w.1 0 17 = mf.1 0 17 := by rw [hw]; exact m17
    have u11 : u.1 1 1 = 0 := by rw [hu, v9 1 1 (by omega), up1_s]
    have w12 : w.1 0 12 = 0 := by rw [hw, up1_s]
    have ffC := gC.resolve_right (fun z => by rw [u09] at z; exact hfl.1 z)
    have ffM := gM.resolve_right (fun z => by rw [w17] at z; have := hfl.2.1; omega)
    refine ⟨?_, ?_, ?_, ?_, ?_, ?_⟩
    · rw [hr, hr2, Int32.toInt_inj.mp hfl.2.2]
    · exact h.1.fr (ffM _ _ (by omega)) (ffM _ _ (by omega)) (fun b _ _ => ffM _ _ (by omega)) (fun a b _ _ => ffC _ _ (by omega))
    · exact h.2.1.fr (ffM _ _ (by omega)) (ffM _ _ (by omega)) (fun b _ => ffM _ _ (by omega)) (fun b => ffM _ _ (by omega)) (fun a b _ _ => ffC _ _ (by omega))
    · exact ⟨⟨by rw [u11, w12], by rw [w12]; omega, by rw [w12]; omega⟩, fun i hi => by rw [w12] at hi; omega⟩
    · exact h.2.2.2.1.fr (fun a b _ _ => ffC _ _ (by omega)) (fun a b _ => ffM _ _ (by omega))
    · rw [ffC 0 10 (by omega), ffM 0 29 (by omega)]; exact h.2.2.2.2
  obtain ⟨hT2, hfl | ⟨h0, h17, hTT, hd⟩⟩ := id hR2
  · rw [E68, if_neg hfl.1] at hrl
    rw [E44, if_neg (by have := hfl.2.1; omega)] at htm
    exact bad_end c2 m2 (by rw [← hrl]) hfl htm.symm
  · rw [E68, if_pos h0] at hrl
    rw [E44, if_pos h17] at htm
    have hnn := nnS hd
    have hk0 := hkind h0
    obtain ⟨t1, t2, t3, t4, t5, t6, t7⟩ := id hTT
    by_cases hs : (m2.1 0 10).toInt < (m2.1 0 6).toInt
    · -- taken
      rw [if_pos (hnn.mpr hs)] at hrl
      rw [if_pos hs, neeM_o (by decide), E73] at htm
      have m17 : (up1 m2 0 12 0).1 0 17 = m2.1 0 17 := up1_n _ _ (by omega)
      rw [m17, if_neg (by omega)] at htm
      rw [← htm] at hM
      rw [← hrl] at hC
      simp only at hC
      have s9 : (up1 (up1 c2 1 1 0) 0 9 ((up1 c2 1 1 0).1 1 8)).1 0 9 = c2.1 1 8 := by rw [up1_s, up1_n _ _ (by omega)]
      rw [s9, if_pos h0] at hC
      generalize hv9 : up1 (up1 c2 1 1 0) 0 9 ((up1 c2 1 1 0).1 1 8) = v9 at hC
      have n9 : ∀ a b : Nat, 3 ≤ a → v9.1 a b = c2.1 a b := fun a b z => by rw [← hv9, up1_n _ _ (by omega), up1_n _ _ (by omega)]
      have v911 : v9.1 1 1 = 0 := by rw [← hv9, up1_n _ _ (by omega), up1_s]
      have hbe := beN 12 3 (by omega) v9
      generalize F_X0_become 12 3 v9 = u12 at hbe hC
      obtain ⟨be1, be2, be3, be4, be5, be6, be7⟩ := hbe
      obtain ⟨hm1, hm2⟩ := Prod.mk.inj hM
      -- the images are gone
      have L61 : lp P61 (fun _ _ _ => ((0 : Int32), c)) (N + 1) yy 0 u12 = (yy, up1 (up1 u12 63 0 0) 63 1 0) := by
        obtain ⟨n, rfl⟩ : ∃ n, N = n + 2 := ⟨N - 2, by rw [hN]; decide⟩
        have a1 : ((0 : Int32) + 1).toInt = 1 := rfl
        have a2 : ((0 : Int32) + 1 + 1).toInt = 2 := rfl
        have b0 : (0 : Int32).toNatClampNeg = 0 := rfl
        have b1 : ((0 : Int32) + 1).toNatClampNeg = 1 := rfl
        rw [lp_s, e61, if_pos (by omega), lp_s, e61, if_pos (by omega), lp_s, e61, if_neg (by omega), b0, b1]
      rw [L61] at hC
      obtain ⟨hc1, hc2⟩ := Prod.mk.inj hC
      have hKD := kdM (up1 m2 0 12 0) (by rw [up1_n _ _ (by omega)]; exact hd.1.1.2)
      rw [← hm2] at hKD
      obtain ⟨kd1, ⟨kd2, kd3, kd4, kd5⟩, kd6⟩ := hKD
      have nu : ∀ a b : Nat, a ≠ 63 → u.1 a b = u12.1 a b := fun a b z => by rw [hc2, up1_n _ _ (by omega), up1_n _ _ (by omega)]
      have u630 : u.1 63 0 = 0 := by rw [hc2, up1_n _ _ (by omega), up1_s]
      have u631 : u.1 63 1 = 0 := by rw [hc2, up1_s]
      have e6 : (up1 m2 0 12 0).1 0 6 = m2.1 0 6 := up1_n _ _ (by omega)
      have e7 : (up1 m2 0 12 0).1 0 7 = m2.1 0 7 := up1_n _ _ (by omega)
      have e8 : (up1 m2 0 12 0).1 0 8 = m2.1 0 8 := up1_n _ _ (by omega)
      have e4 : ∀ b : Nat, (up1 m2 0 12 0).1 4 b = m2.1 4 b := fun b => up1_n _ _ (by omega)
      rw [e6] at kd1 kd2
      rw [e7] at kd3
      simp only [e8, e4] at kd1
      -- fields of the class
      have cf : ∀ j : Nat, (j = 3 ∨ j = 4 ∨ (6 ≤ j ∧ j ≤ 11) ∨ j = 14 ∨ j = 17) → u.1 12 j = c2.1 3 j := fun j z => by rw [nu 12 j (by omega), be1 j z, n9 3 j (by omega)]
      have cp : ∀ j : Nat, j < 4 → u.1 (12 + 5) j = c2.1 8 j := fun j z => by rw [nu (12 + 5) j (by omega), be2 j z, n9 (3 + 5) j (by omega)]
      have wd_ : ∀ b : Nat, b < 54 → (∀ s : Nat, s < 5 → b ≠ 4 * s + 3) → w.1 1 b = m2.1 4 b := fun b hb z => (kd1 b hb).1 (fun s hs2 => z s (by have := hd.1.1.2; omega))
      obtain ⟨dS, dW, dF, dP, dT⟩ := hd
      obtain ⟨q1, q2', q3, q4, q5, q6, q7, q8, q9, q10⟩ := dF
      obtain ⟨p1, p2, p4, p5⟩ := dP
      obtain ⟨sn, hsn⟩ := Int.eq_ofNat_of_zero_le dS.1.2.1
      have p6 := (p5 sn (by have := dS.1.2; omega)).mp (by rw [← hsn]; exact hs)
      refine ⟨by rw [hc1, hm1], ?_, ?_, ?_, ?_, ?_⟩
      · refine ⟨⟨⟨by rw [cf 3 (by omega), kd2]; exact dS.1.1, by rw [kd2]; exact dS.1.2.1, by rw [kd2]; exact dS.1.2.2⟩, ⟨by rw [cf 6 (by omega), kd3]; exact dW.1.1, by rw [kd3]; exact dW.1.2.1, by rw [kd3]; exact dW.1.2.2⟩⟩, ⟨?_, ?_, ?_, ?_, ?_, ?_, ?_, ?_, ?_⟩, ⟨⟨?_, ?_, ?_⟩, fun i hi => ?_⟩, fun i hi => ?_, ⟨?_, fun i hi => ?_⟩, ⟨?_, fun i hi => ?_⟩⟩
        · rw [cf 7 (by omega), wd_ (0 + 23) (by omega) (by omega)]
          refine ⟨q1.1, ?_, fun z => ?_⟩
          · show 0 ≤ (m2.1 4 23).toInt
            have := q1.2; omega
          · show (m2.1 4 23).toInt < _
            have := dW.1.2.1
            rw [kd3] at z ⊢
            have := q1.2; omega
        · rw [cf 8 (by omega), wd_ (0 + 24) (by omega) (by omega)]; exact q2'
        · rw [cf 9 (by omega), wd_ (0 + 25) (by omega) (by omega)]; exact q3
        · rw [cf 10 (by omega), wd_ (0 + 26) (by omega) (by omega)]; exact q4
        · rw [cp 3 (by omega), wd_ (0 + 27) (by omega) (by omega)]; exact q5
        · rw [cf 11 (by omega), wd_ (0 + 28) (by omega) (by omega)]; exact q6
        · rw [cp 0 (by omega), wd_ (0 + 29) (by omega) (by omega)]
          refine ⟨q7.1, ?_, ?_⟩
          · show 0 ≤ (m2.1 4 29).toInt
            have := q7.2; omega
          · show (m2.1 4 29).toInt ≤ 10
            have := q7.2; omega
        · rw [cp 1 (by omega), wd_ (0 + 30) (by omega) (by omega), wd_ (0 + 29) (by omega) (by omega)]
          refine ⟨q8.1, ?_, ?_⟩
          · show 0 ≤ (m2.1 4 30).toInt
            have := q8.2; omega
          · show (m2.1 4 30).toInt ≤ 3 * (m2.1 4 29).toInt
            have := q8.2; have := q7.2; omega
        · rw [cp 2 (by omega), wd_ (0 + 31) (by omega) (by omega), wd_ (0 + 29) (by omega) (by omega)]
          refine ⟨q9.1, ?_, ?_⟩
          · show -30 * (m2.1 4 29).toInt ≤ (m2.1 4 31).toInt
            have := q9.2; have := q7.2; omega
          · show (m2.1 4 31).toInt ≤ 30 * (m2.1 4 29).toInt
            have := q9.2; have := q7.2; omega
        · rw [cf 4 (by omega), p2.1]; exact p2.2.1
        · rw [cf 4 (by omega), p2.1]; exact p2.2.2
        · intro s hs5 es
          rw [kd2, hsn] at es
          have : s = sn := by omega
          rw [cf 4 (by omega), p2.1, this]
          exact p6.1
        · rw [kd2] at hi
          have i5 : i < 5 := by have := dS.1.2; omega
          have dsi := dS.2 i hi
          rw [nu (12 + 1) i (by omega), nu (12 + 2) i (by omega), nu (12 + 3) i (by omega), (be3 i i5).1, (be3 i i5).2.1, (be3 i i5).2.2, n9 (3 + 1) i (by omega), n9 (3 + 2) i (by omega), n9 (3 + 3) i (by omega), Nat.zero_add, wd_ (4 * i) (by omega) (by omega), wd_ (4 * i + 1) (by omega) (by omega), wd_ (4 * i + 2) (by omega) (by omega), (kd1 (4 * i + 3) (by omega)).2 i hi rfl, cf 4 (by omega), p2.1]
          exact ⟨dsi.1, dsi.2.1, dsi.2.2, rfl⟩
        · rw [kd3] at hi
          have i3 : i < 3 := by have := dW.1.2; omega
          rw [nu (12 + 4) i (by omega), be4 i i3, n9 (3 + 4) i (by omega), Nat.zero_add, wd_ (20 + i) (by omega) (by omega)]
          exact dW.2 i hi
        · rw [cf 14 (by omega), wd_ (0 + 32) (by omega) (by omega)]; exact p1
        · rw [wd_ (0 + 32) (by omega) (by omega)] at hi
          have hi : (i : Int) < (m2.1 4 32).toInt := hi
          have i8 : i < 8 := by have := p1.2; omega
          rw [nu (12 + 6) i (by omega), be5 i i8, n9 (3 + 6) i (by omega), Nat.zero_add, wd_ (33 + i) (by omega) (by omega), kd2, hsn]
          have := p4 i hi
          exact ⟨this.1, this.2.1, this.2.2, fun z => p6.2 i hi z⟩
        · rw [cf 17 (by omega), wd_ (0 + 41) (by omega) (by omega)]
          refine ⟨q10.1, ?_, ?_⟩
          · show 0 ≤ (m2.1 4 41).toInt
            have := q10.2; omega
          · show (m2.1 4 41).toInt ≤ 6
            have := q10.2; omega
        · rw [wd_ (0 + 41) (by omega) (by omega)] at hi
          have hi : (i : Int) < (m2.1 4 41).toInt := hi
          have := q10.2; omega
      · intro i hi
        rcases (show i = 0 ∨ i = 1 by omega) with rfl | rfl
        · rw [u630, kd4]; exact ⟨rfl, Or.inl c0, fun z => by omega⟩
        · rw [u631, kd5]; exact ⟨rfl, Or.inl c0, fun z => by omega⟩
      · have w12 : w.1 0 12 = 0 := by rw [kd6 0 12 (by omega), up1_s]
        have u11 : u.1 1 1 = 0 := by rw [nu 1 1 (by omega), be7 1 1 (by omega)]; exact v911
        exact ⟨⟨by rw [u11, w12], by rw [w12]; omega, by rw [w12]; omega⟩, fun i hi => by rw [w12] at hi; omega⟩
      · exact h.2.2.2.1.fr (fun a b _ _ => fC _ _ (by omega)) (fun a b _ => fM _ _ (by omega))
      · rw [fC 0 10 (by omega), fM 0 29 (by omega)]; exact h.2.2.2.2
    · -- a star that there is not
      rw [if_neg (fun z => hs (hnn.mp z)), refC h0] at hrl
      rw [if_neg hs, neeM h17 (by decide)] at htm
      refine bad_end _ _ (by rw [← hrl]) (Fl.new (by decide) (by decide) ?_) htm.symm
      rw [hk0] at t5
      have hb := kd_0 t5.symm
      have := ((hB.2.2 (m2.1 0 14).toInt).2).mp hb
      rw [hT2.2.2]
      omega
