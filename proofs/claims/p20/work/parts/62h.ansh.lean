theorem ans_next {c m : St} {r r2 : Int32} {u w : St} (h : Sim c m) (hC : (r, u) = F_X7_next 0 c) (hM : (r2, w) = F_X8_next 0 m) : r = r2 := by
  have c0 : (0 : Int32).toInt = 0 := rfl
  have c1 : (1 : Int32).toInt = 1 := rfl
  have i1 : ¬ (1 : Int32).toInt = 0 := by decide
  obtain ⟨s1, s2⟩ := stM1 m
  have f5 := h.1.2.1.2.2.2.2.1
  have f7 := h.1.2.1.2.2.2.2.2.2.1
  simp only [Nat.zero_add, Nat.reduceAdd] at f5 f7
  have hcs := cnS (p := 17) (c := c)
  have hcw := cwM (m := F_X8_starts 0 m)
  rw [f5.1, f7.1] at hcs
  rw [s1 27 (by omega), s1 29 (by omega)] at hcw
  unfold F_X7_next at hC
  unfold F_X8_next at hM
  obtain ⟨N, hN⟩ : ∃ N : Nat, N = (2147483647 - (0 : Int32).toInt).toNat := ⟨_, rfl⟩
  rw [← hN] at hC hM
  obtain ⟨P, eP, hC⟩ := xl_e hC.symm
  obtain ⟨Q, eQ, hM⟩ := xl_e hM.symm
  simp only [xl_d, Nat.reduceAdd] at hC hM
  by_cases g : 0 < (m.1 1 27).toInt ∧ (m.1 1 29).toInt < 10
  · rw [if_neg (fun z => hcs.mp z g)] at hC
    rw [if_neg (fun z => hcw.mp z g)] at hM
    have Lp : ∀ (n : Nat) (a s gg fd f y : Int32) (x z : St), (2147483647 - y.toInt).toNat < n → 0 ≤ y.toInt → y.toInt ≤ 6 → ((fd.toInt = 0 ∧ y.toInt ≤ 5 ∧ z.1 0 21 = 1000000) ∨ (¬ fd.toInt = 0 ∧ a = f ∧ s = z.1 0 21 ∧ gg = z.1 0 22)) → NR 12 0 x z → z.1 1 27 = m.1 1 27 → z.1 1 29 = m.1 1 29 → (lp P (fun _ _ _ _ _ _ => ((0 : Int32), c)) n a s gg fd y x).1 = (lp Q (fun _ _ _ => ((0 : Int32), m)) n f y z).1 := by
      intro n
      induction n with
      | zero => intro a s gg fd f y x z hm; exact absurd hm (Nat.not_lt_zero _)
      | succ n ih =>
        intro a s gg fd f y x z hmm hy hy2 hab hR h27 h29
        rw [lp_s, lp_s]
        generalize lp P (fun _ _ _ _ _ _ => ((0 : Int32), c)) n = sf at *
        generalize lp Q (fun _ _ _ => ((0 : Int32), m)) n = sg at *
        rw [eP, eQ]
        simp only [xl_d, xm_d, Nat.reduceAdd]
        by_cases d : 5 < y.toInt
        · rw [if_pos d, if_pos d]
          rcases hab with t | t
          · omega
          · exact t.2.1
        · have ey : (y + 1).toInt = y.toInt + 1 := adI rfl rfl (by omega) (by omega)
          rw [if_neg d, if_neg d]
          obtain ⟨b0, b1, b2, b3, bf⟩ := beP 61 17 (by omega) x
          generalize F_X2_become 61 17 x = x5 at *
          have hR5 : NR 12 0 x5 z := hR.nx (fun a b _ => bf a b (by omega)) (fun _ _ _ => rfl)
          obtain ⟨t1, t2⟩ := stM1 z
          have ha1 := hasAm 12 y x5
          rw [hR5.1.1.1] at ha1
          have ha2 := isAmM (a := y) hR.1.1.2
          by_cases q : y.toInt = 5 ∨ y.toInt = 6 ∨ (0 ≤ y.toInt ∧ y.toInt < (z.1 0 3).toInt)
          · have hA : AtR 12 61 x5 (F_X8_starts 0 z) := hR5.at t1 (t2 0 3 (by omega)) (t2 0 4 (by omega)) (fun j hj => by
              rcases (show j = 0 ∨ j = 1 ∨ j = 2 ∨ j = 3 by omega) with rfl | rfl | rfl | rfl
              · rw [b0, bf (12 + 5) 0 (by omega)]
              · rw [b1, bf (12 + 5) 1 (by omega)]
              · rw [b2, bf (12 + 5) 2 (by omega)]
              · rw [b3, bf (12 + 5) 3 (by omega)])
            obtain ⟨g1, g2, g3, g4, g5⟩ := hA.step (by omega) (a := y) (by rw [t2 0 3 (by omega)]; exact q)
            rw [t1 27 (by omega), t1 29 (by omega), h27, h29] at g5
            rw [if_neg (fun zz => ha2.mp zz q)]
            generalize F_X8_steps 0 y (F_X8_starts 0 z) = T at *
            generalize F_X0_step 12 61 y x5 = S at *
            have T1 : T.1 = 1 := by
              rcases g5 with w | w
              · exact w.2.1
              · exact absurd g w.1
            rw [g1, T1, if_neg i1]
            have z21 : T.2.1 0 21 = z.1 0 21 := by rw [g4 0 21 (by omega), t2 0 21 (by omega)]
            have z22 : T.2.1 0 22 = z.1 0 22 := by rw [g4 0 22 (by omega), t2 0 22 (by omega)]
            have e30 : S.2.1 61 1 = T.2.1 2 30 := g2.2.2.2.2.2.2.1.1
            have e31 : S.2.1 61 2 = T.2.1 2 31 := g2.2.2.2.2.2.2.2.1
            have sb := g2.2.2.2.2.2.2.2.2
            have hb10 := g2.2.2.2.2.2.1.2
            have hRn : ∀ v1 v2 : Int32, NR 12 0 S.2 (up1 (up1 T.2 0 22 v1) 0 21 v2) := fun v1 v2 => hR5.nx (fun a b _ => g3 a b (by omega)) (fun a b _ => by rw [nn_ a b (by omega), nn_ a b (by omega), g4 a b (by omega), t2 a b (by omega)])
            have h27n : ∀ v1 v2 : Int32, (up1 (up1 T.2 0 22 v1) 0 21 v2).1 1 27 = m.1 1 27 := fun v1 v2 => by rw [nn_ 1 27 (by omega), nn_ 1 27 (by omega), g4 1 27 (by omega), t2 1 27 (by omega)]; exact h27
            have h29n : ∀ v1 v2 : Int32, (up1 (up1 T.2 0 22 v1) 0 21 v2).1 1 29 = m.1 1 29 := fun v1 v2 => by rw [nn_ 1 29 (by omega), nn_ 1 29 (by omega), g4 1 29 (by omega), t2 1 29 (by omega)]; exact h29
            have iB := isBM (m := T.2)
            rw [z21, z22] at iB
            have finT := ih y (T.2.1 2 31) (T.2.1 2 30) 1 y (y + 1) S.2 (up1 (up1 T.2 0 22 (T.2.1 2 30)) 0 21 (T.2.1 2 31)) (by omega) (by omega) (by omega) (Or.inr ⟨i1, rfl, by rw [up1_s], by rw [nn_ 0 22 (by omega), up1_s]⟩) (hRn _ _) (h27n _ _) (h29n _ _)
            rcases hab with ⟨w1, w2, w3⟩ | ⟨w1, w2, w3, w4⟩
            · have hbt : bttM T.2 (z.1 0 21) (z.1 0 22) := by
                refine Or.inl ?_
                rw [w3, sz6]
                have := szB (x := T.2.1 2 31) (by omega) T.2
                omega
              rw [if_pos w1, iB.1 hbt, if_neg i1, e30, e31]
              exact finT
            · rw [if_neg w1, w3, w4]
              have iC := isBC (s := z.1 0 21) (g := z.1 0 22) e31 e30
              by_cases k : bttM T.2 (z.1 0 21) (z.1 0 22)
              · rw [if_neg (fun zz => iC.mp zz k), iB.1 k, if_neg i1, e30, e31]
                exact finT
              · rw [if_pos (iC.mpr k), iB.2 k, if_pos c0]
                exact ih a (z.1 0 21) (z.1 0 22) fd f (y + 1) S.2 _ (by omega) (by omega) (by omega) (Or.inr ⟨w1, w2, by rw [up1_s], by rw [nn_ 0 22 (by omega), up1_s]⟩) (hRn _ _) (h27n _ _) (h29n _ _)
          · have ec : F_X0_step 12 61 y x5 = (0, x5) := by
              simp only [F_X0_step, xl_d]
              rw [if_pos (ha1.mpr q)]
            rw [ec, if_pos c0, if_pos (ha2.mpr q)]
            exact ih a s gg fd f (y + 1) x5 z (by omega) (by omega) (by omega) (hab.imp (fun t => ⟨t.1, by omega, t.2.2⟩) id) hR5 h27 h29
    have := Lp (N + 1) 5 0 0 0 (-4) 0 c (up1 (up1 (F_X8_starts 0 m) 0 21 1000000) 0 22 0) (by rw [← hN]; exact Nat.lt_succ_self N) (by omega) (by omega) (Or.inl ⟨rfl, by omega, by rw [nn_ 0 21 (by omega), up1_s]⟩) (h.1.nx (fun _ _ _ => rfl) (fun a b _ => by rw [nn_ a b (by omega), nn_ a b (by omega), s2 a b (by omega)])) (by rw [nn_ 1 27 (by omega), nn_ 1 27 (by omega), s2 1 27 (by omega)]) (by rw [nn_ 1 29 (by omega), nn_ 1 29 (by omega), s2 1 29 (by omega)])
    rw [hC, hM] at this
    exact this
  · rw [if_pos (hcs.mpr g)] at hC
    rw [if_pos (hcw.mpr g)] at hM
    rw [← (Prod.mk.inj hC).1, ← (Prod.mk.inj hM).1]
