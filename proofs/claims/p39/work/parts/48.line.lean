/-! a line -/
theorem nee9 {z e : Int32} {m : St} {a b : Nat} (h : a ≠ 0 ∨ (b ≠ 17 ∧ b ≠ 18)) : (F_X8_needs 0 z e m).1 a b = m.1 a b := by
  by_cases hz : z.toInt = 0
  · by_cases h0 : (m.1 0 17).toInt = 0
    · rw [neeM h0 hz, up1_n _ _ (by omega), up1_n _ _ (by omega)]
    · rw [neeM_x h0]
  · rw [neeM_o hz]
/-- the reference's line: what it does by its name's number -/
theorem rlM {m : St} {k : Int32} (h17 : (m.1 0 17).toInt = 0) (hk : k = if (m.1 0 15).toInt = 1 then F_X8_lineNow 0 m else (-4)) : (k.toInt = -4 → F_X8_readLine 0 m = up1 (up1 m 0 17 2) 0 18 (m.1 0 14)) ∧ (0 ≤ k.toInt → k.toInt ≤ 3 → F_X8_readLine 0 m = tailM k (F_X8_needs 0 (if (m.1 0 7).toInt < 3 then 1 else 0) 5 m)) ∧ (k.toInt = 4 → F_X8_readLine 0 m = tailM k (F_X8_needs 0 (if (m.1 0 6).toInt < 5 then 1 else 0) 5 m)) ∧ (5 ≤ k.toInt → k.toInt ≤ 6 → F_X8_readLine 0 m = tailM k m) ∧ (7 ≤ k.toInt → F_X8_readLine 0 m = tailM k (toldM k m)) := by
  have c1 : (1 : Int32).toInt = 1 := rfl
  have c0 : (0 : Int32).toInt = 0 := rfl
  have c2 : (2 : Int32).toInt = 2 := rfl
  generalize hu : F_X8_readLine 0 m = u
  unfold F_X8_readLine at hu
  obtain ⟨J166, e166, hu⟩ := xl_e hu
  obtain ⟨J162, e162, hu⟩ := xl_e hu
  obtain ⟨J124, e124, hu⟩ := xl_e hu
  obtain ⟨J108, e108, hu⟩ := xl_e hu
  obtain ⟨J74, e74, hu⟩ := xl_e hu
  obtain ⟨J69, e69, hu⟩ := xl_e hu
  obtain ⟨J30, e30, hu⟩ := xl_e hu
  obtain ⟨J17, e17, hu⟩ := xl_e hu
  have E166 : ∀ x : St, J166 x = F_X8_next1 0 x := fun x => by rw [e166]; simp only [xl_d]
  have E162 : ∀ (z : Int32) (x : St), J162 z x = F_X8_next1 0 (F_X8_needs 0 z 2 x) := fun z x => by rw [e162]; simp only [xl_d]; rw [E166]
  have E124 : ∀ (y : Int32) (x : St), J124 y x = tailM y x := fun y x => by
    rw [e124]
    simp only [xl_d]
    unfold tailM stM
    generalize F_X8_next1 0 x = x5
    by_cases f : 0 < (x5.1 0 17).toInt
    · rw [if_pos f, if_pos f]
    · rw [if_neg f, if_neg f]
      generalize F_X8_readLineOf 0 y x5 = x9
      by_cases g : (x9.1 0 17).toInt = 0
      · rw [if_pos g, if_pos g]
        by_cases g2 : (x9.1 0 15).toInt = 3
        · rw [if_pos g2, if_pos g2, E162, neeM_o (by omega)]
        · rw [if_neg g2, if_neg g2, E162, neeM g (by omega)]
      · rw [if_neg g, if_neg g, E166]
  have E108 : ∀ (y z : Int32) (x : St), J108 y z x = tailM y (up1 (F_X8_needs 0 z 4 x) 0 9 (kb (x.1 0 9) y)) := fun y z x => by
    rw [e108]
    simp only [xl_d]
    rw [E124, nee9 (by omega)]
    rfl
  have E74 : ∀ (y z : Int32) (x : St), J74 y z x = if ((F_X8_needs 0 z 5 x).1 0 17).toInt = 0 then (if y.toInt < 7 then tailM y (F_X8_needs 0 z 5 x) else (if (((F_X8_needs 0 z 5 x).1 0 9 >>> (y &&& 31)) &&& 1).toInt = 0 then tailM y (up1 (F_X8_needs 0 1 4 (F_X8_needs 0 z 5 x)) 0 9 (kb ((F_X8_needs 0 z 5 x).1 0 9) y)) else tailM y (up1 (F_X8_needs 0 0 4 (F_X8_needs 0 z 5 x)) 0 9 (kb ((F_X8_needs 0 z 5 x).1 0 9) y)))) else tailM y (F_X8_needs 0 z 5 x) := fun y z x => by
    rw [e74]
    simp only [xl_d]
    rw [E124, E108, E108]
  have E69 : ∀ (y : Int32) (x : St), J69 y x = J74 y 1 x := fun y x => by rw [e69]
  simp only [xl_d] at hu
  have hu : J17 k = u := by
    rw [hk]
    by_cases g : (m.1 0 15).toInt = 1
    · rw [if_pos g] at hu ⊢; exact hu
    · rw [if_neg g] at hu ⊢; exact hu
  rw [e17] at hu
  simp only at hu
  have E30 : ∀ y z : Int32, J30 y z = if y.toInt = 4 then (if ((F_X8_needs 0 z 2 m).1 0 6).toInt < 5 then J74 y 1 (F_X8_needs 0 z 2 m) else J74 y 0 (F_X8_needs 0 z 2 m)) else (if 4 < y.toInt then J74 y 1 (F_X8_needs 0 z 2 m) else (if ((F_X8_needs 0 z 2 m).1 0 7).toInt < 3 then J74 y 1 (F_X8_needs 0 z 2 m) else J74 y 0 (F_X8_needs 0 z 2 m))) := fun y z => by
    rw [e30]
    simp only [xl_d]
    rw [E69]
  have n1 : F_X8_needs 0 1 2 m = m := neeM_o (by decide)
  have n5 : F_X8_needs 0 1 5 m = m := neeM_o (by decide)
  -- a check of how many there are
  have T : ∀ (y z : Int32), y.toInt < 7 → J74 y z m = tailM y (F_X8_needs 0 z 5 m) := fun y z hy => by
    rw [E74, if_pos hy]
    split <;> rfl
  refine ⟨fun g => ?_, fun g1 g2 => ?_, fun g => ?_, fun g1 g2 => ?_, fun g => ?_⟩
  · rw [if_pos g, E30, if_neg (by omega), if_neg (by omega), neeM h17 (by omega)] at hu
    have X : ∀ z : Int32, J74 k z (up1 (up1 m 0 17 2) 0 18 (m.1 0 14)) = up1 (up1 m 0 17 2) 0 18 (m.1 0 14) := fun z => by
      have f17 : ((up1 (up1 m 0 17 2) 0 18 (m.1 0 14)).1 0 17).toInt = 2 := by rw [up1_n _ _ (Or.inr (by decide)), up1_s]; rfl
      rw [E74, neeM_x (by omega), if_neg (by omega)]
      unfold tailM
      rw [nextM_x (by omega), if_pos (by omega)]
    rw [X, X] at hu
    rw [← hu]
    split <;> rfl
  · rw [if_neg (by omega), E30, if_neg (by omega), if_neg (by omega), n1, T k 1 (by omega), T k 0 (by omega)] at hu
    rw [← hu]
    split <;> rfl
  · rw [if_neg (by omega), E30, if_pos g, n1, T k 1 (by omega), T k 0 (by omega)] at hu
    rw [← hu]
    split <;> rfl
  · rw [if_neg (by omega), E30, if_neg (by omega), if_pos (by omega), n1, T k 1 (by omega), n5] at hu
    exact hu.symm
  · rw [if_neg (by omega), E30, if_neg (by omega), if_pos (by omega), n1, E74, n5, if_pos h17, if_neg (by omega)] at hu
    rw [← hu]
    unfold toldM
    split <;> rfl
/-! in a fault the reference writes into its draft alone -/
theorem fx_walk {a : Int32} (ha : 0 ≤ a.toInt ∧ a.toInt ≤ 3) (m : St) (_ : 0 < (m.1 0 17).toInt) : WM m (F_X8_readLineOf 0 a m) := by
  rw [walkM a m ha]
  exact (WM.up (by omega)).tr (WM.up (by omega))
theorem fx_put {m : St} (h : 0 < (m.1 0 17).toInt) (a b : Int32) (jb : Nat) : WM m (up1 (F_X8_readNumber 0 a b m).2 4 jb (F_X8_readNumber 0 a b m).1) := by
  rw [rnM_x h]
  exact WM.up (by omega)
theorem fx_star (m : St) (h : 0 < (m.1 0 17).toInt) : WM m (F_X8_readLineOf 0 4 m) := by
  have e0 : F_X8_readLineOf 0 4 m = F_X8_readStar 0 m := by
    simp only [F_X8_readLineOf, xl_d, xm_d]
    rw [if_pos (by decide)]
  rw [e0]
  generalize hmm : F_X8_readStar 0 m = mm
  unfold F_X8_readStar at hmm
  obtain ⟨x1, ex1, hmm⟩ := xl_e hmm
  obtain ⟨x2, ex2, hmm⟩ := xl_e hmm
  obtain ⟨x3, ex3, hmm⟩ := xl_e hmm
  obtain ⟨r4, u5, eq1, hmm⟩ := xm_e hmm
  obtain ⟨v9, ev9, hmm⟩ := xl_e hmm
  obtain ⟨x10, ex10, hmm⟩ := xl_e hmm
  obtain ⟨x12, ex12, hmm⟩ := xl_e hmm
  obtain ⟨r13, u14, eq2, hmm⟩ := xm_e hmm
  obtain ⟨v17, ev17, hmm⟩ := xl_e hmm
  obtain ⟨x18, ex18, hmm⟩ := xl_e hmm
  obtain ⟨r19, u20, eq3, hmm⟩ := xm_e hmm
  obtain ⟨v24, ev24, hmm⟩ := xl_e hmm
  obtain ⟨x25, ex25, hmm⟩ := xl_e hmm
  obtain ⟨x26, ex26, hmm⟩ := xl_e hmm
  obtain ⟨v27, ev27, hmm⟩ := xl_e hmm
  subst hmm
  rw [rnM_x h] at eq1
  have w9 : WM m v9 := by rw [ev9, (Prod.mk.inj eq1).2]; exact WM.up (by omega)
  rw [rnM_x (by rw [w9.1 17 (by omega)]; exact h)] at eq2
  have w17 : WM m v17 := by rw [ev17, (Prod.mk.inj eq2).2]; exact w9.tr (WM.up (by omega))
  rw [rnM_x (by rw [w17.1 17 (by omega)]; exact h)] at eq3
  have w24 : WM m v24 := by rw [ev24, (Prod.mk.inj eq3).2]; exact w17.tr (WM.up (by omega))
  rw [ev27]
  exact w24.tr (WM.up (by omega))
theorem fx_known (m : St) (h : 0 < (m.1 0 17).toInt) : WM m (F_X8_readLineOf 0 5 m) := by
  have e0 : F_X8_readLineOf 0 5 m = F_X8_readKnown 0 m := by
    simp only [F_X8_readLineOf, xl_d, xm_d]
    rw [if_neg (by decide), if_pos (by decide)]
  rw [e0]
  generalize hmm : F_X8_readKnown 0 m = mm
  unfold F_X8_readKnown at hmm
  obtain ⟨J67, e67, hmm⟩ := xl_e hmm
  obtain ⟨J64, e64, hmm⟩ := xl_e hmm
  obtain ⟨J31, e31, hmm⟩ := xl_e hmm
  simp only [xl_d, xm_d] at hmm
  rw [lookM_x (by omega)] at hmm
  simp only at hmm
  rw [if_neg (by omega), e67] at hmm
  simp only [xl_d] at hmm
  rw [nextM_x h] at hmm
  rw [← hmm]
  exact WM.rf m
theorem fx_cloud (m : St) (h : 0 < (m.1 0 17).toInt) : WM m (F_X8_readLineOf 0 6 m) := by
  have e0 : F_X8_readLineOf 0 6 m = F_X8_readCloud 0 m := by
    simp only [F_X8_readLineOf, xl_d, xm_d]
    rw [if_neg (by decide), if_neg (by decide), if_pos (by decide)]
  rw [e0]
  generalize hmm : F_X8_readCloud 0 m = mm
  unfold F_X8_readCloud at hmm
  obtain ⟨J52, e52, hmm⟩ := xl_e hmm
  obtain ⟨J35, e35, hmm⟩ := xl_e hmm
  simp only [xl_d, xm_d] at hmm
  rw [lookM_x (by omega)] at hmm
  simp only at hmm
  rw [if_neg (by omega), e52] at hmm
  simp only [xl_d] at hmm
  rw [nextM_x h] at hmm
  rw [← hmm]
  exact WM.rf m
theorem fx_well (m : St) (h : 0 < (m.1 0 17).toInt) : WM m (F_X8_readLineOf 0 7 m) := by
  have w := fx_put h 1 40 24
  have e : F_X8_readLineOf 0 7 m = up1 (F_X8_readNumber 0 0 9 (up1 (F_X8_readNumber 0 1 40 m).2 4 24 (F_X8_readNumber 0 1 40 m).1)).2 4 25 (F_X8_readNumber 0 0 9 (up1 (F_X8_readNumber 0 1 40 m).2 4 24 (F_X8_readNumber 0 1 40 m).1)).1 := by
    simp only [F_X8_readLineOf, xl_d, xm_d, Nat.reduceAdd]
    rw [if_neg (by decide), if_neg (by decide), if_neg (by decide), if_pos (by decide)]
    rfl
  rw [e]
  exact w.tr (fx_put (by rw [w.1 17 (by omega)]; exact h) 0 9 25)
theorem fx_wind (m : St) (h : 0 < (m.1 0 17).toInt) : WM m (F_X8_readLineOf 0 8 m) := by
  have e : F_X8_readLineOf 0 8 m = up1 (F_X8_readNumber 0 0 10 m).2 4 26 (F_X8_readNumber 0 0 10 m).1 := by
    simp only [F_X8_readLineOf, xl_d, xm_d, Nat.reduceAdd]
    rw [if_neg (by decide), if_neg (by decide), if_neg (by decide), if_neg (by decide), if_pos (by decide)]
    rfl
  rw [e]
  exact fx_put h 0 10 26
theorem fx_water (m : St) (h : 0 < (m.1 0 17).toInt) : WM m (F_X8_readLineOf 0 9 m) := by
  have e : F_X8_readLineOf 0 9 m = up1 (F_X8_readNumber 0 0 99 m).2 4 27 (F_X8_readNumber 0 0 99 m).1 := by
    simp only [F_X8_readLineOf, xl_d, xm_d, Nat.reduceAdd]
    rw [if_neg (by decide), if_neg (by decide), if_neg (by decide), if_neg (by decide), if_neg (by decide), if_pos (by decide)]
    rfl
  rw [e]
  exact fx_put h 0 99 27
theorem fx_plan (m : St) (h : 0 < (m.1 0 17).toInt) : WM m (F_X8_readLineOf 0 10 m) := by
  have e0 : F_X8_readLineOf 0 10 m = F_X8_readPlan 0 m := by
    simp only [F_X8_readLineOf, xl_d, xm_d]
    rw [if_neg (by decide), if_neg (by decide), if_neg (by decide), if_neg (by decide), if_neg (by decide), if_neg (by decide), if_pos (by decide)]
  rw [e0, readPlanM, lp_s]
  unfold planM
  rw [if_neg (by omega)]
  exact WM.rf m
theorem RT.re {q : Int} {D : St → St → Prop} {B : Int → Int} {L : Int} {c m : St} (h : RT q D B L c m) : RT (m.1 0 13).toInt D B L c m := by
  obtain ⟨hT, h | ⟨h0, h1, ⟨t1, t2, t3, t4, t5⟩, hd⟩⟩ := h
  · exact ⟨hT, Or.inl h⟩
  · exact ⟨hT, Or.inr ⟨h0, h1, ⟨t1, t2, t3, ⟨t4.1, t4.2.1, t4.2.2.1, Int.le_refl _⟩, t5⟩, hd⟩⟩
theorem RT.up {q : Int} {D D2 : St → St → Prop} {B : Int → Int} {L : Int} {c m : St} (h : RT q D B L c m) (hD : (c.1 1 8).toInt = 0 → D c m → D2 c m) : RT q D2 B L c m := h.wr (WC.rf c) (WM.rf m) hD
set_option maxHeartbeats 1000000 in
theorem RT.line {q : Int} {B : Int → Int} {L : Int} {c m : St} (hB : okB B L) (h : RT q Dr B L c m) (h0 : (c.1 1 8).toInt = 0) : RA q Dr B L (F_X5_readLine 1 c) (F_X8_readLine 0 m) := by
  have c1 : (1 : Int32).toInt = 1 := rfl
  have c0 : (0 : Int32).toInt = 0 := rfl
  have c4 : (-4 : Int32).toInt = -4 := rfl
  have hL := hB.2.1
  obtain ⟨hT, hh | ⟨-, h17, hTT, hd⟩⟩ := id h
  · exact absurd h0 hh.1
  obtain ⟨t1, t2, t3, t4, t5, t6, t7⟩ := id hTT
  have hfm : 0 ≤ (m.1 0 14).toInt ∧ (m.1 0 14).toInt ≤ (m.1 0 13).toInt ∧ (m.1 0 13).toInt ≤ 160 := by omega
  have hfc : 0 ≤ (c.1 1 4).toInt ∧ (c.1 1 4).toInt ≤ (c.1 1 5).toInt ∧ (c.1 1 5).toInt ≤ 160 := by omega
  -- a name that begins no line
  have none : ∀ k : Int32, (k = if (m.1 0 15).toInt = 1 then F_X8_lineNow 0 m else (-4)) → k.toInt = -4 → RA q Dr B L (F_X5_refuse 1 2 (c.1 1 4) c) (F_X8_readLine 0 m) := fun k e1 e2 => by
    rw [(rlM h17 e1).1 e2, refC h0]
    exact ⟨hT.fr FC.rf89 FM.rf78, Or.inl (Fl.new (by decide) (by decide) t2)⟩
  by_cases hk : (m.1 0 15).toInt = 1
  · have hkc : (c.1 1 3).toInt = 1 := by omega
    have hln := lnM hT.2.1 hfm
    have m0 := isN4 hT.1 (i := 0) (by decide) rfl hkc hfc (k0 := (by decide : (chz 0 0).toInt = 115)) (k1 := (by decide : (chz 0 1).toInt = 116)) (k2 := (by decide : (chz 0 2).toInt = 97)) (k3 := (by decide : (chz 0 3).toInt = 114))
    rw [t2, t3] at m0
    have m1 := isN5 hT.1 (i := 1) (by decide) rfl hkc hfc (k0 := (by decide : (chz 1 0).toInt = 107)) (k1 := (by decide : (chz 1 1).toInt = 110)) (k2 := (by decide : (chz 1 2).toInt = 111)) (k3 := (by decide : (chz 1 3).toInt = 119)) (k4 := (by decide : (chz 1 4).toInt = 110))
    rw [t2, t3] at m1
    have m2 := isN5 hT.1 (i := 2) (by decide) rfl hkc hfc (k0 := (by decide : (chz 2 0).toInt = 112)) (k1 := (by decide : (chz 2 1).toInt = 108)) (k2 := (by decide : (chz 2 2).toInt = 97)) (k3 := (by decide : (chz 2 3).toInt = 105)) (k4 := (by decide : (chz 2 4).toInt = 110))
    rw [t2, t3] at m2
    have m3 := isN4 hT.1 (i := 3) (by decide) rfl hkc hfc (k0 := (by decide : (chz 3 0).toInt = 108)) (k1 := (by decide : (chz 3 1).toInt = 97)) (k2 := (by decide : (chz 3 2).toInt = 109)) (k3 := (by decide : (chz 3 3).toInt = 101))
    rw [t2, t3] at m3
    have m4 := isN5 hT.1 (i := 4) (by decide) rfl hkc hfc (k0 := (by decide : (chz 4 0).toInt = 116)) (k1 := (by decide : (chz 4 1).toInt = 105)) (k2 := (by decide : (chz 4 2).toInt = 114)) (k3 := (by decide : (chz 4 3).toInt = 101)) (k4 := (by decide : (chz 4 4).toInt = 100))
    rw [t2, t3] at m4
    have m5 := isN5 hT.1 (i := 5) (by decide) rfl hkc hfc (k0 := (by decide : (chz 5 0).toInt = 103)) (k1 := (by decide : (chz 5 1).toInt = 117)) (k2 := (by decide : (chz 5 2).toInt = 105)) (k3 := (by decide : (chz 5 3).toInt = 100)) (k4 := (by decide : (chz 5 4).toInt = 101))
    rw [t2, t3] at m5
    have m6 := isN4 hT.1 (i := 6) (by decide) rfl hkc hfc (k0 := (by decide : (chz 6 0).toInt = 119)) (k1 := (by decide : (chz 6 1).toInt = 101)) (k2 := (by decide : (chz 6 2).toInt = 108)) (k3 := (by decide : (chz 6 3).toInt = 108))
    rw [t2, t3] at m6
    have m7 := isN4 hT.1 (i := 7) (by decide) rfl hkc hfc (k0 := (by decide : (chz 7 0).toInt = 119)) (k1 := (by decide : (chz 7 1).toInt = 105)) (k2 := (by decide : (chz 7 2).toInt = 110)) (k3 := (by decide : (chz 7 3).toInt = 100))
    rw [t2, t3] at m7
    have m8 := isN5 hT.1 (i := 8) (by decide) rfl hkc hfc (k0 := (by decide : (chz 8 0).toInt = 119)) (k1 := (by decide : (chz 8 1).toInt = 97)) (k2 := (by decide : (chz 8 2).toInt = 116)) (k3 := (by decide : (chz 8 3).toInt = 101)) (k4 := (by decide : (chz 8 4).toInt = 114))
    rw [t2, t3] at m8
    have m9 := isN5 hT.1 (i := 9) (by decide) rfl hkc hfc (k0 := (by decide : (chz 9 0).toInt = 99)) (k1 := (by decide : (chz 9 1).toInt = 108)) (k2 := (by decide : (chz 9 2).toInt = 111)) (k3 := (by decide : (chz 9 3).toInt = 117)) (k4 := (by decide : (chz 9 4).toInt = 100))
    rw [t2, t3] at m9
    have m10 := isN4 hT.1 (i := 10) (by decide) rfl hkc hfc (k0 := (by decide : (chz 10 0).toInt = 112)) (k1 := (by decide : (chz 10 1).toInt = 108)) (k2 := (by decide : (chz 10 2).toInt = 97)) (k3 := (by decide : (chz 10 3).toInt = 110))
    rw [t2, t3] at m10
    obtain ⟨l0, l1, l2, l3, l4, l5, l6, l7, l8, l9, l10, lx⟩ := hln
    simp only [F_X5_readLine, xl_d]
    by_cases g0 : n4 B (m.1 0 14).toInt (m.1 0 13).toInt 115 116 97 114
    · rw [if_neg (fun z => (m0.mp z) g0)]
      have ek : (4 : Int32) = if (m.1 0 15).toInt = 1 then F_X8_lineNow 0 m else (-4) := by rw [if_pos hk, l4 g0]
      rw [(rlM h17 ek).2.2.1 (by decide), readStarC]
      refine RT.fin DSt_stb hB (D := DSt) ?_ _ (fun c m h => ln_star hB c m h) fx_star
      exact h.chk (by decide) (by decide) (fun _ _ hd => by rw [hd.1.1.1]; split <;> omega) (fun _ hd p => ⟨hd, by rw [← hd.1.1.1]; exact p⟩)
    by_cases g1 : n5 B (m.1 0 14).toInt (m.1 0 13).toInt 107 110 111 119 110
    · rw [if_pos (m0.mpr g0), if_neg (fun z => (m1.mp z) g1)]
      have ek : (5 : Int32) = if (m.1 0 15).toInt = 1 then F_X8_lineNow 0 m else (-4) := by rw [if_pos hk, l5 g1]
      rw [(rlM h17 ek).2.2.2.1 (by decide) (by decide)]
      exact RT.fin Dr_stb hB h _ (rest := F_X5_readKnown 1) (fun c m h => ln_known hB c m h) fx_known
    by_cases g2 : n5 B (m.1 0 14).toInt (m.1 0 13).toInt 112 108 97 105 110
    · rw [if_pos (m0.mpr g0), if_pos (m1.mpr g1), if_neg (fun z => (m2.mp z) g2)]
      have ek : (0 : Int32) = if (m.1 0 15).toInt = 1 then F_X8_lineNow 0 m else (-4) := by rw [if_pos hk, l0 g2]
      rw [(rlM h17 ek).2.1 (by decide) (by decide), readWalkerC]
      refine RT.fin DWk_stb hB (D := DWk) ?_ _ (fun c m h => ln_walk hB (by decide) c m h) (fx_walk (by decide))
      exact h.chk (by decide) (by decide) (fun _ _ hd => by rw [hd.2.1.1.1]; split <;> omega) (fun _ hd p => ⟨hd, by rw [← hd.2.1.1.1]; exact p⟩)
    by_cases g3 : n4 B (m.1 0 14).toInt (m.1 0 13).toInt 108 97 109 101
    · rw [if_pos (m0.mpr g0), if_pos (m1.mpr g1), if_pos (m2.mpr g2), if_neg (fun z => (m3.mp z) g3)]
      have ek : (1 : Int32) = if (m.1 0 15).toInt = 1 then F_X8_lineNow 0 m else (-4) := by rw [if_pos hk, l1 g3]
      rw [(rlM h17 ek).2.1 (by decide) (by decide), readWalkerC]
      refine RT.fin DWk_stb hB (D := DWk) ?_ _ (fun c m h => ln_walk hB (by decide) c m h) (fx_walk (by decide))
      exact h.chk (by decide) (by decide) (fun _ _ hd => by rw [hd.2.1.1.1]; split <;> omega) (fun _ hd p => ⟨hd, by rw [← hd.2.1.1.1]; exact p⟩)
    by_cases g4 : n5 B (m.1 0 14).toInt (m.1 0 13).toInt 116 105 114 101 100
    · rw [if_pos (m0.mpr g0), if_pos (m1.mpr g1), if_pos (m2.mpr g2), if_pos (m3.mpr g3), if_neg (fun z => (m4.mp z) g4)]
      have ek : (2 : Int32) = if (m.1 0 15).toInt = 1 then F_X8_lineNow 0 m else (-4) := by rw [if_pos hk, l2 g4]
      rw [(rlM h17 ek).2.1 (by decide) (by decide), readWalkerC]
      refine RT.fin DWk_stb hB (D := DWk) ?_ _ (fun c m h => ln_walk hB (by decide) c m h) (fx_walk (by decide))
      exact h.chk (by decide) (by decide) (fun _ _ hd => by rw [hd.2.1.1.1]; split <;> omega) (fun _ hd p => ⟨hd, by rw [← hd.2.1.1.1]; exact p⟩)
    by_cases g5 : n5 B (m.1 0 14).toInt (m.1 0 13).toInt 103 117 105 100 101
    · rw [if_pos (m0.mpr g0), if_pos (m1.mpr g1), if_pos (m2.mpr g2), if_pos (m3.mpr g3), if_pos (m4.mpr g4), if_neg (fun z => (m5.mp z) g5)]
      have ek : (3 : Int32) = if (m.1 0 15).toInt = 1 then F_X8_lineNow 0 m else (-4) := by rw [if_pos hk, l3 g5]
      rw [(rlM h17 ek).2.1 (by decide) (by decide), readWalkerC]
      refine RT.fin DWk_stb hB (D := DWk) ?_ _ (fun c m h => ln_walk hB (by decide) c m h) (fx_walk (by decide))
      exact h.chk (by decide) (by decide) (fun _ _ hd => by rw [hd.2.1.1.1]; split <;> omega) (fun _ hd p => ⟨hd, by rw [← hd.2.1.1.1]; exact p⟩)
    by_cases g6 : n4 B (m.1 0 14).toInt (m.1 0 13).toInt 119 101 108 108
    · rw [if_pos (m0.mpr g0), if_pos (m1.mpr g1), if_pos (m2.mpr g2), if_pos (m3.mpr g3), if_pos (m4.mpr g4), if_pos (m5.mpr g5), if_neg (fun z => (m6.mp z) g6)]
      have ek : (7 : Int32) = if (m.1 0 15).toInt = 1 then F_X8_lineNow 0 m else (-4) := by rw [if_pos hk, l7 g6]
      rw [(rlM h17 ek).2.2.2.2 (by decide), readWellC]
      exact RT.fin (DTl_stb 0) hB (h.tell (j := 0) (by decide) rfl rfl) _ (fun c m h => ln_well hB c m h) fx_well
    by_cases g7 : n4 B (m.1 0 14).toInt (m.1 0 13).toInt 119 105 110 100
    · rw [if_pos (m0.mpr g0), if_pos (m1.mpr g1), if_pos (m2.mpr g2), if_pos (m3.mpr g3), if_pos (m4.mpr g4), if_pos (m5.mpr g5), if_pos (m6.mpr g6), if_neg (fun z => (m7.mp z) g7)]
      have ek : (8 : Int32) = if (m.1 0 15).toInt = 1 then F_X8_lineNow 0 m else (-4) := by rw [if_pos hk, l8 g7]
      rw [(rlM h17 ek).2.2.2.2 (by decide), readWindC]
      exact RT.fin (DTl_stb 1) hB (h.tell (j := 1) (by decide) rfl rfl) _ (fun c m h => ln_wind hB c m h) fx_wind
    by_cases g8 : n5 B (m.1 0 14).toInt (m.1 0 13).toInt 119 97 116 101 114
    · rw [if_pos (m0.mpr g0), if_pos (m1.mpr g1), if_pos (m2.mpr g2), if_pos (m3.mpr g3), if_pos (m4.mpr g4), if_pos (m5.mpr g5), if_pos (m6.mpr g6), if_pos (m7.mpr g7), if_neg (fun z => (m8.mp z) g8)]
      have ek : (9 : Int32) = if (m.1 0 15).toInt = 1 then F_X8_lineNow 0 m else (-4) := by rw [if_pos hk, l9 g8]
      rw [(rlM h17 ek).2.2.2.2 (by decide), readWaterC]
      exact RT.fin (DTl_stb 2) hB (h.tell (j := 2) (by decide) rfl rfl) _ (fun c m h => ln_water hB c m h) fx_water
    by_cases g9 : n5 B (m.1 0 14).toInt (m.1 0 13).toInt 99 108 111 117 100
    · rw [if_pos (m0.mpr g0), if_pos (m1.mpr g1), if_pos (m2.mpr g2), if_pos (m3.mpr g3), if_pos (m4.mpr g4), if_pos (m5.mpr g5), if_pos (m6.mpr g6), if_pos (m7.mpr g7), if_pos (m8.mpr g8), if_neg (fun z => (m9.mp z) g9)]
      have ek : (6 : Int32) = if (m.1 0 15).toInt = 1 then F_X8_lineNow 0 m else (-4) := by rw [if_pos hk, l6 g9]
      rw [(rlM h17 ek).2.2.2.1 (by decide) (by decide)]
      exact RT.fin Dr_stb hB h _ (rest := F_X5_readCloud 1) (fun c m h => ln_cloud hB c m h) fx_cloud
    by_cases g10 : n4 B (m.1 0 14).toInt (m.1 0 13).toInt 112 108 97 110
    · rw [if_pos (m0.mpr g0), if_pos (m1.mpr g1), if_pos (m2.mpr g2), if_pos (m3.mpr g3), if_pos (m4.mpr g4), if_pos (m5.mpr g5), if_pos (m6.mpr g6), if_pos (m7.mpr g7), if_pos (m8.mpr g8), if_pos (m9.mpr g9), if_neg (fun z => (m10.mp z) g10)]
      have ek : (10 : Int32) = if (m.1 0 15).toInt = 1 then F_X8_lineNow 0 m else (-4) := by rw [if_pos hk, l10 g10]
      rw [(rlM h17 ek).2.2.2.2 (by decide), readPlanC]
      exact RT.fin (DTl_stb 3) hB (h.tell (j := 3) (by decide) rfl rfl) _ (fun c m h => ln_plan hB _ c m h) fx_plan
    · rw [if_pos (m0.mpr g0), if_pos (m1.mpr g1), if_pos (m2.mpr g2), if_pos (m3.mpr g3), if_pos (m4.mpr g4), if_pos (m5.mpr g5), if_pos (m6.mpr g6), if_pos (m7.mpr g7), if_pos (m8.mpr g8), if_pos (m9.mpr g9), if_pos (m10.mpr g10)]
      exact none (-4) (by rw [if_pos hk, lx g2 g3 g4 g5 g0 g1 g9 g6 g7 g8 g10]) c4
  · have hkc : ¬ (c.1 1 3).toInt = 1 := by omega
    simp only [F_X5_readLine, xl_d]
    rw [if_pos (isNx 0 hkc), if_pos (isNx 1 hkc), if_pos (isNx 2 hkc), if_pos (isNx 3 hkc), if_pos (isNx 4 hkc), if_pos (isNx 5 hkc), if_pos (isNx 6 hkc), if_pos (isNx 7 hkc), if_pos (isNx 8 hkc), if_pos (isNx 9 hkc), if_pos (isNx 10 hkc)]
    exact none (-4) (by rw [if_neg hk]) c4
