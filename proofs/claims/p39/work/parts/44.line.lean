/-! lines -/
theorem xm_e {α β γ : Type} {x : α × β} {f : α → β → γ} {r : γ} (h : xm x f = r) : ∃ a b, (a, b) = x ∧ f a b = r := ⟨x.1, x.2, rfl, h⟩
theorem Dr_stb : Stb Dr := fun _ _ _ _ hc hm h => h.tk hc hm
/-- writes into the drafts -/
def WC (c c2 : St) : Prop := (∀ b : Nat, b ≠ 7 → c2.1 1 b = c.1 1 b) ∧ ∀ b : Nat, c2.1 2 b = c.1 2 b
def WM (m m2 : St) : Prop := (∀ b : Nat, 11 ≤ b → m2.1 0 b = m.1 0 b) ∧ ∀ b : Nat, m2.1 5 b = m.1 5 b
theorem WC.rf (c : St) : WC c c := ⟨fun _ _ => rfl, fun _ => rfl⟩
theorem WM.rf (m : St) : WM m m := ⟨fun _ _ => rfl, fun _ => rfl⟩
theorem WC.tr {a b c : St} (h : WC a b) (g : WC b c) : WC a c := ⟨fun x z => by rw [g.1 x z, h.1 x z], fun x => by rw [g.2, h.2]⟩
theorem WM.tr {a b c : St} (h : WM a b) (g : WM b c) : WM a c := ⟨fun x z => by rw [g.1 x z, h.1 x z], fun x => by rw [g.2, h.2]⟩
theorem WC.up {c : St} {k j : Nat} {x : Int32} (h : (k ≠ 1 ∧ k ≠ 2) ∨ (k = 1 ∧ j = 7)) : WC c (up1 c k j x) := ⟨fun b z => up1_n _ _ (by omega), fun b => up1_n _ _ (by omega)⟩
theorem WM.up {m : St} {k j : Nat} {x : Int32} (h : (k ≠ 0 ∧ k ≠ 5) ∨ (k = 0 ∧ j < 11)) : WM m (up1 m k j x) := ⟨fun b z => up1_n _ _ (by omega), fun b => up1_n _ _ (by omega)⟩
theorem TP.wr {B : Int → Int} {L : Int} {c m c2 m2 : St} (h : TP B L c m) (hc : WC c c2) (hm : WM m m2) : TP B L c2 m2 := ⟨by rw [BC_f (hc.1 1 (by omega)) hc.2]; exact h.1, by rw [BM_f (hm.1 12 (by omega)) hm.2]; exact h.2.1, by rw [hc.1 1 (by omega)]; exact h.2.2⟩
theorem Fl.wr {c m c2 m2 : St} (h : Fl c m) (hc : WC c c2) (hm : WM m m2) : Fl c2 m2 := by
  unfold Fl at h ⊢
  rw [hc.1 8 (by omega), hc.1 9 (by omega), hm.1 17 (by omega), hm.1 18 (by omega)]
  exact h
theorem TT.wr {q : Int} {B : Int → Int} {L : Int} {c m c2 m2 : St} (h : TT q B L c m) (hc : WC c c2) (hm : WM m m2) : TT q B L c2 m2 := by
  unfold TT at h ⊢
  rw [hc.1 3 (by omega), hc.1 4 (by omega), hc.1 5 (by omega), hc.1 6 (by omega), hm.1 13 (by omega), hm.1 14 (by omega), hm.1 15 (by omega), hm.1 16 (by omega)]
  exact h
theorem AA.wr {B : Int → Int} {f : Int} {m m2 : St} (h : AA B f m) (hm : WM m m2) : AA B f m2 := by
  unfold AA at h ⊢
  rw [hm.1 13 (by omega), hm.1 14 (by omega), hm.1 15 (by omega), hm.1 16 (by omega), hm.1 17 (by omega), hm.1 18 (by omega)]
  exact h
theorem RT.wr {D D2 : St → St → Prop} {q : Int} {B : Int → Int} {L : Int} {c m c2 m2 : St} (h : RT q D B L c m) (hc : WC c c2) (hm : WM m m2) (hD : (c.1 1 8).toInt = 0 → D c m → D2 c2 m2) : RT q D2 B L c2 m2 := by
  obtain ⟨hT, h | ⟨h0, h1, hTT, hd⟩⟩ := h
  · exact ⟨hT.wr hc hm, Or.inl (h.wr hc hm)⟩
  · exact ⟨hT.wr hc hm, Or.inr ⟨by rw [hc.1 8 (by omega)]; exact h0, by rw [hm.1 17 (by omega)]; exact h1, hTT.wr hc hm, hD h0 hd⟩⟩
theorem RA.wr {D D2 : St → St → Prop} {q : Int} {B : Int → Int} {L : Int} {c m c2 m2 : St} (h : RA q D B L c m) (hc : WC c c2) (hm : WM m m2) (hD : (c.1 1 8).toInt = 0 → D c m → D2 c2 m2) : RA q D2 B L c2 m2 := by
  obtain ⟨hT, h | ⟨h0, h1, hA, hd⟩⟩ := h
  · exact ⟨hT.wr hc hm, Or.inl (h.wr hc hm)⟩
  · refine ⟨hT.wr hc hm, Or.inr ⟨by rw [hc.1 8 (by omega)]; exact h0, by rw [hc.1 5 (by omega)]; exact h1, ?_, hD h0 hd⟩⟩
    rw [hc.1 5 (by omega)]
    exact hA.wr hm
/-- a check that both make -/
theorem RT.chk {D D2 : St → St → Prop} {q : Int} {B : Int → Int} {L : Int} {c m : St} (h : RT q D B L c m) {p : Prop} {ip : Decidable p} {z e e2 : Int32} (he : ¬ e.toInt = 0) (he2 : 0 < e2.toInt) (hp : (c.1 1 8).toInt = 0 → (m.1 0 17).toInt = 0 → D c m → (p ↔ ¬ z.toInt = 0)) (hD : (c.1 1 8).toInt = 0 → D c m → p → D2 c m) : RT q D2 B L (@ite St p ip c (F_X5_refuse 1 e (c.1 1 4) c)) (F_X8_needs 0 z e2 m) := by
  obtain ⟨hT, h | ⟨h0, h1, hTT, hd⟩⟩ := h
  · rw [refC_x h.1, neeM_x (by have := h.2.1; omega)]
    have e1 : @ite St p ip c c = c := by split <;> rfl
    rw [e1]
    exact ⟨hT, Or.inl h⟩
  · by_cases q : p
    · rw [if_pos q, neeM_o ((hp h0 h1 hd).mp q)]
      exact ⟨hT, Or.inr ⟨h0, h1, hTT, hD h0 hd q⟩⟩
    · rw [if_neg q, refC h0, neeM h1 (by rw [hp h0 h1 hd] at q; omega)]
      exact ⟨hT.fr FC.rf89 FM.rf78, Or.inl (Fl.new he he2 hTT.2.1)⟩
theorem stM_f (m : St) : FM m (stM m) := by
  unfold stM
  split
  · split
    · exact FM.rf m
    · exact FM.rf78
  · exact FM.rf m
theorem stM_w {m m2 : St} (h : WM m m2) : WM (stM m) (stM m2) := by
  unfold stM
  rw [h.1 17 (by omega), h.1 15 (by omega), h.1 14 (by omega)]
  split
  · split
    · exact h
    · refine ⟨fun b z => ?_, fun b => ?_⟩
      · by_cases b8 : b = 18
        · subst b8; rw [up1_s, up1_s]
        · rw [up1_n _ _ (by omega), up1_n (v := up1 m 0 17 2) _ (by omega)]
          by_cases b7 : b = 17
          · subst b7; rw [up1_s, up1_s]
          · rw [up1_n _ _ (by omega), up1_n _ _ (by omega)]; exact h.1 b z
      · rw [up1_n _ _ (by omega), up1_n _ _ (by omega), up1_n _ _ (by omega), up1_n _ _ (by omega)]; exact h.2 b
  · exact h
theorem stM_x {m : St} (h : 0 < (m.1 0 17).toInt) : stM m = m := by
  unfold stM
  rw [if_neg (by omega)]
theorem rnM_x {m : St} (h : 0 < (m.1 0 17).toInt) (a b : Int32) : F_X8_readNumber 0 a b m = (0, m) := by
  simp only [F_X8_readNumber, xl_d, xm_d]
  rw [lookM, if_neg (by omega)]
  simp only
  rw [nextM_x h]
/-- the reference's way behind the name -/
def tailM (y : Int32) (m : St) : St := if 0 < ((F_X8_next1 0 m).1 0 17).toInt then F_X8_next1 0 m else F_X8_next1 0 (stM (F_X8_readLineOf 0 y (F_X8_next1 0 m)))
theorem RT.fin {D : St → St → Prop} {q : Int} {B : Int → Int} {L : Int} {c m : St} (hS : Stb D) (hB : okB B L) (h : RT q D B L c m) (y : Int32) {rest : St → St} (hln : ∀ c m : St, RA q D B L c m → RT q Dr B L (rest c) (stM (F_X8_readLineOf 0 y m))) (hfx : ∀ m : St, 0 < (m.1 0 17).toInt → WM m (F_X8_readLineOf 0 y m)) : RA q Dr B L (rest c) (tailM y m) := by
  obtain ⟨hA, -⟩ := h.s.next hS hB
  have hq := hln _ _ hA
  unfold tailM
  generalize F_X8_next1 0 m = m2 at hA hq ⊢
  by_cases hf : 0 < (m2.1 0 17).toInt
  · rw [if_pos hf]
    have hw := hfx m2 hf
    have hw17 := hw.1 17 (by omega)
    rw [stM_x (by rw [hw17]; exact hf)] at hq
    obtain ⟨hT, q | q⟩ := hq
    · refine ⟨⟨hT.1, hA.1.2.1, hT.2.2⟩, Or.inl ⟨q.1, hf, ?_⟩⟩
      rw [q.2.2, hw.1 18 (by omega)]
    · have := q.2.1
      rw [hw17] at this
      omega
  · rw [if_neg hf]
    exact (hq.s.next Dr_stb hB).1
/-! a walker -/
def walkC (a : Int32) (c : St) : St := if ((F_X5_takeStop 1 c).1 1 8).toInt = 0 then (F_X0_addWalker 3 a (F_X5_takeStop 1 c)).2 else F_X5_takeStop 1 c
theorem readWalkerC (a : Int32) (c : St) : F_X5_readWalker 1 a c = walkC a (if (c.1 3 6).toInt < 3 then c else F_X5_refuse 1 5 (c.1 1 4) c) := by
  simp only [F_X5_readWalker, xl_d, xm_d, Nat.reduceAdd, walkC]
  split <;> rfl
def DWk (c m : St) : Prop := Dr c m ∧ (m.1 0 7).toInt < 3
theorem DWk_stb : Stb DWk := fun _ _ _ _ hc hm h => ⟨h.1.tk hc hm, by rw [hm 0 7 (by omega)]; exact h.2⟩
theorem walkM (a : Int32) (m : St) (ha : 0 ≤ a.toInt ∧ a.toInt ≤ 3) : F_X8_readLineOf 0 a m = up1 (up1 m 4 ((20 : Int32) + m.1 0 7).toNatClampNeg a) 0 7 (m.1 0 7 + 1) := by
  simp only [F_X8_readLineOf, xl_d, xm_d, Nat.reduceAdd]
  rw [if_neg (by omega), if_neg (by omega), if_neg (by omega), if_neg (by omega), if_neg (by omega), if_neg (by omega), if_neg (by omega), up1_n _ _ (Or.inl (by decide))]
theorem ln_walk {q : Int} {B : Int → Int} {L : Int} (hB : okB B L) {a : Int32} (ha : 0 ≤ a.toInt ∧ a.toInt ≤ 3) (c m : St) (h : RA q DWk B L c m) : RT q Dr B L (walkC a c) (stM (F_X8_readLineOf 0 a m)) := by
  obtain ⟨h1, hc, hm, hb⟩ := h.stop DWk_stb hB
  rw [walkM a m ha]
  generalize hm2 : up1 (up1 m 4 ((20 : Int32) + m.1 0 7).toNatClampNeg a) 0 7 (m.1 0 7 + 1) = m2
  have w1 : WM m m2 := by rw [← hm2]; exact (WM.up (by omega)).tr (WM.up (by omega))
  unfold walkC
  generalize F_X5_takeStop 1 c = c1 at h1 hc hb ⊢
  have f2 := stM_f m2
  have w2 := stM_w w1
  by_cases h0 : (c1.1 1 8).toInt = 0
  · rw [if_pos h0]
    obtain ⟨hT, h1 | ⟨-, g1, hTT, hd⟩⟩ := h1
    · exact absurd h0 h1.1
    · obtain ⟨⟨dS, dW, dF, dP, dT⟩, hlt⟩ := hd
      have e7 : (stM m).1 0 7 = m.1 0 7 := hm 0 7 (by omega)
      have hw := dW.1
      rw [e7] at hw hlt
      have hcn := cnI (x := m.1 0 7) (by omega)
      have e20 : ((20 : Int32) + m.1 0 7).toInt = 20 + (m.1 0 7).toInt := adI rfl rfl (by omega) (by omega)
      have hcn2 := cnI (x := (20 : Int32) + m.1 0 7) (by omega)
      have e1 : (m.1 0 7 + 1).toInt = (m.1 0 7).toInt + 1 := adI rfl rfl (by omega) (by omega)
      have ex : (F_X0_addWalker 3 a c1).2 = up1 (up1 c1 7 (c1.1 3 6).toNatClampNeg a) 3 6 (c1.1 3 6 + 1) := by
        simp only [F_X0_addWalker, xl_d, Nat.reduceAdd]
        rw [if_pos (by rw [hw.1]; omega)]
      rw [ex, hw.1]
      generalize hc2 : up1 (up1 c1 7 (m.1 0 7).toNatClampNeg a) 3 6 (m.1 0 7 + 1) = c2
      have nc : ∀ x y : Nat, (x ≠ 7 ∧ (x ≠ 3 ∨ y ≠ 6)) → c2.1 x y = c1.1 x y := fun x y z => by rw [← hc2, up1_n _ _ (by omega), up1_n _ _ (by omega)]
      have nm : ∀ x y : Nat, ((x ≠ 4 ∨ y ≠ ((20 : Int32) + m.1 0 7).toNatClampNeg) ∧ (x ≠ 0 ∨ y < 7 ∨ (7 < y ∧ y < 13))) → (stM m2).1 x y = (stM m).1 x y := fun x y z => by rw [f2 x y (by omega), hm x y (by omega), ← hm2, up1_n _ _ (by omega), up1_n _ _ (by omega)]
      have nm7 : (stM m2).1 0 7 = m.1 0 7 + 1 := by rw [f2 0 7 (by omega), ← hm2, up1_s]
      refine ⟨hT.wr (by rw [← hc2]; exact (WC.up (by omega)).tr (WC.up (by omega))) w2, Or.inr ⟨by rw [nc 1 8 (by omega)]; exact h0, by rw [w2.1 17 (by omega)]; exact g1, hTT.wr (by rw [← hc2]; exact (WC.up (by omega)).tr (WC.up (by omega))) w2, ?_, ?_, ?_, ?_, ?_⟩⟩
      · exact dS.fr (fun b => ⟨nc _ _ (by omega), nc _ _ (by omega), nc _ _ (by omega), nc _ _ (by omega)⟩) (nm _ _ (by omega)) (fun b _ => nm _ _ (by omega))
      · refine ⟨⟨by rw [nm7, ← hc2, up1_s], by rw [nm7]; omega, by rw [nm7]; omega⟩, fun i hi => ?_⟩
        rw [nm7] at hi
        by_cases ei : i = (m.1 0 7).toNatClampNeg
        · have z1 : c2.1 7 i = a := by rw [← hc2, up1_n _ _ (by omega), ei, up1_s]
          have z2 : (stM m2).1 4 (20 + i) = a := by
            rw [f2 4 (20 + i) (by omega), ← hm2, up1_n _ _ (by omega), show 20 + i = ((20 : Int32) + m.1 0 7).toNatClampNeg by omega, up1_s]
          rw [z1, z2]
          exact ⟨rfl, ha⟩
        · have z1 : c2.1 7 i = c1.1 7 i := by rw [← hc2, up1_n _ _ (by omega), up1_n _ _ (by omega)]
          rw [z1, nm 4 (20 + i) (by omega)]
          exact dW.2 i (by rw [e7]; omega)
      · exact dF.fr (fun b _ _ => nc _ _ (by omega)) (fun b => nc _ _ (by omega)) (fun b _ _ => nm _ _ (by omega))
      · exact dP.fr ⟨nc _ _ (by omega), nc _ _ (by omega)⟩ (fun b => nc _ _ (by omega)) (nm _ _ (by omega)) (nm _ _ (by omega)) (fun b _ _ => nm _ _ (by omega))
      · exact dT.fr (nc _ _ (by omega)) (nm _ _ (by omega)) (nm _ _ (by omega))
  · rw [if_neg h0]
    exact h1.wr (WC.rf c1) w2 (fun z => absurd z h0)
/-! a star -/
def starC (c : St) : St :=
  xm (F_X5_takeNumber 1 0 9 c) fun r1 u2 => xm (F_X5_takeNumber 1 r1 9 u2) fun r4 u5 => xm (F_X5_takeNumber 1 0 6 u5) fun r7 u8 => xl (F_X5_takeStop 1 u8) fun u10 => xl (u10.1 1 8) fun x12 => if x12.toInt = 0 then (xm (F_X0_addStar 3 r1 r4 r7 u10) fun _ u15 => u15) else u10
theorem readStarC (c : St) : F_X5_readStar 1 c = starC (if (c.1 3 3).toInt < 5 then c else F_X5_refuse 1 5 (c.1 1 4) c) := by
  simp only [F_X5_readStar, xl_d, xm_d, Nat.reduceAdd, starC]
  split <;> rfl
def DSt (c m : St) : Prop := Dr c m ∧ (m.1 0 6).toInt < 5
theorem DSt_stb : Stb DSt := fun _ _ _ _ hc hm h => ⟨h.1.tk hc hm, by rw [hm 0 6 (by omega)]; exact h.2⟩
/-- a row that isn't counted yet may be written -/
theorem DSt.w {c m : St} (h : DSt c m) {i : Int32} {t : Int} (x : Int32) (ht : 0 ≤ t ∧ t < 4) (hi : i.toInt = 4 * (m.1 0 6).toInt + t) : DSt c (up1 m 4 i.toNatClampNeg x) := by
  obtain ⟨⟨dS, dW, dF, dP, dT⟩, hlt⟩ := h
  have hs := dS.1
  have hcn := cnI (x := i) (by omega)
  have nm : ∀ a b : Nat, (a ≠ 4 ∨ b ≠ i.toNatClampNeg) → (up1 m 4 i.toNatClampNeg x).1 a b = m.1 a b := fun a b z => up1_n _ _ z
  refine ⟨⟨?_, dW.fr (fun b => ⟨rfl, rfl⟩) (nm _ _ (by omega)) (fun b _ _ => nm _ _ (by omega)), dF.fr (fun b _ _ => rfl) (fun b => rfl) (fun b _ _ => nm _ _ (by omega)), dP.fr ⟨rfl, rfl⟩ (fun b => rfl) (nm _ _ (by omega)) (nm _ _ (by omega)) (fun b _ _ => nm _ _ (by omega)), dT.fr rfl (nm _ _ (by omega)) (nm _ _ (by omega))⟩, by rw [nm 0 6 (by omega)]; exact hlt⟩
  refine ⟨by rw [nm 0 6 (by omega)]; exact hs, fun j hj => ?_⟩
  rw [nm 0 6 (by omega)] at hj
  rw [nm _ _ (by omega), nm _ _ (by omega), nm _ _ (by omega)]
  exact dS.2 j hj
set_option maxHeartbeats 1000000 in
theorem ln_star {q : Int} {B : Int → Int} {L : Int} (hB : okB B L) (c m : St) (h : RA q DSt B L c m) : RT q Dr B L (starC c) (stM (F_X8_readLineOf 0 4 m)) := by
  have c4 : (4 : Int32).toInt = 4 := rfl
  have e0 : F_X8_readLineOf 0 4 m = F_X8_readStar 0 m := by
    simp only [F_X8_readLineOf, xl_d, xm_d]
    rw [if_pos (by decide)]
  rw [e0]
  generalize hmm : F_X8_readStar 0 m = mm
  unfold F_X8_readStar at hmm
  generalize hcc : starC c = cc
  unfold starC at hcc
  obtain ⟨x1, ex1, hmm⟩ := xl_e hmm
  obtain ⟨x2, ex2, hmm⟩ := xl_e hmm
  obtain ⟨x3, ex3, hmm⟩ := xl_e hmm
  obtain ⟨r4, u5, eq1, hmm⟩ := xm_e hmm
  obtain ⟨v9, ev9, hmm⟩ := xl_e hmm
  obtain ⟨x10, ex10, hmm⟩ := xl_e hmm
  obtain ⟨x12, ex12, hmm⟩ := xl_e hmm
  obtain ⟨r13, u14, eq2, hmm⟩ := xm_e hmm
  obtain ⟨v17, ev17, hmm⟩ := xl_e hmm
  obtain ⟨x18, ex18, hmm⟩ := xl_e hmm
  obtain ⟨r19, u20, eq3, hmm⟩ := xm_e hmm
  obtain ⟨v24, ev24, hmm⟩ := xl_e hmm
  obtain ⟨x25, ex25, hmm⟩ := xl_e hmm
  obtain ⟨x26, ex26, hmm⟩ := xl_e hmm
  obtain ⟨v27, ev27, hmm⟩ := xl_e hmm
  subst hmm
  obtain ⟨s1, c2, ec1, hcc⟩ := xm_e hcc
  obtain ⟨s4, c5, ec2, hcc⟩ := xm_e hcc
  obtain ⟨s7, c8, ec3, hcc⟩ := xm_e hcc
  obtain ⟨c10, ec4, hcc⟩ := xl_e hcc
  obtain ⟨y12, ey12, hcc⟩ := xl_e hcc
  -- the first
  obtain ⟨a1, a2, a3, a4, a5, a6⟩ := h.rnum DSt_stb hB 0 9
  rw [← ec1, ← eq1] at a1 a4 a6
  rw [← ec1] at a2 a5
  rw [← eq1] at a3
  have k6 : u5.1 0 6 = m.1 0 6 := a3 0 6 (by omega)
  have es1 : s1 = r4 := by
    by_cases z : (c2.1 1 8).toInt = 0
    · exact (a4 z).1
    · exact (a6 z).1.trans (a6 z).2.symm
  have ew1 : x12 = r4 := by rw [ex12, ev9, up1_s]
  have A1 : RA q DSt B L c2 v9 := by
    rw [ev9]
    refine a1.wr (WC.rf _) (WM.up (by omega)) (fun z hd => hd.w r4 (t := 0) (by omega) ?_)
    have hs := hd.1.1.1
    rw [k6] at hs ⊢
    have m1 : x2.toInt = 4 * (m.1 0 6).toInt := by rw [ex2, ex1]; exact mlI rfl rfl (by omega) (by omega)
    rw [ex3]
    exact adI m1 rfl (by omega) (by omega)
  -- the second
  obtain ⟨b1, b2, b3, b4, b5, b6⟩ := A1.rnum DSt_stb hB s1 9
  rw [ew1, ← es1] at eq2
  rw [← ec2, ← eq2] at b1 b4 b6
  rw [← ec2] at b2 b5
  rw [← eq2] at b3
  have k6b : v9.1 0 6 = m.1 0 6 := by rw [ev9, up1_n _ _ (by omega)]; exact k6
  have k6c : u14.1 0 6 = m.1 0 6 := by rw [b3 0 6 (by omega)]; exact k6b
  have A2 : RA q DSt B L c5 v17 := by
    rw [ev17]
    refine b1.wr (WC.rf _) (WM.up (by omega)) (fun z hd => hd.w r13 (t := 1) (by omega) ?_)
    have hs := hd.1.1.1
    rw [k6c] at hs ⊢
    have m1 : x2.toInt = 4 * (m.1 0 6).toInt := by rw [ex2, ex1]; exact mlI rfl rfl (by omega) (by omega)
    rw [ex10]
    exact adI m1 rfl (by omega) (by omega)
  -- the third
  obtain ⟨d1, d2, d3, d4, d5, d6⟩ := A2.rnum DSt_stb hB 0 6
  rw [← ec3, ← eq3] at d1 d4 d6
  rw [← ec3] at d2 d5
  rw [← eq3] at d3
  have k6d : v17.1 0 6 = m.1 0 6 := by rw [ev17, up1_n _ _ (by omega)]; exact k6c
  have k6e : u20.1 0 6 = m.1 0 6 := by rw [d3 0 6 (by omega)]; exact k6d
  have A3 : RA q DSt B L c8 v24 := by
    rw [ev24]
    refine d1.wr (WC.rf _) (WM.up (by omega)) (fun z hd => hd.w r19 (t := 2) (by omega) ?_)
    have hs := hd.1.1.1
    rw [k6e] at hs ⊢
    have m1 : x2.toInt = 4 * (m.1 0 6).toInt := by rw [ex2, ex1]; exact mlI rfl rfl (by omega) (by omega)
    rw [ex18]
    exact adI m1 rfl (by omega) (by omega)
  have k6f : v24.1 0 6 = m.1 0 6 := by rw [ev24, up1_n _ _ (by omega)]; exact k6e
  obtain ⟨f1, f2, f3, f4⟩ := A3.stop DSt_stb hB
  rw [← ec4] at f1 f2 f4
  have w1 : WM v24 v27 := by rw [ev27]; exact WM.up (by omega)
  have g2 := stM_f v27
  have w2 := stM_w w1
  by_cases h0 : (c10.1 1 8).toInt = 0
  · rw [ey12, if_pos h0] at hcc
    have z8 : (c8.1 1 8).toInt = 0 := Decidable.byContradiction (fun z => f4 z h0)
    have z5 : (c5.1 1 8).toInt = 0 := Decidable.byContradiction (fun z => d5 z z8)
    have z2 : (c2.1 1 8).toInt = 0 := Decidable.byContradiction (fun z => b5 z z5)
    have es4 : s4 = r13 := (b4 z5).1
    have es7 : s7 = r19 := (d4 z8).1
    obtain ⟨hT, f1 | ⟨-, q1, hTT, hd⟩⟩ := f1
    · exact absurd h0 f1.1
    · obtain ⟨⟨dS, dW, dF, dP, dT⟩, hlt⟩ := hd
      have e6 : (stM v24).1 0 6 = m.1 0 6 := by rw [f3 0 6 (by omega)]; exact k6f
      have hw := dS.1
      rw [e6] at hw hlt
      have hcn := cnI (x := m.1 0 6) (by omega)
      have m1 : x2.toInt = 4 * (m.1 0 6).toInt := by rw [ex2, ex1]; exact mlI rfl rfl (by omega) (by omega)
      have i3 : x3.toInt = 4 * (m.1 0 6).toInt + 0 := by rw [ex3]; exact adI m1 rfl (by omega) (by omega)
      have i10 : x10.toInt = 4 * (m.1 0 6).toInt + 1 := by rw [ex10]; exact adI m1 rfl (by omega) (by omega)
      have i18 : x18.toInt = 4 * (m.1 0 6).toInt + 2 := by rw [ex18]; exact adI m1 rfl (by omega) (by omega)
      have n3 := cnI (x := x3) (by omega)
      have n10 := cnI (x := x10) (by omega)
      have n18 := cnI (x := x18) (by omega)
      have e1 : (m.1 0 6 + 1).toInt = (m.1 0 6).toInt + 1 := adI rfl rfl (by omega) (by omega)
      have x26' : x26 = m.1 0 6 + 1 := by rw [ex26, ex25, k6f]
      have ex : (F_X0_addStar 3 s1 s4 s7 c10).2 = up1 (up1 (up1 (up1 c10 4 (c10.1 3 3).toNatClampNeg s1) 5 (c10.1 3 3).toNatClampNeg s4) 6 (c10.1 3 3).toNatClampNeg s7) 3 3 (c10.1 3 3 + 1) := by
        simp only [F_X0_addStar, xl_d, Nat.reduceAdd]
        rw [if_pos (by rw [hw.1]; omega)]
      rw [xm_d, ex, hw.1] at hcc
      have nc : ∀ x y : Nat, ((x < 4 ∨ 6 < x) ∧ (x ≠ 3 ∨ y ≠ 3)) → cc.1 x y = c10.1 x y := fun x y z => by rw [← hcc, up1_n _ _ (by omega), up1_n _ _ (by omega), up1_n _ _ (by omega), up1_n _ _ (by omega)]
      have nm : ∀ x y : Nat, (x ≠ 0 ∨ y < 6 ∨ (6 < y ∧ y < 13)) → (stM v27).1 x y = (stM v24).1 x y := fun x y z => by rw [g2 x y (by omega), f3 x y (by omega), ev27, up1_n _ _ (by omega)]
      have nm6 : (stM v27).1 0 6 = m.1 0 6 + 1 := by rw [g2 0 6 (by omega), ev27, up1_s, x26']
      have wc : WC c10 cc := ⟨fun b z => nc _ _ (by omega), fun b => nc _ _ (by omega)⟩
      refine ⟨hT.wr wc w2, Or.inr ⟨by rw [nc 1 8 (by omega)]; exact h0, by rw [w2.1 17 (by omega)]; exact q1, hTT.wr wc w2, ?_, ?_, ?_, ?_, ?_⟩⟩
      · refine ⟨⟨by rw [nm6, ← hcc, up1_s], by rw [nm6]; omega, by rw [nm6]; omega⟩, fun i hi => ?_⟩
        rw [nm6] at hi
        rw [nm _ _ (by omega), nm _ _ (by omega), nm _ _ (by omega), f3 4 _ (by omega), f3 4 _ (by omega), f3 4 _ (by omega)]
        by_cases ei : i = (m.1 0 6).toNatClampNeg
        · have z1 : cc.1 4 i = s1 := by rw [← hcc, up1_n _ _ (by omega), up1_n _ _ (by omega), up1_n _ _ (by omega), ei, up1_s]
          have z2 : cc.1 5 i = s4 := by rw [← hcc, up1_n _ _ (by omega), up1_n _ _ (by omega), ei, up1_s]
          have z3 : cc.1 6 i = s7 := by rw [← hcc, up1_n _ _ (by omega), ei, up1_s]
          have y3 : v24.1 4 (4 * i + 2) = r19 := by rw [ev24, show 4 * i + 2 = x18.toNatClampNeg by omega, up1_s]
          have y2 : v24.1 4 (4 * i + 1) = r13 := by rw [ev24, up1_n _ _ (by omega), d3 4 _ (by omega), ev17, show 4 * i + 1 = x10.toNatClampNeg by omega, up1_s]
          have y1 : v24.1 4 (4 * i) = r4 := by rw [ev24, up1_n _ _ (by omega), d3 4 _ (by omega), ev17, up1_n _ _ (by omega), b3 4 _ (by omega), ev9, show 4 * i = x3.toNatClampNeg by omega, up1_s]
          rw [z1, z2, z3, y1, y2, y3, es1, es4, es7]
          have rg : 0 ≤ r19.toInt ∧ r19.toInt ≤ 6 := (d4 z8).2
          exact ⟨rfl, rfl, rfl, by omega, by omega⟩
        · have z1 : cc.1 4 i = c10.1 4 i := by rw [← hcc, up1_n _ _ (by omega), up1_n _ _ (by omega), up1_n _ _ (by omega), up1_n _ _ (by omega)]
          have z2 : cc.1 5 i = c10.1 5 i := by rw [← hcc, up1_n _ _ (by omega), up1_n _ _ (by omega), up1_n _ _ (by omega), up1_n _ _ (by omega)]
          have z3 : cc.1 6 i = c10.1 6 i := by rw [← hcc, up1_n _ _ (by omega), up1_n _ _ (by omega), up1_n _ _ (by omega), up1_n _ _ (by omega)]
          have := dS.2 i (by rw [e6]; omega)
          rw [f3 4 _ (by omega), f3 4 _ (by omega), f3 4 _ (by omega)] at this
          rw [z1, z2, z3]
          exact this
      · exact dW.fr (fun b => ⟨nc _ _ (by omega), nc _ _ (by omega)⟩) (nm _ _ (by omega)) (fun b _ _ => nm _ _ (by omega))
      · exact dF.fr (fun b _ _ => nc _ _ (by omega)) (fun b => nc _ _ (by omega)) (fun b _ _ => nm _ _ (by omega))
      · exact dP.fr ⟨nc _ _ (by omega), nc _ _ (by omega)⟩ (fun b => nc _ _ (by omega)) (nm _ _ (by omega)) (nm _ _ (by omega)) (fun b _ _ => nm _ _ (by omega))
      · exact dT.fr (nc _ _ (by omega)) (nm _ _ (by omega)) (nm _ _ (by omega))
  · rw [ey12, if_neg h0] at hcc
    subst hcc
    exact f1.wr (WC.rf _) w2 (fun z => absurd z h0)
