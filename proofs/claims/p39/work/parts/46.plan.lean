/-! the plan -/
theorem RT.nd3 {D : St → St → Prop} {q : Int} {B : Int → Int} {L : Int} {c m : St} (h : RT q D B L c m) : RT q D B L (F_X5_need 1 3 c) (stM m) := by
  have c2 : (2 : Int32).toInt = 2 := rfl
  have c3 : (3 : Int32).toInt = 3 := rfl
  unfold stM
  obtain ⟨hT, h | ⟨h0, h1, hTT, hD⟩⟩ := h
  · rw [needC_x h.1, if_neg (by have := h.2.1; omega)]
    exact ⟨hT, Or.inl h⟩
  · rw [if_pos h1]
    obtain ⟨t1, t2, t3⟩ := id hTT
    by_cases hk : (m.1 0 15).toInt = 3
    · rw [if_pos hk, needC_ok (by omega)]
      exact ⟨hT, Or.inr ⟨h0, h1, hTT, hD⟩⟩
    · rw [if_neg hk, needC_no (by omega), refC h0]
      exact ⟨hT.fr FC.rf89 FM.rf78, Or.inl (Fl.new (by omega) (by omega) t2)⟩
theorem lookM_x {a b : Int32} {m : St} (h : ¬ (m.1 0 17).toInt = 0) : F_X8_looked 0 a b m = (0, m) := by rw [lookM, if_neg h]
def aimC (v : St) : St := if ((F_X5_needWithin 1 0 6 v).1 1 8).toInt = 0 then (if (F_X0_addAim 3 ((F_X5_needWithin 1 0 6 v).1 1 6) (F_X5_needWithin 1 0 6 v)).1.toInt = 0 then F_X5_refuse 1 5 ((F_X0_addAim 3 ((F_X5_needWithin 1 0 6 v).1 1 6) (F_X5_needWithin 1 0 6 v)).2.1 1 4) (F_X0_addAim 3 ((F_X5_needWithin 1 0 6 v).1 1 6) (F_X5_needWithin 1 0 6 v)).2 else (F_X0_addAim 3 ((F_X5_needWithin 1 0 6 v).1 1 6) (F_X5_needWithin 1 0 6 v)).2) else F_X5_needWithin 1 0 6 v
def planP (self : Int32 → St → St) (y : Int32) (v : St) : St := if 8 < y.toInt then F_X5_need 1 3 v else (if (v.1 1 8).toInt = 0 then (if (v.1 1 3).toInt = 2 then self (y + 1) (F_X5_takeToken 1 (aimC v)) else F_X5_need 1 3 v) else F_X5_need 1 3 v)
def planC (v0 c : St) : St := lp planP (fun _ _ => v0) ((2147483647 - (0 : Int32).toInt).toNat + 1) 0 (F_X5_takeToken 1 c)
theorem readPlanC (c : St) : F_X5_readPlan 1 c = planC c (F_X5_tellOnce 1 8 c) := by
  generalize hu : F_X5_readPlan 1 c = u
  unfold F_X5_readPlan at hu
  obtain ⟨J80, e80, hu⟩ := xl_e hu
  obtain ⟨P12, e12, hu⟩ := xl_e hu
  simp only [xl_d] at hu
  have ep : P12 = planP := by
    funext self y v
    rw [e12]
    have E80 : ∀ x : St, J80 x = F_X5_need 1 3 x := fun x => by rw [e80]; simp only [xl_d]
    simp only [xl_d, xm_d, E80, planP, aimC, Nat.reduceAdd]
    repeat' split
    all_goals rfl
  rw [ep] at hu
  rw [← hu]
  rfl
def aimM (v : St) : St :=
  if ((F_X8_looked 0 0 6 (F_X8_needs 0 (if (v.1 4 32).toInt < 8 then 1 else 0) 5 v)).2.1 0 17).toInt = 0 then
    up1 (up1 (up1 (F_X8_looked 0 0 6 (F_X8_needs 0 (if (v.1 4 32).toInt < 8 then 1 else 0) 5 v)).2 4 ((33 : Int32) + (F_X8_looked 0 0 6 (F_X8_needs 0 (if (v.1 4 32).toInt < 8 then 1 else 0) 5 v)).2.1 4 32).toNatClampNeg (F_X8_looked 0 0 6 (F_X8_needs 0 (if (v.1 4 32).toInt < 8 then 1 else 0) 5 v)).1) 4 32 ((up1 (F_X8_looked 0 0 6 (F_X8_needs 0 (if (v.1 4 32).toInt < 8 then 1 else 0) 5 v)).2 4 ((33 : Int32) + (F_X8_looked 0 0 6 (F_X8_needs 0 (if (v.1 4 32).toInt < 8 then 1 else 0) 5 v)).2.1 4 32).toNatClampNeg (F_X8_looked 0 0 6 (F_X8_needs 0 (if (v.1 4 32).toInt < 8 then 1 else 0) 5 v)).1).1 4 32 + 1)) 0 10 (if (F_X8_looked 0 0 6 (F_X8_needs 0 (if (v.1 4 32).toInt < 8 then 1 else 0) 5 v)).1.toInt < 5 ∧ ((F_X8_looked 0 0 6 (F_X8_needs 0 (if (v.1 4 32).toInt < 8 then 1 else 0) 5 v)).2.1 0 10).toInt < (F_X8_looked 0 0 6 (F_X8_needs 0 (if (v.1 4 32).toInt < 8 then 1 else 0) 5 v)).1.toInt then (F_X8_looked 0 0 6 (F_X8_needs 0 (if (v.1 4 32).toInt < 8 then 1 else 0) 5 v)).1 else (F_X8_looked 0 0 6 (F_X8_needs 0 (if (v.1 4 32).toInt < 8 then 1 else 0) 5 v)).2.1 0 10)
  else (F_X8_looked 0 0 6 (F_X8_needs 0 (if (v.1 4 32).toInt < 8 then 1 else 0) 5 v)).2
def planM (self : St → St) (v : St) : St := if (v.1 0 17).toInt = 0 then (if (v.1 0 15).toInt = 2 then self (F_X8_next1 0 (aimM v)) else v) else v
theorem readPlanM (m : St) : F_X8_readPlan 0 m = lp planM (fun _ => m) (tm (m.1 0 13).toInt (m.1 0 17).toInt (m.1 0 15).toInt + 1) m := by
  generalize hu : F_X8_readPlan 0 m = u
  unfold F_X8_readPlan at hu
  have n32 : (32 : Int32).toNatClampNeg = 32 := rfl
  rw [n32] at hu
  obtain ⟨P0, e0, hu⟩ := xl_e hu
  have ep : P0 = planM := by
    funext self v
    generalize hy : P0 self v = y
    rw [e0] at hy
    obtain ⟨J104, e104, hy⟩ := xl_e hy
    obtain ⟨J101, e101, hy⟩ := xl_e hy
    obtain ⟨J97, e97, hy⟩ := xl_e hy
    obtain ⟨J33, e33, hy⟩ := xl_e hy
    have E104 : ∀ x : St, J104 x = self (F_X8_next1 0 x) := fun x => by rw [e104]; simp only [xl_d]
    have E101 : ∀ (z : Int32) (x : St), J101 z x = self (F_X8_next1 0 (up1 x 0 10 z)) := fun z x => by rw [e101]; simp only [xl_d]; rw [E104]
    have E97 : ∀ x : St, J97 x = self (F_X8_next1 0 (up1 x 0 10 (x.1 0 10))) := fun x => by rw [e97]; simp only [xl_d]; rw [E101]
    simp only [xl_d, Nat.reduceAdd] at hy
    unfold planM
    by_cases h1 : (v.1 0 17).toInt = 0
    · rw [if_pos h1] at hy ⊢
      by_cases h2 : (v.1 0 15).toInt = 2
      · rw [if_pos h2] at hy ⊢
        have hy2 : J33 (if (v.1 4 32).toInt < 8 then 1 else 0) v = y := by
          by_cases w : (v.1 4 32).toInt < 8
          · rw [if_pos w] at hy ⊢; exact hy
          · rw [if_neg w] at hy ⊢; exact hy
        rw [e33] at hy2
        simp only [xl_d, xm_d, Nat.reduceAdd] at hy2
        unfold aimM
        generalize F_X8_looked 0 0 6 (F_X8_needs 0 (if (v.1 4 32).toInt < 8 then 1 else 0) 5 v) = qq at hy2 ⊢
        by_cases h3 : (qq.2.1 0 17).toInt = 0
        · rw [if_pos h3] at hy2 ⊢
          rw [E101, E97] at hy2
          have x10 : ∀ (x1 x2 : Int32) (i : Nat), (up1 (up1 qq.2 4 i x1) 4 32 x2).1 0 10 = qq.2.1 0 10 := fun x1 x2 i => by rw [up1_n _ _ (by omega), up1_n _ _ (by omega)]
          rw [x10] at hy2
          rw [← hy2]
          by_cases w1 : qq.1.toInt < 5
          · rw [if_pos w1]
            by_cases w2 : (qq.2.1 0 10).toInt < qq.1.toInt
            · rw [if_pos w2, if_pos ⟨w1, w2⟩]
            · rw [if_neg w2, if_neg (fun z => w2 z.2)]
          · rw [if_neg w1, if_neg (fun z => w1 z.1)]
        · rw [if_neg h3, E104] at hy2
          rw [if_neg h3]
          exact hy2.symm
      · rw [if_neg h2] at hy ⊢; exact hy.symm
    · rw [if_neg h1] at hy ⊢; exact hy.symm
  rw [ep] at hu
  exact hu.symm
def Dpl (i : Nat) (c m : St) : Prop := Dr c m ∧ (m.1 4 32).toInt = (i : Int) ∧ ¬ (c.1 1 7).toInt < 8
theorem Dpl_stb (i : Nat) : Stb (Dpl i) := fun _ _ _ _ hc hm h => ⟨h.1.tk hc hm, by rw [hm 4 32 (by omega)]; exact h.2.1, by rw [hc 1 7 (by omega)]; exact h.2.2⟩
theorem Dpl.aim {i : Nat} {c m : St} (h : Dpl i c m) (hi : i < 8) {x n hh : Int32} {ii : Nat} (hx : 0 ≤ x.toInt ∧ x.toInt ≤ 6) (hn : n.toInt = (i : Int) + 1) (hii : ii = 33 + i) (hhh : hh.toInt = if x.toInt < 5 ∧ (m.1 0 10).toInt < x.toInt then x.toInt else (m.1 0 10).toInt) : Dpl (i + 1) (up1 (up1 c 9 i x) 3 14 n) (up1 (up1 (up1 m 4 ii x) 4 32 n) 0 10 hh) := by
  obtain ⟨⟨dS, dW, dF, dP, dT⟩, h1, h2⟩ := h
  obtain ⟨p1, p2, p4, p5⟩ := dP
  subst hii
  have nc : ∀ a b : Nat, (a ≠ 9 ∧ (a ≠ 3 ∨ b ≠ 14)) → (up1 (up1 c 9 i x) 3 14 n).1 a b = c.1 a b := fun a b w => by rw [up1_n _ _ (by omega), up1_n _ _ (by omega)]
  have nm : ∀ a b : Nat, ((a ≠ 4 ∨ (b ≠ 32 ∧ b ≠ 33 + i)) ∧ (a ≠ 0 ∨ b ≠ 10)) → (up1 (up1 (up1 m 4 (33 + i) x) 4 32 n) 0 10 hh).1 a b = m.1 a b := fun a b w => by rw [up1_n _ _ (by omega), up1_n _ _ (by omega), up1_n _ _ (by omega)]
  have m32 : (up1 (up1 (up1 m 4 (33 + i) x) 4 32 n) 0 10 hh).1 4 32 = n := by rw [up1_n _ _ (by omega), up1_s]
  have m10 : (up1 (up1 (up1 m 4 (33 + i) x) 4 32 n) 0 10 hh).1 0 10 = hh := up1_s _ _ _ _
  have mi : (up1 (up1 (up1 m 4 (33 + i) x) 4 32 n) 0 10 hh).1 4 (33 + i) = x := by rw [up1_n _ _ (by omega), up1_n _ _ (by omega), up1_s]
  have mj : ∀ j : Nat, j ≠ i → (up1 (up1 (up1 m 4 (33 + i) x) 4 32 n) 0 10 hh).1 4 (33 + j) = m.1 4 (33 + j) := fun j w => nm _ _ (by omega)
  refine ⟨⟨?_, ?_, ?_, ?_, ?_⟩, by rw [m32, hn]; omega, by rw [nc 1 7 (by omega)]; exact h2⟩
  · exact dS.fr (fun b => ⟨nc _ _ (by omega), nc _ _ (by omega), nc _ _ (by omega), nc _ _ (by omega)⟩) (nm _ _ (by omega)) (fun b _ => nm _ _ (by omega))
  · exact dW.fr (fun b => ⟨nc _ _ (by omega), nc _ _ (by omega)⟩) (nm _ _ (by omega)) (fun b _ _ => nm _ _ (by omega))
  · exact dF.fr (fun b _ _ => nc _ _ (by omega)) (fun b => nc _ _ (by omega)) (fun b _ _ => nm _ _ (by omega))
  · refine ⟨⟨by rw [m32, up1_s], by rw [m32]; omega, by rw [m32]; omega⟩, by rw [nc 3 4 (by omega), nm 0 8 (by omega)]; exact p2, fun j hj => ?_, fun s hs => ?_⟩
    · rw [m32] at hj
      by_cases e : j = i
      · subst e
        rw [mi, up1_n _ _ (by omega), up1_s]
        exact ⟨rfl, hx⟩
      · rw [mj j e, up1_n _ _ (by omega), up1_n _ _ (by omega)]
        exact p4 j (by omega)
    · rw [m10, nm 0 8 (by omega), m32, hn]
      have old := p5 s hs
      constructor
      · intro z
        have z1 : (m.1 0 10).toInt < (s : Int) := by rw [hhh] at z; split at z <;> omega
        refine ⟨(old.mp z1).1, fun j hj hj5 => ?_⟩
        by_cases e : j = i
        · subst e
          rw [mi] at hj5 ⊢
          rw [hhh] at z
          split at z <;> omega
        · rw [mj j e] at hj5 ⊢
          exact (old.mp z1).2 j (by omega) hj5
      · intro z
        have z1 := old.mpr ⟨z.1, fun j hj hj5 => by
          have := z.2 j (by omega)
          rw [mj j (by omega)] at this
          exact this hj5⟩
        have z2 := z.2 i (by omega)
        rw [mi] at z2
        rw [hhh]
        split <;> omega
  · refine ⟨by rw [nc 1 7 (by omega), nm 0 9 (by omega)]; exact dT.1, fun z => ?_⟩
    rw [nc 1 7 (by omega)] at z
    exact absurd z h2
theorem RT.aim {q : Int} {B : Int → Int} {L : Int} {i : Nat} {c m : St} (h : RT q (Dpl i) B L c m) (h0 : (c.1 1 8).toInt = 0) (hk : (m.1 0 15).toInt = 2) : RT q (Dpl (i + 1)) B L (aimC c) (aimM m) := by
  have c0 : (0 : Int32).toInt = 0 := rfl
  have c6 : (6 : Int32).toInt = 6 := rfl
  have c5 : (5 : Int32).toInt = 5 := rfl
  have c3 : (3 : Int32).toInt = 3 := rfl
  have c1 : (1 : Int32).toInt = 1 := rfl
  obtain ⟨hT, h | ⟨-, h1, hTT, hd⟩⟩ := h
  · exact absurd h0 h.1
  · obtain ⟨t1, t2, t3, t4, t5, t6, t7⟩ := id hTT
    obtain ⟨v1, v2, v3⟩ := t7 hk
    have hp := hd.1.2.2.2.1.1
    have hpi := hd.2.1
    unfold aimC aimM
    rw [wiC, v1]
    by_cases hi : i < 8
    · rw [if_pos (show (m.1 4 32).toInt < 8 by omega), neeM_o (show ¬ (1 : Int32).toInt = 0 by decide), lookM, if_pos h1, if_pos hk]
      by_cases hv : (0 : Int32).toInt ≤ (m.1 0 16).toInt ∧ (m.1 0 16).toInt ≤ (6 : Int32).toInt
      · rw [if_pos hv, if_pos hv]
        simp only
        have ea : F_X0_addAim 3 (c.1 1 6) c = (1, up1 (up1 c 9 (c.1 3 14).toNatClampNeg (c.1 1 6)) 3 14 (c.1 3 14 + 1)) := by
          simp only [F_X0_addAim, xl_d, Nat.reduceAdd]
          rw [if_pos (by rw [hp.1]; omega)]
        rw [if_pos h0, ea, if_pos h1]
        simp only
        rw [if_neg (by decide), up1_n _ _ (Or.inr (by
          have e33 : ((33 : Int32) + m.1 4 32).toInt = 33 + (m.1 4 32).toInt := adI rfl rfl (by omega) (by omega)
          have := cnI (x := (33 : Int32) + m.1 4 32) (by omega)
          omega))]
        have e6 : c.1 1 6 = m.1 0 16 := Int32.toInt_inj.mp v1
        rw [e6, hp.1]
        have hcn := cnI (x := m.1 4 32) (by omega)
        have e33 : ((33 : Int32) + m.1 4 32).toInt = 33 + (m.1 4 32).toInt := adI rfl rfl (by omega) (by omega)
        have hcn2 := cnI (x := (33 : Int32) + m.1 4 32) (by omega)
        have e1 : (m.1 4 32 + 1).toInt = (m.1 4 32).toInt + 1 := adI rfl rfl (by omega) (by omega)
        have ei : (m.1 4 32).toNatClampNeg = i := by omega
        rw [ei]
        have hDn := hd.aim hi (x := m.1 0 16) (n := m.1 4 32 + 1) (ii := ((33 : Int32) + m.1 4 32).toNatClampNeg) (hh := if (m.1 0 16).toInt < 5 ∧ (m.1 0 10).toInt < (m.1 0 16).toInt then m.1 0 16 else m.1 0 10) (by omega) (by omega) (by omega) (by split <;> rfl)
        have wc : WC c (up1 (up1 c 9 i (m.1 0 16)) 3 14 (m.1 4 32 + 1)) := (WC.up (by omega)).tr (WC.up (by omega))
        have wm : WM m (up1 (up1 (up1 m 4 ((33 : Int32) + m.1 4 32).toNatClampNeg (m.1 0 16)) 4 32 (m.1 4 32 + 1)) 0 10 (if (m.1 0 16).toInt < 5 ∧ (m.1 0 10).toInt < (m.1 0 16).toInt then m.1 0 16 else m.1 0 10)) := ((WM.up (by omega)).tr (WM.up (by omega))).tr (WM.up (by omega))
        exact ⟨hT.wr wc wm, Or.inr ⟨by rw [wc.1 8 (by omega)]; exact h0, by rw [wm.1 17 (by omega)]; exact h1, hTT.wr wc wm, hDn⟩⟩
      · rw [if_neg hv, if_neg hv, refC h0]
        simp only
        rw [if_neg (by rw [up1_n _ _ (Or.inr (by decide)), up1_s]; omega), if_neg (by rw [up1_n _ _ (Or.inr (by decide)), up1_s]; omega)]
        exact ⟨hT.fr FC.rf89 FM.rf78, Or.inl (Fl.new (by omega) (by omega) t2)⟩
    · rw [if_neg (show ¬ (m.1 4 32).toInt < 8 by omega), neeM h1 (show (0 : Int32).toInt = 0 by decide), lookM_x (show ¬ ((up1 (up1 m 0 17 5) 0 18 (m.1 0 14)).1 0 17).toInt = 0 by rw [up1_n _ _ (Or.inr (by decide)), up1_s]; omega)]
      simp only
      rw [if_neg (show ¬ ((up1 (up1 m 0 17 5) 0 18 (m.1 0 14)).1 0 17).toInt = 0 by rw [up1_n _ _ (Or.inr (by decide)), up1_s]; omega)]
      by_cases hv : (0 : Int32).toInt ≤ (m.1 0 16).toInt ∧ (m.1 0 16).toInt ≤ (6 : Int32).toInt
      · rw [if_pos hv, if_pos h0]
        have ea : F_X0_addAim 3 (c.1 1 6) c = (0, c) := by
          simp only [F_X0_addAim, xl_d, Nat.reduceAdd]
          rw [if_neg (by rw [hp.1]; omega)]
        rw [ea]
        simp only
        rw [if_pos (by decide), refC h0]
        exact ⟨hT.fr FC.rf89 FM.rf78, Or.inl (Fl.new (by omega) (by omega) t2)⟩
      · rw [if_neg hv, refC h0, if_neg (by rw [up1_n _ _ (Or.inr (by decide)), up1_s]; omega)]
        exact ⟨hT.fr FC.rf89 FM.rf78, Or.inl (Fl.new (by omega) (by omega) t2)⟩
theorem tm_0 {p f s : Int} (hf : f = 0) (hs : ¬ s = 0) : 1 ≤ p ∨ True → p ≤ 160 → 1 ≤ tm p f s := fun _ hp => by
  unfold tm
  rw [if_pos ⟨hf, hs⟩]
  omega
theorem RA.plan {B : Int → Int} {L : Int} {q : Int} (hB : okB B L) (v0 w0 : St) : ∀ (n i : Nat) (y : Int32) (c m : St) (a b : Nat), y.toInt = (i : Int) → i + n = 9 → RT q (Dpl i) B L c m → (2147483647 - y.toInt).toNat < a → 0 < b → ((m.1 0 17).toInt = 0 → tm (m.1 0 13).toInt (m.1 0 17).toInt (m.1 0 15).toInt < b) → RT q Dr B L (lp planP (fun _ _ => v0) a y c) (stM (lp planM (fun _ => w0) b m)) := by
  have hL := hB.2.1
  intro n
  induction n with
  | zero =>
    intro i y c m a b hy hin h ha hb hm
    obtain ⟨a, rfl⟩ : ∃ k, a = k + 1 := ⟨a - 1, by omega⟩
    obtain ⟨b, rfl⟩ : ∃ k, b = k + 1 := ⟨b - 1, by omega⟩
    obtain ⟨hT, h | ⟨h0, h1, hTT, hd⟩⟩ := h
    · rw [lp_s, lp_s]
      unfold planP planM
      rw [if_pos (by omega), needC_x h.1, if_neg (by have := h.2.1; omega), stM_x h.2.1]
      exact ⟨hT, Or.inl h⟩
    · have := hd.1.2.2.2.1.1
      have := hd.2.1
      omega
  | succ n ih =>
    intro i y c m a b hy hin h ha hb hm
    obtain ⟨a, rfl⟩ : ∃ k, a = k + 1 := ⟨a - 1, by omega⟩
    obtain ⟨b, rfl⟩ : ∃ k, b = k + 1 := ⟨b - 1, by omega⟩
    rw [lp_s, lp_s]
    generalize hsc : lp planP (fun _ _ => v0) a = sc
    generalize hsm : lp planM (fun _ => w0) b = sm
    unfold planP planM
    rw [if_neg (by omega)]
    by_cases h0 : (c.1 1 8).toInt = 0
    · have h1 : (m.1 0 17).toInt = 0 := by
        rcases h.2 with z | z
        · exact absurd h0 z.1
        · exact z.2.1
      have hTT : TT q B L c m := by
        rcases h.2 with z | z
        · exact absurd h0 z.1
        · exact z.2.2.1
      rw [if_pos h0, if_pos h1]
      by_cases hk : (m.1 0 15).toInt = 2
      · rw [if_pos (by rw [hTT.1]; exact hk), if_pos hk]
        have hbd := h.aim h0 hk
        have hp : (m.1 0 13).toInt = (c.1 1 5).toInt := hTT.2.2.1.symm
        have hA := (hbd.s.next (Dpl_stb (i + 1)) hB).1
        have hR := (hA.take (Dpl_stb (i + 1)) hB).1
        have hr2 := hTT.2.2.2.1
        -- where the reference stands then
        have hq : ((F_X8_next1 0 (aimM m)).1 0 17).toInt = 0 → (m.1 0 13).toInt ≤ ((F_X8_next1 0 (aimM m)).1 0 13).toInt ∧ ((F_X8_next1 0 (aimM m)).1 0 13).toInt ≤ 160 ∧ (¬ ((F_X8_next1 0 (aimM m)).1 0 15).toInt = 0 → (m.1 0 13).toInt < ((F_X8_next1 0 (aimM m)).1 0 13).toInt) := by
          intro z
          rcases hA.2 with w | w
          · have := w.2.1; omega
          · obtain ⟨w1, w2, w3, w4⟩ := w
            have e5 : (aimC c).1 1 5 = c.1 1 5 := by
              rcases hbd.2 with u | u
              · exact absurd w1 u.1
              · have : ((aimC c).1 1 5).toInt = (c.1 1 5).toInt := by
                  have k1 := u.2.2.1.2.2.1
                  have k2 : (aimM m).1 0 13 = m.1 0 13 := by
                    unfold aimM
                    by_cases g1 : (m.1 4 32).toInt < 8
                    · rw [if_pos g1, neeM_o (show ¬ (1 : Int32).toInt = 0 by decide), lookM, if_pos h1, if_pos hk]
                      by_cases g2 : (0 : Int32).toInt ≤ (m.1 0 16).toInt ∧ (m.1 0 16).toInt ≤ (6 : Int32).toInt
                      · rw [if_pos g2]
                        simp only
                        rw [if_pos h1, up1_n _ _ (by omega), up1_n _ _ (by omega), up1_n _ _ (by omega)]
                      · rw [if_neg g2]
                        simp only
                        rw [if_neg (by rw [up1_n _ _ (Or.inr (by decide)), up1_s]; decide), up1_n _ _ (Or.inr (by decide)), up1_n _ _ (Or.inr (by decide))]
                    · rw [if_neg g1, neeM h1 (show (0 : Int32).toInt = 0 by decide), lookM_x (show ¬ ((up1 (up1 m 0 17 5) 0 18 (m.1 0 14)).1 0 17).toInt = 0 by rw [up1_n _ _ (Or.inr (by decide)), up1_s]; decide)]
                      simp only
                      rw [if_neg (show ¬ ((up1 (up1 m 0 17 5) 0 18 (m.1 0 14)).1 0 17).toInt = 0 by rw [up1_n _ _ (Or.inr (by decide)), up1_s]; decide), up1_n _ _ (Or.inr (by decide)), up1_n _ _ (Or.inr (by decide))]
                  rw [k1, k2, hp]
                exact Int32.toInt_inj.mp this
            rw [e5, ← hp] at w2 w3
            have hs := skp_r hB w2.1 w2.2.1
            have hqq := rq_r hB (f := skp B (m.1 0 13).toInt) (by omega) hs.2.1
            have nb : ¬ bad B (skp B (m.1 0 13).toInt) := fun u => by have := (w3.2.1 u).1; omega
            have g := w3.2.2 nb
            refine ⟨by omega, by omega, fun u => ?_⟩
            have := hqq.2.2 (fun w => u (by rw [g.2.1]; exact kd_n w))
            omega
        rw [← hsc, ← hsm]
        have ey : (y + 1).toInt = y.toInt + 1 := adI rfl rfl (by omega) (by omega)
        have hmm := hm h1
        have htm := tm_0 (p := (m.1 0 13).toInt) h1 (show ¬ (m.1 0 15).toInt = 0 by omega) (Or.inr trivial) (by omega)
        refine ih (i + 1) (y + 1) _ _ a b (by omega) (by omega) hR (by omega) (by omega) (fun z => ?_)
        obtain ⟨g1, g2, g3⟩ := hq z
        exact Nat.lt_of_lt_of_le (tm_lt h1 (show ¬ (m.1 0 15).toInt = 0 by omega) g1 g2 (fun _ w => g3 w)) (Nat.le_of_lt_succ hmm)
      · rw [if_neg (by rw [hTT.1]; exact hk), if_neg hk]
        exact (h.wr (WC.rf c) (WM.rf m) (fun _ z => z.1)).nd3
    · rw [if_neg h0, needC_x h0]
      have hf : Fl c m := by
        rcases h.2 with z | z
        · exact z
        · exact absurd z.1 h0
      rw [if_neg (by have := hf.2.1; omega), stM_x hf.2.1]
      exact ⟨h.1, Or.inl hf⟩
theorem ln_plan {q : Int} {B : Int → Int} {L : Int} (hB : okB B L) (v0 : St) (c m : St) (h : RA q (DTl 3) B L c m) : RT q Dr B L (planC v0 c) (stM (F_X8_readLineOf 0 10 m)) := by
  have e0 : F_X8_readLineOf 0 10 m = F_X8_readPlan 0 m := by
    simp only [F_X8_readLineOf, xl_d, xm_d]
    rw [if_neg (by decide), if_neg (by decide), if_neg (by decide), if_neg (by decide), if_neg (by decide), if_neg (by decide), if_pos (by decide)]
  have h2 : RA q (Dpl 0) B L c m := h.wr (WC.rf c) (WM.rf m) (fun _ z => ⟨z.1, (z.2 rfl).1, (z.2 rfl).2⟩)
  have h3 := (h2.take (Dpl_stb 0) hB).1
  rw [e0, readPlanM]
  unfold planC
  obtain ⟨N, hN⟩ : ∃ N : Nat, N = (2147483647 - (0 : Int32).toInt).toNat := ⟨_, rfl⟩
  rw [← hN]
  exact RA.plan hB v0 m 9 0 0 _ m (N + 1) _ rfl rfl h3 (by rw [← hN]; exact Nat.lt_succ_self N) (Nat.succ_pos _) (fun _ => Nat.lt_succ_self _)
