/-! known, cloud -/
def knC (y : Int32) (v : St) : St := xl (F_X5_takeStop 1 v) fun u1 => if (u1.1 1 8).toInt = 0 then up1 u1 3 4 (kb (u1.1 3 4) y) else u1
def clC (y : Int32) (v : St) : St := xl (F_X5_takeStop 1 v) fun u1 => if (u1.1 1 8).toInt = 0 then up1 u1 3 11 (kb (u1.1 3 11) y) else u1
theorem bit01 (x : Int32) : (x &&& 1).toInt = 0 ∨ (x &&& 1).toInt = 1 := by
  have := anI (x := x) (y := 1) (b := 1) rfl (by decide)
  omega
theorem isKn (k : Nat) (a : Int32) (v : St) : (F_X0_isKnown k a v).toInt = 0 ↔ ((v.1 k 4 >>> (a &&& 31)) &&& 1).toInt = 0 := by
  have c1 : (1 : Int32).toInt = 1 := rfl
  have c0 : (0 : Int32).toInt = 0 := rfl
  have hb := bit01 (v.1 k 4 >>> (a &&& 31))
  simp only [F_X0_isKnown, xl_d]
  split <;> omega
theorem isCl (k : Nat) (a : Int32) (v : St) : (F_X0_isCloudy k a v).toInt = 0 ↔ ((v.1 k 11 >>> (a &&& 31)) &&& 1).toInt = 0 := by
  have c1 : (1 : Int32).toInt = 1 := rfl
  have c0 : (0 : Int32).toInt = 0 := rfl
  have hb := bit01 (v.1 k 11 >>> (a &&& 31))
  simp only [F_X0_isCloudy, xl_d]
  split <;> omega
theorem readKnownC (c : St) : F_X5_readKnown 1 c = (let q := F_X5_takeNumber 1 0 4 c; knC q.1 (if ¬ (q.2.1 1 8).toInt = 0 ∨ ((q.2.1 3 4 >>> (q.1 &&& 31)) &&& 1).toInt = 0 then q.2 else F_X5_refuse 1 4 (q.2.1 1 4) q.2)) := by
  simp only [F_X5_readKnown, xl_d, xm_d, Nat.reduceAdd, withBit1]
  generalize F_X5_takeNumber 1 0 4 c = q
  by_cases z : (q.2.1 1 8).toInt = 0
  · rw [if_pos z]
    by_cases w : ((q.2.1 3 4 >>> (q.1 &&& 31)) &&& 1).toInt = 0
    · rw [if_pos ((isKn 3 q.1 q.2).mpr w), if_pos (Or.inr w)]
      simp only [knC, xl_d]
    · have nn : ¬ (¬ (q.2.1 1 8).toInt = 0 ∨ ((q.2.1 3 4 >>> (q.1 &&& 31)) &&& 1).toInt = 0) := fun y => by
        rcases y with y | y
        · exact y z
        · exact w y
      rw [if_neg (fun y => w ((isKn 3 q.1 q.2).mp y)), if_neg nn]
      simp only [knC, xl_d]
  · rw [if_neg z, if_pos (Or.inl z)]
    simp only [knC, xl_d]
theorem readCloudC (c : St) : F_X5_readCloud 1 c = (let q := F_X5_takeNumber 1 0 9 c; clC q.1 (if ¬ (q.2.1 1 8).toInt = 0 ∨ ((q.2.1 3 11 >>> (q.1 &&& 31)) &&& 1).toInt = 0 then q.2 else F_X5_refuse 1 4 (q.2.1 1 4) q.2)) := by
  simp only [F_X5_readCloud, xl_d, xm_d, Nat.reduceAdd, withBit1]
  generalize F_X5_takeNumber 1 0 9 c = q
  by_cases z : (q.2.1 1 8).toInt = 0
  · rw [if_pos z]
    by_cases w : ((q.2.1 3 11 >>> (q.1 &&& 31)) &&& 1).toInt = 0
    · rw [if_pos ((isCl 3 q.1 q.2).mpr w), if_pos (Or.inr w)]
      simp only [clC, xl_d]
    · have nn : ¬ (¬ (q.2.1 1 8).toInt = 0 ∨ ((q.2.1 3 11 >>> (q.1 &&& 31)) &&& 1).toInt = 0) := fun y => by
        rcases y with y | y
        · exact y z
        · exact w y
      rw [if_neg (fun y => w ((isCl 3 q.1 q.2).mp y)), if_neg nn]
      simp only [clC, xl_d]
  · rw [if_neg z, if_pos (Or.inl z)]
    simp only [clC, xl_d]
/-- what the class will still do when the line has ended -/
def DKn (y : Int32) (c m : St) : Prop := Dr (up1 c 3 4 (kb (c.1 3 4) y)) m
def DCl (y : Int32) (c m : St) : Prop := Dr (up1 c 3 11 (kb (c.1 3 11) y)) m
theorem FC.up {c c2 : St} {k j : Nat} {x : Int32} (h : FC c c2) : FC (up1 c k j x) (up1 c2 k j x) := fun a b z => by
  by_cases e : a = k ∧ b = j
  · obtain ⟨rfl, rfl⟩ := e
    rw [up1_s, up1_s]
  · rw [up1_n _ _ (by omega), up1_n _ _ (by omega)]
    exact h a b z
theorem DKn_stb (y : Int32) : Stb (DKn y) := fun c m c2 m2 hc hm h => by
  unfold DKn at h ⊢
  rw [hc 3 4 (by omega)]
  exact h.tk hc.up hm
theorem DCl_stb (y : Int32) : Stb (DCl y) := fun c m c2 m2 hc hm h => by
  unfold DCl at h ⊢
  rw [hc 3 11 (by omega)]
  exact h.tk hc.up hm
theorem kb_t : ∀ k : Nat, k < 32 → ∀ s : Nat, s < 5 → (0 ≤ (kb (Int32.ofNat k) (Int32.ofNat s)).toInt ∧ (kb (Int32.ofNat k) (Int32.ofNat s)).toInt ≤ 31) ∧ ∀ t : Nat, t < 6 → ((kb (Int32.ofNat k) (Int32.ofNat s)).toInt < ((2 ^ t : Nat) : Int) ↔ ((Int32.ofNat k).toInt < ((2 ^ t : Nat) : Int) ∧ s < t)) := by decide +kernel
theorem Dr.known {c m : St} (h : Dr c m) {y hi : Int32} (hy : 0 ≤ y.toInt ∧ y.toInt ≤ 4) (hh : hi.toInt = if (m.1 0 10).toInt < y.toInt then y.toInt else (m.1 0 10).toInt) : DKn y c (up1 (up1 m 0 8 (kb (m.1 0 8) y)) 0 10 hi) := by
  obtain ⟨dS, dW, dF, dP, dT⟩ := h
  obtain ⟨p1, ⟨p2, p3⟩, p4, p5⟩ := dP
  unfold DKn
  have nc : ∀ a b : Nat, (a ≠ 3 ∨ b ≠ 4) → (up1 c 3 4 (kb (c.1 3 4) y)).1 a b = c.1 a b := fun a b w => up1_n _ _ w
  have nm : ∀ a b : Nat, (a ≠ 0 ∨ (b ≠ 8 ∧ b ≠ 10)) → (up1 (up1 m 0 8 (kb (m.1 0 8) y)) 0 10 hi).1 a b = m.1 a b := fun a b w => by rw [up1_n _ _ (by omega), up1_n _ _ (by omega)]
  have m8 : (up1 (up1 m 0 8 (kb (m.1 0 8) y)) 0 10 hi).1 0 8 = kb (m.1 0 8) y := by rw [up1_n _ _ (by omega), up1_s]
  have m10 : (up1 (up1 m 0 8 (kb (m.1 0 8) y)) 0 10 hi).1 0 10 = hi := up1_s _ _ _ _
  obtain ⟨k, hk⟩ := Int.eq_ofNat_of_zero_le p3.1
  obtain ⟨s, hs⟩ := Int.eq_ofNat_of_zero_le hy.1
  have t := kb_t k (by omega) s (by omega)
  rw [← i32_of (x := m.1 0 8) hk (by omega), ← i32_of (x := y) hs (by omega)] at t
  refine ⟨?_, ?_, ?_, ?_, ?_⟩
  · exact dS.fr (fun b => ⟨nc _ _ (by omega), nc _ _ (by omega), nc _ _ (by omega), nc _ _ (by omega)⟩) (nm _ _ (by omega)) (fun b _ => nm _ _ (by omega))
  · exact dW.fr (fun b => ⟨nc _ _ (by omega), nc _ _ (by omega)⟩) (nm _ _ (by omega)) (fun b _ _ => nm _ _ (by omega))
  · exact dF.fr (fun b _ _ => nc _ _ (by omega)) (fun b => nc _ _ (by omega)) (fun b _ _ => nm _ _ (by omega))
  · refine ⟨by rw [nc 3 14 (by omega), nm 4 32 (by omega)]; exact p1, ⟨by rw [up1_s, m8, p2], by rw [m8]; exact t.1⟩, fun i hi2 => ?_, fun u hu => ?_⟩
    · rw [nm 4 32 (by omega)] at hi2
      rw [nc 9 i (by omega), nm 4 _ (by omega)]
      exact p4 i hi2
    · rw [m10, m8, nm 4 32 (by omega), t.2 u (by omega)]
      have := p5 u hu
      have e : ∀ i : Nat, (up1 (up1 m 0 8 (kb (m.1 0 8) y)) 0 10 hi).1 4 (33 + i) = m.1 4 (33 + i) := fun i => nm 4 _ (by omega)
      simp only [e]
      constructor
      · intro z
        have z1 : (m.1 0 10).toInt < (u : Int) := by rw [hh] at z; split at z <;> omega
        have z2 : y.toInt < (u : Int) := by rw [hh] at z; split at z <;> omega
        exact ⟨⟨(this.mp z1).1, by omega⟩, (this.mp z1).2⟩
      · intro z
        have z1 := this.mpr ⟨z.1.1, z.2⟩
        have z2 := z.1.2
        rw [hh]
        split <;> omega
  · exact dT.fr (nc _ _ (by omega)) (nm _ _ (by omega)) (nm _ _ (by omega))
theorem ln_known {q : Int} {B : Int → Int} {L : Int} (hB : okB B L) (c m : St) (h : RA q Dr B L c m) : RT q Dr B L (F_X5_readKnown 1 c) (stM (F_X8_readLineOf 0 5 m)) := by
  have c1 : (1 : Int32).toInt = 1 := rfl
  have c0 : (0 : Int32).toInt = 0 := rfl
  have c4 : (4 : Int32).toInt = 4 := rfl
  have e0 : F_X8_readLineOf 0 5 m = F_X8_readKnown 0 m := by
    simp only [F_X8_readLineOf, xl_d, xm_d]
    rw [if_neg (by decide), if_pos (by decide)]
  rw [e0, readKnownC]
  generalize hmm : F_X8_readKnown 0 m = mm
  unfold F_X8_readKnown at hmm
  obtain ⟨J67, e67, hmm⟩ := xl_e hmm
  obtain ⟨J64, e64, hmm⟩ := xl_e hmm
  obtain ⟨J31, e31, hmm⟩ := xl_e hmm
  obtain ⟨r13, u14, eq, hmm⟩ := xm_e hmm
  obtain ⟨a1, a2, a3, a4, a5, a6⟩ := h.num Dr_stb hB 0 4
  generalize F_X5_takeNumber 1 0 4 c = q at a1 a2 a4 a5 a6 ⊢
  obtain ⟨r, cc⟩ := q
  rw [← eq] at a1 a3 a4 a6
  simp only at a1 a2 a3 a4 a5 a6 ⊢
  simp only [xl_d] at hmm
  have E67 : ∀ x : St, J67 x = F_X8_next1 0 x := fun x => by rw [e67]; simp only [xl_d]
  have E64 : ∀ (z : Int32) (x : St), J64 z x = F_X8_next1 0 (up1 x 0 10 z) := fun z x => by rw [e64]; simp only [xl_d]; rw [E67]
  have E31 : ∀ (y z : Int32) (x : St), J31 y z x = F_X8_next1 0 (up1 (up1 (F_X8_needs 0 z 4 x) 0 8 (kb ((F_X8_needs 0 z 4 x).1 0 8) y)) 0 10 (if ((F_X8_needs 0 z 4 x).1 0 10).toInt < y.toInt then y else (F_X8_needs 0 z 4 x).1 0 10)) := fun y z x => by
    rw [e31]
    simp only [xl_d]
    rw [E64, E64, up1_n _ _ (Or.inr (by decide))]
    unfold kb
    split <;> rfl
  by_cases h0 : (cc.1 1 8).toInt = 0
  · obtain ⟨b1, b2⟩ := a4 h0
    have hfm : (u14.1 0 17).toInt = 0 := by
      rcases a1.2 with z | z
      · exact absurd h0 z.1
      · exact z.2.1
    rw [if_pos hfm] at hmm
    have hz : ∃ z : Int32, (¬ z.toInt = 0 ↔ ((u14.1 0 8 >>> (r13 &&& 31)) &&& 1).toInt = 0) ∧ J31 r13 z u14 = mm := by
      by_cases w : ((u14.1 0 8 >>> (r13 &&& 31)) &&& 1).toInt = 0
      · rw [if_pos w] at hmm
        exact ⟨1, by omega, hmm⟩
      · rw [if_neg w] at hmm
        exact ⟨0, by omega, hmm⟩
    obtain ⟨z, hz, hmm⟩ := hz
    rw [E31] at hmm
    have hk := a1.chk (D2 := Dr) (p := ¬ (cc.1 1 8).toInt = 0 ∨ ((cc.1 3 4 >>> (r &&& 31)) &&& 1).toInt = 0) (ip := inferInstance) (z := z) (e := 4) (e2 := 4) (by decide) (by decide) (fun _ _ hd => by
      rw [hz, b1, hd.2.2.2.1.2.1.1]
      constructor
      · intro w
        rcases w with w | w
        · exact absurd h0 w
        · exact w
      · exact Or.inr) (fun _ hd _ => hd)
    rw [← b1] at b2
    generalize (if ¬ (cc.1 1 8).toInt = 0 ∨ ((cc.1 3 4 >>> (r &&& 31)) &&& 1).toInt = 0 then cc else F_X5_refuse 1 4 (cc.1 1 4) cc) = c3 at hk ⊢
    generalize F_X8_needs 0 z 4 u14 = m3 at hk hmm
    have hw : RT q (DKn r) B L c3 (up1 (up1 m3 0 8 (kb (m3.1 0 8) r13)) 0 10 (if (m3.1 0 10).toInt < r13.toInt then r13 else m3.1 0 10)) := by
      refine hk.wr (WC.rf c3) ((WM.up (by omega)).tr (WM.up (by omega))) (fun _ hd => ?_)
      rw [← b1]
      refine hd.known ⟨by omega, by omega⟩ ?_
      split <;> rfl
    have hA := (hw.s.next (DKn_stb r) hB).1
    rw [hmm] at hA
    obtain ⟨g1, g2, g3, g4⟩ := hA.stop (DKn_stb r) hB
    simp only [knC, xl_d]
    generalize F_X5_takeStop 1 c3 = c4 at g1 ⊢
    by_cases q : (c4.1 1 8).toInt = 0
    · rw [if_pos q]
      exact g1.wr (WC.up (by omega)) (WM.rf _) (fun _ hd => hd)
    · rw [if_neg q]
      exact g1.wr (WC.rf _) (WM.rf _) (fun w => absurd w q)
  · have hfl : Fl cc u14 := by
      rcases a1.2 with z | z
      · exact z
      · exact absurd z.1 h0
    rw [if_neg (by have := hfl.2.1; omega), E67, nextM_x hfl.2.1] at hmm
    subst hmm
    rw [if_pos (Or.inl h0), stM_x hfl.2.1]
    simp only [knC, F_X5_takeStop, xl_d]
    rw [takeC_x h0, needC_x h0, if_neg h0]
    exact a1
theorem ln_cloud {q : Int} {B : Int → Int} {L : Int} (hB : okB B L) (c m : St) (h : RA q Dr B L c m) : RT q Dr B L (F_X5_readCloud 1 c) (stM (F_X8_readLineOf 0 6 m)) := by
  have c1 : (1 : Int32).toInt = 1 := rfl
  have c0 : (0 : Int32).toInt = 0 := rfl
  have n28 : (28 : Int32).toNatClampNeg = 28 := rfl
  have e0 : F_X8_readLineOf 0 6 m = F_X8_readCloud 0 m := by
    simp only [F_X8_readLineOf, xl_d, xm_d]
    rw [if_neg (by decide), if_neg (by decide), if_pos (by decide)]
  rw [e0, readCloudC]
  generalize hmm : F_X8_readCloud 0 m = mm
  unfold F_X8_readCloud at hmm
  rw [n28] at hmm
  obtain ⟨J52, e52, hmm⟩ := xl_e hmm
  obtain ⟨J35, e35, hmm⟩ := xl_e hmm
  obtain ⟨r13, u14, eq, hmm⟩ := xm_e hmm
  obtain ⟨a1, a2, a3, a4, a5, a6⟩ := h.num Dr_stb hB 0 9
  generalize F_X5_takeNumber 1 0 9 c = q at a1 a2 a4 a5 a6 ⊢
  obtain ⟨r, cc⟩ := q
  rw [← eq] at a1 a3 a4 a6
  simp only at a1 a2 a3 a4 a5 a6 ⊢
  simp only [xl_d, Nat.reduceAdd] at hmm
  have E52 : ∀ x : St, J52 x = F_X8_next1 0 x := fun x => by rw [e52]; simp only [xl_d]
  have E35 : ∀ (y z : Int32) (x : St), J35 y z x = F_X8_next1 0 (up1 (F_X8_needs 0 z 4 x) 4 28 (kb ((F_X8_needs 0 z 4 x).1 4 28) y)) := fun y z x => by
    rw [e35]
    simp only [xl_d, Nat.reduceAdd]
    rw [E52]
    rfl
  by_cases h0 : (cc.1 1 8).toInt = 0
  · obtain ⟨b1, b2⟩ := a4 h0
    have hfm : (u14.1 0 17).toInt = 0 := by
      rcases a1.2 with z | z
      · exact absurd h0 z.1
      · exact z.2.1
    rw [if_pos hfm] at hmm
    have hz : ∃ z : Int32, (¬ z.toInt = 0 ↔ ((u14.1 4 28 >>> (r13 &&& 31)) &&& 1).toInt = 0) ∧ J35 r13 z u14 = mm := by
      by_cases w : ((u14.1 4 28 >>> (r13 &&& 31)) &&& 1).toInt = 0
      · rw [if_pos w] at hmm
        exact ⟨1, by omega, hmm⟩
      · rw [if_neg w] at hmm
        exact ⟨0, by omega, hmm⟩
    obtain ⟨z, hz, hmm⟩ := hz
    rw [E35] at hmm
    have hk := a1.chk (D2 := Dr) (p := ¬ (cc.1 1 8).toInt = 0 ∨ ((cc.1 3 11 >>> (r &&& 31)) &&& 1).toInt = 0) (ip := inferInstance) (z := z) (e := 4) (e2 := 4) (by decide) (by decide) (fun _ _ hd => by
      rw [hz, b1, hd.2.2.1.2.2.2.2.2.1]
      constructor
      · intro w
        rcases w with w | w
        · exact absurd h0 w
        · exact w
      · exact Or.inr) (fun _ hd _ => hd)
    generalize (if ¬ (cc.1 1 8).toInt = 0 ∨ ((cc.1 3 11 >>> (r &&& 31)) &&& 1).toInt = 0 then cc else F_X5_refuse 1 4 (cc.1 1 4) cc) = c3 at hk ⊢
    generalize F_X8_needs 0 z 4 u14 = m3 at hk hmm
    have hw : RT q (DCl r) B L c3 (up1 m3 4 28 (kb (m3.1 4 28) r13)) := by
      refine hk.wr (WC.rf c3) (WM.up (by omega)) (fun _ hd => ?_)
      unfold DCl
      rw [← b1, hd.2.2.1.2.2.2.2.2.1]
      exact hd.num _ (by omega)
    have hA := (hw.s.next (DCl_stb r) hB).1
    rw [hmm] at hA
    obtain ⟨g1, g2, g3, g4⟩ := hA.stop (DCl_stb r) hB
    simp only [clC, xl_d]
    generalize F_X5_takeStop 1 c3 = c4 at g1 ⊢
    by_cases q : (c4.1 1 8).toInt = 0
    · rw [if_pos q]
      exact g1.wr (WC.up (by omega)) (WM.rf _) (fun _ hd => hd)
    · rw [if_neg q]
      exact g1.wr (WC.rf _) (WM.rf _) (fun w => absurd w q)
  · have hfl : Fl cc u14 := by
      rcases a1.2 with z | z
      · exact z
      · exact absurd z.1 h0
    rw [if_neg (by have := hfl.2.1; omega), E52, nextM_x hfl.2.1] at hmm
    subst hmm
    rw [if_pos (Or.inl h0), stM_x hfl.2.1]
    simp only [clC, F_X5_takeStop, xl_d]
    rw [takeC_x h0, needC_x h0, if_neg h0]
    exact a1
