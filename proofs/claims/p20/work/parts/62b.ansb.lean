/-! the trial night and the reference's row -/
theorem AtR.fr {k p : Nat} {c m c2 m2 : St} (h : AtR k p c m) (e0 : c2.1 k = c.1 k) (e1 : c2.1 (k + 1) = c.1 (k + 1)) (e2 : c2.1 (k + 2) = c.1 (k + 2)) (e3 : c2.1 (k + 3) = c.1 (k + 3)) (e4 : c2.1 (k + 4) = c.1 (k + 4)) (ep : c2.1 p = c.1 p) (em : m2.1 2 = m.1 2) (h3 : m2.1 0 3 = m.1 0 3) (h4 : m2.1 0 4 = m.1 0 4) : AtR k p c2 m2 := by
  unfold AtR at h ⊢
  rw [e0, e1, e2, e3, e4, ep, em, h3, h4]
  exact h
def amO (a s : Int) : Prop := a = 5 ∨ a = 6 ∨ (0 ≤ a ∧ a < s)
def TR (c m : St) : Prop := AtR 22 27 c m ∧ (c.1 22 8 = m.1 2 24 ∧ c.1 22 9 = m.1 2 25) ∧ (c.1 22 14 = m.1 2 32 ∧ 0 ≤ (m.1 2 32).toInt ∧ (m.1 2 32).toInt ≤ 8) ∧ ∀ i : Nat, (i : Int) < (m.1 2 32).toInt → c.1 28 i = m.1 2 (33 + i) ∧ amO (m.1 2 (33 + i)).toInt (m.1 0 3).toInt
theorem TR.fr {c m c2 m2 : St} (h : TR c m) (hc : ∀ a b : Nat, 22 ≤ a → a < 29 → c2.1 a b = c.1 a b) (hm : ∀ a b : Nat, (a = 2 ∨ (a = 0 ∧ (b = 3 ∨ b = 4))) → m2.1 a b = m.1 a b) : TR c2 m2 := by
  have ec : ∀ a : Nat, 22 ≤ a → a < 29 → c2.1 a = c.1 a := fun a z1 z2 => funext fun b => hc a b z1 z2
  have em : m2.1 2 = m.1 2 := funext fun b => hm 2 b (by omega)
  have e3 := hm 0 3 (by omega)
  refine ⟨h.1.fr (ec _ (by omega) (by omega)) (ec _ (by omega) (by omega)) (ec _ (by omega) (by omega)) (ec _ (by omega) (by omega)) (ec _ (by omega) (by omega)) (ec _ (by omega) (by omega)) em e3 (hm 0 4 (by omega)), ?_⟩
  rw [ec 22 (by omega) (by omega), ec 28 (by omega) (by omega), em, e3]
  exact h.2
/-- what was seen -/
def SQ (c m : St) : Prop := (c.1 22 17 = m.1 1 41 ∧ 0 ≤ (m.1 1 41).toInt ∧ (m.1 1 41).toInt ≤ 6) ∧ ∀ i : Nat, (i : Int) < (m.1 1 41).toInt → c.1 29 i = m.1 1 (42 + 2 * i) ∧ c.1 30 i = m.1 1 (42 + 2 * i + 1) ∧ 0 ≤ (m.1 1 (42 + 2 * i)).toInt ∧ (m.1 1 (42 + 2 * i)).toInt ≤ 8
theorem NR.tr {c m : St} (h : NR 12 0 c m) : TR (F_X6_begin 21 12 c) (F_X8_starts 0 m) ∧ SQ (F_X6_begin 21 12 c) m ∧ ∀ a b : Nat, (a < 22 ∨ 31 ≤ a) → (F_X6_begin 21 12 c).1 a b = c.1 a b := by
  have e : F_X6_begin 21 12 c = F_X0_become 22 12 c := by simp only [F_X6_begin, xl_d, Nat.reduceAdd]
  rw [e]
  obtain ⟨b1, b2, b3, b4, b5, b6, b7⟩ := beN 22 12 (by omega) c
  obtain ⟨s1, s2⟩ := stM1 m
  generalize F_X0_become 22 12 c = u at *
  generalize F_X8_starts 0 m = w at *
  have n : NR 22 0 u m := h.mv rfl rfl (fun _ _ => rfl) b1 b2 b3 b4 b5 b6
  have hA : AtR 22 27 u w := n.at s1 (s2 0 3 (by omega)) (s2 0 4 (by omega)) (fun _ _ => rfl)
  obtain ⟨-, ⟨f1, f2, f3, f4, f5, f6, f7, f8, f9⟩, -, -, ⟨p1, p2⟩, ⟨q1, q2⟩⟩ := n
  simp only [Nat.zero_add, Nat.reduceAdd] at f2 f3 p1 p2 q1 q2
  refine ⟨⟨hA, ⟨by rw [s1 24 (by omega)]; exact f2, by rw [s1 25 (by omega)]; exact f3⟩, by rw [s1 32 (by omega)]; exact p1, fun i hi => ?_⟩, ⟨q1, q2⟩, b7⟩
  rw [s1 32 (by omega)] at hi
  rw [s1 (33 + i) (by omega), s2 0 3 (by omega)]
  have := p2 i hi
  refine ⟨this.1, ?_⟩
  unfold amO
  omega
/-- the reference's row behind i of its aims -/
def sq (m : St) (i : Nat) : St := i.rec m (fun j x => (F_X8_steps 0 (m.1 2 (33 + j)) x).2)
theorem sq_s (m : St) (i : Nat) : sq m (i + 1) = (F_X8_steps 0 (m.1 2 (33 + i)) (sq m i)).2 := rfl
def Fm (m x : St) : Prop := ∀ s t : Nat, ((s ≠ 2 ∨ (t ≠ 27 ∧ t ≠ 29 ∧ t ≠ 30 ∧ t ≠ 31)) ∧ (s ≠ 0 ∨ (t ≠ 19 ∧ t ≠ 20))) → x.1 s t = m.1 s t
def Fc (c u : St) : Prop := ∀ s t : Nat, ((s ≠ 21 ∨ (t ≠ 2 ∧ t ≠ 3)) ∧ (s ≠ 27 ∨ 4 ≤ t) ∧ s ≠ 31) → u.1 s t = c.1 s t
def WG (c m u w : St) : Prop := TR u w ∧ (u.1 21 2 = w.1 0 19 ∧ u.1 21 3 = w.1 0 20) ∧ Fc c u ∧ Fm m w ∧ TR u (sq m (m.1 2 32).toInt.toNat) ∧ (∀ j : Nat, (j : Int) ≤ (m.1 2 32).toInt → u.1 31 j = (sq m j).1 2 31) ∧ ∀ j : Nat, (j : Int) ≤ (m.1 2 32).toInt → Fm m (sq m j)
theorem TR.stp {c m : St} (h : TR c m) {i : Nat} (hi : (i : Int) < (m.1 2 32).toInt) : (F_X0_step 22 27 (m.1 2 (33 + i)) c).1 = (F_X8_steps 0 (m.1 2 (33 + i)) m).1 ∧ TR (F_X0_step 22 27 (m.1 2 (33 + i)) c).2 (F_X8_steps 0 (m.1 2 (33 + i)) m).2 := by
  obtain ⟨g1, g2, g3, g4, -⟩ := h.1.step (by omega) (h.2.2.2 i hi).2
  refine ⟨g1, g2, ⟨?_, ?_⟩, ?_, fun j hj => ?_⟩
  · rw [g3 22 8 (by omega), g4 2 24 (by omega)]; exact h.2.1.1
  · rw [g3 22 9 (by omega), g4 2 25 (by omega)]; exact h.2.1.2
  · rw [g3 22 14 (by omega), g4 2 32 (by omega)]; exact h.2.2.1
  · rw [g4 2 32 (by omega)] at hj
    have := h.2.2.1
    rw [g3 28 j (by omega), g4 2 (33 + j) (by omega), g4 0 3 (by omega)]
    exact h.2.2.2 j hj
theorem TR.walk {c m : St} (h : TR c m) : WG c m (F_X6_walkPlan 21 c) (F_X8_plansGo 0 m) := by
  have c0 : (0 : Int32).toInt = 0 := rfl
  have c1 : (1 : Int32).toInt = 1 := rfl
  have h8 := h.2.2.1
  generalize hu : F_X6_walkPlan 21 c = u
  generalize hw : F_X8_plansGo 0 m = w
  unfold F_X6_walkPlan at hu
  unfold F_X8_plansGo at hw
  obtain ⟨N, hN⟩ : ∃ N : Nat, N = (2147483647 - (0 : Int32).toInt).toNat := ⟨_, rfl⟩
  rw [← hN] at hu hw
  obtain ⟨P, eP, hu⟩ := xl_e hu
  obtain ⟨Q, eQ, hw⟩ := xl_e hw
  simp only [xl_d, Nat.reduceAdd] at hu hw
  have Lp : ∀ (n : Nat) (y : Int32) (i : Nat) (x z : St), (2147483647 - y.toInt).toNat < n → y.toInt = (i : Int) → (i : Int) ≤ (m.1 2 32).toInt → TR x z → x.1 21 2 = z.1 0 19 → x.1 21 3 = z.1 0 20 → Fc c x → Fm m z → TR x (sq m i) → (∀ j : Nat, j ≤ i → x.1 31 j = (sq m j).1 2 31) → (∀ j : Nat, j ≤ i → Fm m (sq m j)) → WG c m (lp P (fun _ _ => c) n y x) (lp Q (fun _ _ => m) n y z) := by
    intro n
    induction n with
    | zero => intro y i x z hm; exact absurd hm (Nat.not_lt_zero _)
    | succ n ih =>
      intro y i x z hm hy h1 hT hb hr hfc hfm hS hsd hsm
      rw [lp_s, lp_s]
      have e32 : z.1 2 32 = m.1 2 32 := hfm 2 32 (by omega)
      have ecn := cnI (x := y) (by omega)
      have k14 : x.1 22 14 = m.1 2 32 := by rw [hT.2.2.1.1, e32]
      have hpl := hasPl 22 y x
      rw [k14] at hpl
      by_cases d : y.toInt < (m.1 2 32).toInt
      · have ey : (y + 1).toInt = y.toInt + 1 := adI rfl rfl (by omega) (by omega)
        have ecn1 := cnI (x := y + 1) (by omega)
        have y33 : ((33 : Int32) + y).toInt = 33 + y.toInt := adI rfl rfl (by omega) (by omega)
        have ecn3 := cnI (x := (33 : Int32) + y) (by omega)
        have e33 : z.1 2 (33 + i) = m.1 2 (33 + i) := hfm 2 _ (by omega)
        have es33 : (sq m i).1 2 (33 + i) = m.1 2 (33 + i) := hsm i (Nat.le_refl i) 2 _ (by omega)
        have es32 : (sq m i).1 2 32 = m.1 2 32 := hsm i (Nat.le_refl i) 2 _ (by omega)
        have hx28 := (hT.2.2.2 i (by rw [e32]; omega)).1
        have st1 := hT.stp (i := i) (by rw [e32]; omega)
        have st2 := hS.stp (i := i) (by rw [es32]; omega)
        obtain ⟨-, -, g3, g4, g5⟩ := hT.1.step (by omega) (hT.2.2.2 i (by rw [e32]; omega)).2
        obtain ⟨-, -, -, q4, -⟩ := hS.1.step (by omega) (hS.2.2.2 i (by rw [es32]; omega)).2
        rw [e33] at hx28 st1 g3 g4 g5
        rw [es33, ← sq_s] at st2
        rw [es33, ← sq_s] at q4
        generalize hA : m.1 2 (33 + i) = a at *
        generalize hX : F_X0_step 22 27 a x = X at *
        generalize hZ : F_X8_steps 0 a z = Z at *
        obtain ⟨r, x1⟩ := X
        obtain ⟨r', z1⟩ := Z
        simp only at st1 st2 g3 g4 g5 q4
        obtain ⟨rfl, st1⟩ := st1
        have fcx : Fc c x1 := fun s t hs => by rw [g3 s t (by omega)]; exact hfc s t hs
        have fmz : Fm m z1 := fun s t hs => by rw [g4 s t (by omega)]; exact hfm s t hs
        have fms : Fm m (sq m (i + 1)) := fun s t hs => by rw [q4 s t (by omega)]; exact hsm i (Nat.le_refl i) s t hs
        have hsm' : ∀ j : Nat, j ≤ i + 1 → Fm m (sq m j) := fun j hj => by
          by_cases e : j = i + 1
          · rw [e]; exact fms
          · exact hsm j (by omega)
        have sd27 : x1.1 27 2 = (sq m (i + 1)).1 2 31 := st2.2.1.2.2.2.2.2.2.2.1
        -- the class's step, whatever it counts
        have fin : ∀ (x2 z2 : St), (∀ s t : Nat, (s ≠ 21 ∨ (t ≠ 2 ∧ t ≠ 3)) → x2.1 s t = x1.1 s t) → (∀ s t : Nat, (s ≠ 0 ∨ t ≠ 20) → z2.1 s t = z1.1 s t) → x2.1 21 2 = z2.1 0 19 → x2.1 21 3 = z2.1 0 20 → WG c m (lp P (fun _ _ => c) n (y + 1) (up1 x2 31 (y + 1).toNatClampNeg (x2.1 27 2))) (lp Q (fun _ _ => m) n (y + 1) z2) := by
          intro x2 z2 hx2 hz2 hb2 hr2
          refine ih (y + 1) (i + 1) _ _ (by omega) (by omega) (by omega) ?_ ?_ ?_ ?_ ?_ ?_ ?_ hsm'
          · exact st1.fr (fun s t _ _ => by rw [up1_n _ _ (by omega)]; exact hx2 s t (by omega)) (fun s t _ => hz2 s t (by omega))
          · rw [up1_n _ _ (by omega)]; exact hb2
          · rw [up1_n _ _ (by omega)]; exact hr2
          · intro s t hs
            rw [up1_n _ _ (by omega), hx2 s t (by omega)]
            exact fcx s t hs
          · intro s t hs
            rw [hz2 s t (by omega)]
            exact fmz s t hs
          · exact st2.2.fr (fun s t _ _ => by rw [up1_n _ _ (by omega)]; exact hx2 s t (by omega)) (fun _ _ _ => rfl)
          · intro j hj
            by_cases e : j = i + 1
            · rw [e, show (y + 1).toNatClampNeg = i + 1 by omega, up1_s, hx2 27 2 (by omega)]
              exact sd27
            · rw [up1_n _ _ (by omega), hx2 31 j (by omega), g3 31 j (by omega)]
              exact hsd j (by omega)
        have er : x1.1 21 3 = z1.1 0 20 := by rw [g3 21 3 (by omega), g4 0 20 (by omega)]; exact hr
        generalize hsf : lp P (fun _ _ => c) n = sf at fin ⊢
        generalize hsg : lp Q (fun _ _ => m) n = sg at fin ⊢
        have ep : P sf y x = (if r.toInt = 0 then (if (x1.1 21 3).toInt = (-4) then sf (y + 1) (up1 (up1 x1 21 3 y) 31 (y + 1).toNatClampNeg ((up1 x1 21 3 y).1 27 2)) else sf (y + 1) (up1 (up1 x1 21 3 (x1.1 21 3)) 31 (y + 1).toNatClampNeg ((up1 x1 21 3 (x1.1 21 3)).1 27 2))) else (if (F_X0_isBlind 22 a (x.1 27 0) x).toInt = 0 then sf (y + 1) (up1 x1 31 (y + 1).toNatClampNeg (x1.1 27 2)) else sf (y + 1) (up1 (up1 x1 21 2 (x1.1 21 2 + 1)) 31 (y + 1).toNatClampNeg ((up1 x1 21 2 (x1.1 21 2 + 1)).1 27 2)))) := by
          rw [eP]
          simp only [xl_d, xm_d, Nat.reduceAdd]
          rw [if_pos (by omega), if_neg (fun zz => hpl.mp zz ⟨by omega, d⟩), show y.toNatClampNeg = i by omega, hx28, hX]
        have eq : Q sg y z = (if r.toInt = 0 then (if (z1.1 0 20).toInt = (-4) then sg (y + 1) (up1 z1 0 20 y) else sg (y + 1) (up1 z1 0 20 (z1.1 0 20))) else sg (y + 1) (up1 z1 0 20 (z1.1 0 20))) := by
          rw [eQ]
          simp only [xl_d, xm_d, Nat.reduceAdd, cn32]
          rw [if_pos (by rw [e32]; exact d), show ((33 : Int32) + y).toNatClampNeg = 33 + i by omega, e33, hZ]
        rw [ep, eq]
        rcases g5 with ⟨-, gr, gb⟩ | ⟨-, gr, gz, gx⟩
        · have hr0 : ¬ r.toInt = 0 := by rw [gr]; omega
          rw [if_neg hr0, if_neg hr0]
          by_cases b0 : (F_X0_isBlind 22 a (x.1 27 0) x).toInt = 0
          · rw [if_pos b0]
            rw [if_pos b0] at gb
            refine fin x1 _ (fun _ _ _ => rfl) (fun s t hs => up1_n _ _ (by omega)) ?_ ?_
            · rw [up1_n _ _ (by omega), gb, g3 21 2 (by omega)]; exact hb
            · rw [up1_s]; exact er
          · rw [if_neg b0]
            rw [if_neg b0] at gb
            refine fin (up1 x1 21 2 (x1.1 21 2 + 1)) _ (fun s t hs => up1_n _ _ (by omega)) (fun s t hs => up1_n _ _ (by omega)) ?_ ?_
            · rw [up1_s, up1_n _ _ (by omega), gb, g3 21 2 (by omega), hb]
            · rw [up1_s, up1_n _ _ (by omega)]; exact er
        · have hr0 : r.toInt = 0 := by rw [gr]; rfl
          have eb : x1.1 21 2 = z1.1 0 19 := by rw [gx, gz]; exact hb
          rw [if_pos hr0, if_pos hr0, er]
          by_cases b0 : (z1.1 0 20).toInt = -4
          · rw [if_pos b0, if_pos b0]
            refine fin (up1 x1 21 3 y) _ (fun s t hs => up1_n _ _ (by omega)) (fun s t hs => up1_n _ _ (by omega)) ?_ ?_
            · rw [up1_n _ _ (by omega), up1_n _ _ (by omega)]; exact eb
            · rw [up1_s, up1_s]
          · rw [if_neg b0, if_neg b0]
            refine fin (up1 x1 21 3 (z1.1 0 20)) _ (fun s t hs => up1_n _ _ (by omega)) (fun s t hs => up1_n _ _ (by omega)) ?_ ?_
            · rw [up1_n _ _ (by omega), up1_n _ _ (by omega)]; exact eb
            · rw [up1_s, up1_s]
      · have ep : P (lp P (fun _ _ => c) n) y x = x := by
          generalize lp P (fun _ _ => c) n = sf
          rw [eP]
          simp only [xl_d, xm_d, Nat.reduceAdd]
          by_cases d8 : y.toInt < 8
          · rw [if_pos d8, if_pos (hpl.mpr (by omega))]
          · rw [if_neg d8]
        have eq : Q (lp Q (fun _ _ => m) n) y z = z := by
          generalize lp Q (fun _ _ => m) n = sf
          rw [eQ]
          simp only [xl_d, xm_d, Nat.reduceAdd, cn32]
          rw [if_neg (by rw [e32]; exact d)]
        rw [ep, eq]
        have ei : (m.1 2 32).toInt.toNat = i := by omega
        exact ⟨hT, ⟨hb, hr⟩, hfc, hfm, by rw [ei]; exact hS, fun j hj => hsd j (by omega), fun j hj => hsm j (by omega)⟩
  have fcx : Fc c (up1 (up1 (up1 c 21 2 0) 21 3 (-4)) 31 (0 : Int32).toNatClampNeg ((up1 (up1 c 21 2 0) 21 3 (-4)).1 27 2)) := fun s t hs => by rw [up1_n _ _ (by omega), up1_n _ _ (by omega), up1_n _ _ (by omega)]
  have fmz : Fm m (up1 (up1 m 0 20 (-4)) 0 19 0) := fun s t hs => by rw [up1_n _ _ (by omega), up1_n _ _ (by omega)]
  rw [← hu, ← hw]
  refine Lp (N + 1) 0 0 _ _ (by rw [← hN]; exact Nat.lt_succ_self N) rfl (by omega) ?_ ?_ ?_ fcx fmz ?_ ?_ ?_
  · exact h.fr (fun s t _ _ => by rw [up1_n _ _ (by omega), up1_n _ _ (by omega), up1_n _ _ (by omega)]) (fun s t _ => by rw [up1_n _ _ (by omega), up1_n _ _ (by omega)])
  · rw [up1_n _ _ (by omega), up1_n _ _ (by omega), up1_s, up1_s]
  · rw [up1_n _ _ (by omega), up1_s, up1_n _ _ (by omega), up1_s]
  · exact h.fr (fun s t _ _ => by rw [up1_n _ _ (by omega), up1_n _ _ (by omega), up1_n _ _ (by omega)]) (fun _ _ _ => rfl)
  · intro j hj
    obtain rfl : j = 0 := by omega
    rw [cn0, up1_s, up1_n _ _ (by omega), up1_n _ _ (by omega)]
    exact h.1.2.2.2.2.2.2.2.1
  · intro j hj
    obtain rfl : j = 0 := by omega
    exact fun _ _ _ => rfl
theorem TR.well {c m : St} (h : TR c m) : F_X0_isAtWell 22 27 c = F_X8_isAtWell 0 m := atW h.2.1.1 h.2.1.2 h.1.2.2.2.2.2.2.1.1 h.1.2.2.2.2.2.2.2.1
theorem ans_runs {c m : St} {r r2 a0 : Int32} {u w : St} (h : Sim c m) (hC : (r, u) = F_X7_runs 0 a0 c) (hM : (r2, w) = F_X8_runs 0 a0 m) : r = r2 := by
  have hT := h.1.tr.1
  obtain ⟨w1, w2, -⟩ := hT.walk
  have hm := inI (x := a0) (b := 0) (c := 6) (lo := 0) (hi := 6) m rfl rfl
  have hwl := w1.well
  simp only [F_X7_runs, xl_d, Nat.reduceAdd] at hC
  simp only [F_X8_runs, xl_d, Nat.reduceAdd, cn30, cn31, cn27, cn29] at hM
  generalize F_X6_walkPlan 21 (F_X6_begin 21 12 c) = x at *
  generalize F_X8_plansGo 0 (F_X8_starts 0 m) = z at *
  by_cases p : 0 ≤ a0.toInt ∧ a0.toInt ≤ 6
  · rw [if_neg (by omega), if_neg (by omega)] at hC
    rw [if_neg (fun zz => hm.mp zz p)] at hM
    obtain ⟨⟨f5, -⟩, ⟨f7, -⟩, ⟨f8, -⟩, ⟨f9, -⟩⟩ := w1.1.2.2.2.2
    by_cases q0 : a0.toInt = 0
    · rw [if_pos q0] at hC hM; rw [(Prod.mk.inj hC).1, (Prod.mk.inj hM).1]; exact f8
    rw [if_neg q0] at hC hM
    by_cases q1 : a0.toInt = 1
    · rw [if_pos q1] at hC hM; rw [(Prod.mk.inj hC).1, (Prod.mk.inj hM).1, f9]
    rw [if_neg q1] at hC hM
    by_cases q2 : a0.toInt = 2
    · rw [if_pos q2] at hC hM; rw [(Prod.mk.inj hC).1, (Prod.mk.inj hM).1]; exact f5
    rw [if_neg q2] at hC hM
    by_cases q3 : a0.toInt = 3
    · rw [if_pos q3] at hC hM; rw [(Prod.mk.inj hC).1, (Prod.mk.inj hM).1]; exact f7
    rw [if_neg q3] at hC hM
    by_cases q4 : a0.toInt = 4
    · rw [if_pos q4] at hC hM; rw [(Prod.mk.inj hC).1, (Prod.mk.inj hM).1]; exact w2.1
    rw [if_neg q4] at hC hM
    by_cases q5 : a0.toInt = 5
    · rw [if_pos q5] at hC hM; rw [(Prod.mk.inj hC).1, (Prod.mk.inj hM).1, hwl]; rfl
    rw [if_neg q5] at hC hM
    rw [(Prod.mk.inj hC).1, (Prod.mk.inj hM).1]; exact w2.2
  · rw [if_pos (hm.mpr p)] at hM
    have hC : (r, u) = (-1, c) := by
      by_cases q1 : a0.toInt < 0
      · rw [if_pos q1] at hC; exact hC
      · rw [if_neg q1, if_pos (by omega)] at hC; exact hC
    rw [(Prod.mk.inj hC).1, (Prod.mk.inj hM).1]
