/-! lines that are told once; numbers -/
def kb (x s : Int32) : Int32 := x ||| ((1 : Int32) <<< (s &&& 31))
theorem withBit1 (x s : Int32) (v : St) : F_X7_withBit x s 1 v = kb x s := by
  simp only [F_X7_withBit, xl_d, kb]
  rw [if_neg (by decide)]
theorem tell_t : ∀ n : Nat, n < 16 → ∀ j : Nat, j < 4 → (((Int32.ofNat n &&& Int32.ofNat (2 ^ j)).toInt = 0 ↔ (((Int32.ofNat n <<< 7) >>> (Int32.ofNat (j + 7) &&& 31)) &&& 1).toInt = 0) ∧ kb (Int32.ofNat n <<< 7) (Int32.ofNat (j + 7)) = (Int32.ofNat n ||| Int32.ofNat (2 ^ j)) <<< 7 ∧ (0 ≤ (Int32.ofNat n ||| Int32.ofNat (2 ^ j)).toInt ∧ (Int32.ofNat n ||| Int32.ofNat (2 ^ j)).toInt ≤ 15) ∧ ((Int32.ofNat n ||| Int32.ofNat (2 ^ j)).toInt < 8 → (Int32.ofNat n).toInt < 8) ∧ (j = 3 → (Int32.ofNat n &&& Int32.ofNat (2 ^ j)).toInt = 0 → (Int32.ofNat n).toInt < 8) ∧ (j = 3 → ¬ (Int32.ofNat n ||| Int32.ofNat (2 ^ j)).toInt < 8)) := by decide +kernel
theorem i32_of {x : Int32} {n : Nat} (h : x.toInt = n) (hn : n < 2147483648) : x = Int32.ofNat n := Int32.toInt_inj.mp (by rw [Int32.toInt_ofNat_of_lt (by omega)]; exact h)
/-- what the reference does with a line that may come once -/
def toldM (y : Int32) (m : St) : St := up1 (F_X8_needs 0 (if ((m.1 0 9 >>> (y &&& 31)) &&& 1).toInt = 0 then 1 else 0) 4 m) 0 9 (kb (m.1 0 9) y)
/-- no plan yet, if it's the plan that is told -/
def DTl (j : Nat) (c m : St) : Prop := Dr c m ∧ (j = 3 → (m.1 4 32).toInt = 0 ∧ ¬ (c.1 1 7).toInt < 8)
theorem DTl_stb (j : Nat) : Stb (DTl j) := fun _ _ _ _ hc hm h => ⟨h.1.tk hc hm, fun z => by rw [hm 4 32 (by omega), hc 1 7 (by omega)]; exact h.2 z⟩
theorem RT.tell {q : Int} {B : Int → Int} {L : Int} {c m : St} (h : RT q Dr B L c m) {a y : Int32} {j : Nat} (hj : j < 4) (ha : a = Int32.ofNat (2 ^ j)) (hy : y = Int32.ofNat (j + 7)) : RT q (DTl j) B L (F_X5_tellOnce 1 a c) (toldM y m) := by
  have key : ∀ c m : St, Dr c m → ((c.1 1 7 &&& a).toInt = 0 ↔ ((m.1 0 9 >>> (y &&& 31)) &&& 1).toInt = 0) ∧ kb (m.1 0 9) y = (c.1 1 7 ||| a) <<< 7 ∧ (0 ≤ (c.1 1 7 ||| a).toInt ∧ (c.1 1 7 ||| a).toInt ≤ 15) ∧ ((c.1 1 7 ||| a).toInt < 8 → (c.1 1 7).toInt < 8) ∧ (j = 3 → (c.1 1 7 &&& a).toInt = 0 → (c.1 1 7).toInt < 8) ∧ (j = 3 → ¬ (c.1 1 7 ||| a).toInt < 8) := by
    intro c m hd
    obtain ⟨q1, q2, q3⟩ := hd.2.2.2.2.1
    obtain ⟨n, hn⟩ := Int.eq_ofNat_of_zero_le q2
    have t := tell_t n (by omega) j hj
    rw [q1, i32_of (n := n) hn (by omega), ha, hy]
    exact t
  have ex : F_X5_tellOnce 1 a c = up1 (if (c.1 1 7 &&& a).toInt = 0 then c else F_X5_refuse 1 4 (c.1 1 4) c) 1 7 (c.1 1 7 ||| a) := by
    simp only [F_X5_tellOnce, xl_d]
    by_cases z : (c.1 1 7 &&& a).toInt = 0
    · rw [if_pos z, if_pos z]
    · rw [if_neg z, if_neg z]
      by_cases f : (c.1 1 8).toInt = 0
      · rw [refC f, up1_n _ _ (Or.inr (by decide)), up1_n _ _ (Or.inr (by decide))]
      · rw [refC_x f]
  have c1 : (1 : Int32).toInt = 1 := rfl
  have c0 : (0 : Int32).toInt = 0 := rfl
  rw [ex]
  unfold toldM
  have hk := h.chk (D2 := fun c2 m2 => Dr c2 m2 ∧ c2.1 1 7 = c.1 1 7 ∧ m2.1 0 9 = m.1 0 9 ∧ (c.1 1 7 &&& a).toInt = 0 ∧ Dr c m) (p := (c.1 1 7 &&& a).toInt = 0) (ip := inferInstance) (z := if ((m.1 0 9 >>> (y &&& 31)) &&& 1).toInt = 0 then 1 else 0) (e := 4) (e2 := 4) (by decide) (by decide) (fun _ _ hd => by
    rw [(key c m hd).1]
    split <;> omega) (fun _ hd z => ⟨hd, rfl, rfl, z, hd⟩)
  refine hk.wr (WC.up (by omega)) (WM.up (by omega)) (fun _ hd => ?_)
  obtain ⟨⟨dS, dW, dF, dP, dT⟩, s1, s2, s3, hd0⟩ := hd
  obtain ⟨-, k2, k3, k4, k5, k6⟩ := key c m hd0
  generalize (if (c.1 1 7 &&& a).toInt = 0 then c else F_X5_refuse 1 4 (c.1 1 4) c) = cx at *
  generalize F_X8_needs 0 (if ((m.1 0 9 >>> (y &&& 31)) &&& 1).toInt = 0 then 1 else 0) 4 m = mx at *
  have nc : ∀ x z : Nat, (x ≠ 1 ∨ z ≠ 7) → (up1 cx 1 7 (c.1 1 7 ||| a)).1 x z = cx.1 x z := fun x z w => up1_n _ _ w
  have nm : ∀ x z : Nat, (x ≠ 0 ∨ z ≠ 9) → (up1 mx 0 9 (kb (m.1 0 9) y)).1 x z = mx.1 x z := fun x z w => up1_n _ _ w
  refine ⟨⟨?_, ?_, ?_, ?_, ?_⟩, fun z => ?_⟩
  · exact dS.fr (fun b => ⟨nc _ _ (by omega), nc _ _ (by omega), nc _ _ (by omega), nc _ _ (by omega)⟩) (nm _ _ (by omega)) (fun b _ => nm _ _ (by omega))
  · exact dW.fr (fun b => ⟨nc _ _ (by omega), nc _ _ (by omega)⟩) (nm _ _ (by omega)) (fun b _ _ => nm _ _ (by omega))
  · exact dF.fr (fun b _ _ => nc _ _ (by omega)) (fun b => nc _ _ (by omega)) (fun b _ _ => nm _ _ (by omega))
  · exact dP.fr ⟨nc _ _ (by omega), nc _ _ (by omega)⟩ (fun b => nc _ _ (by omega)) (nm _ _ (by omega)) (nm _ _ (by omega)) (fun b _ _ => nm _ _ (by omega))
  · refine ⟨⟨by rw [up1_s, up1_s]; exact k2, by rw [up1_s]; exact k3.1, by rw [up1_s]; exact k3.2⟩, fun z => ?_⟩
    rw [up1_s] at z
    rw [nm 4 32 (by omega)]
    exact dT.2 (by rw [s1]; exact k4 z)
  · rw [nm 4 32 (by omega), up1_s]
    exact ⟨dT.2 (by rw [s1]; exact k5 z s3), k6 z⟩
/-- a plain number of the draft -/
theorem Dr.num {c m : St} (h : Dr c m) {ka ja jb : Nat} (x : Int32) (hj : (ka = 3 ∧ ja = 8 ∧ jb = 24) ∨ (ka = 3 ∧ ja = 9 ∧ jb = 25) ∨ (ka = 3 ∧ ja = 10 ∧ jb = 26) ∨ (ka = 8 ∧ ja = 3 ∧ jb = 27 ∧ 0 ≤ x.toInt ∧ x.toInt ≤ 99) ∨ (ka = 3 ∧ ja = 11 ∧ jb = 28)) : Dr (up1 c ka ja x) (up1 m 4 jb x) := by
  obtain ⟨dS, dW, dF, dP, dT⟩ := h
  have nc : ∀ a b : Nat, (a ≠ ka ∨ b ≠ ja) → (up1 c ka ja x).1 a b = c.1 a b := fun a b w => up1_n _ _ w
  have nm : ∀ a b : Nat, (a ≠ 4 ∨ b ≠ jb) → (up1 m 4 jb x).1 a b = m.1 a b := fun a b w => up1_n _ _ w
  have sc : (up1 c ka ja x).1 ka ja = x := up1_s _ _ _ _
  have sm : (up1 m 4 jb x).1 4 jb = x := up1_s _ _ _ _
  refine ⟨?_, ?_, ?_, ?_, ?_⟩
  · exact dS.fr (fun b => ⟨nc _ _ (by omega), nc _ _ (by omega), nc _ _ (by omega), nc _ _ (by omega)⟩) (nm _ _ (by omega)) (fun b _ => nm _ _ (by omega))
  · exact dW.fr (fun b => ⟨nc _ _ (by omega), nc _ _ (by omega)⟩) (nm _ _ (by omega)) (fun b _ _ => nm _ _ (by omega))
  · obtain ⟨q1, q2, q3, q4, q5, q6, q7, q8, q9, q10⟩ := dF
    rcases hj with ⟨rfl, rfl, rfl⟩ | ⟨rfl, rfl, rfl⟩ | ⟨rfl, rfl, rfl⟩ | ⟨rfl, rfl, rfl, hx⟩ | ⟨rfl, rfl, rfl⟩
    · refine ⟨?_, ?_, ?_, ?_, ?_, ?_, ?_, ?_, ?_, ?_⟩
      all_goals first | (rw [sc, sm]; done) | (simp only [nc _ _ (show (3 : Nat) ≠ 3 ∨ (7 : Nat) ≠ 8 by decide), nc _ _ (show (3 : Nat) ≠ 3 ∨ (9 : Nat) ≠ 8 by decide), nc _ _ (show (3 : Nat) ≠ 3 ∨ (10 : Nat) ≠ 8 by decide), nc _ _ (show (3 : Nat) ≠ 3 ∨ (11 : Nat) ≠ 8 by decide), nc _ _ (show (3 : Nat) ≠ 3 ∨ (17 : Nat) ≠ 8 by decide), nc 8 0 (by decide), nc 8 1 (by decide), nc 8 2 (by decide), nc 8 3 (by decide), nm 4 23 (by decide), nm 4 25 (by decide), nm 4 26 (by decide), nm 4 27 (by decide), nm 4 28 (by decide), nm 4 29 (by decide), nm 4 30 (by decide), nm 4 31 (by decide), nm 4 41 (by decide)]; assumption)
    · refine ⟨?_, ?_, ?_, ?_, ?_, ?_, ?_, ?_, ?_, ?_⟩
      all_goals first | (rw [sc, sm]; done) | (simp only [nc 3 7 (by decide), nc 3 8 (by decide), nc 3 10 (by decide), nc 3 11 (by decide), nc 3 17 (by decide), nc 8 0 (by decide), nc 8 1 (by decide), nc 8 2 (by decide), nc 8 3 (by decide), nm 4 23 (by decide), nm 4 24 (by decide), nm 4 26 (by decide), nm 4 27 (by decide), nm 4 28 (by decide), nm 4 29 (by decide), nm 4 30 (by decide), nm 4 31 (by decide), nm 4 41 (by decide)]; assumption)
    · refine ⟨?_, ?_, ?_, ?_, ?_, ?_, ?_, ?_, ?_, ?_⟩
      all_goals first | (rw [sc, sm]; done) | (simp only [nc 3 7 (by decide), nc 3 8 (by decide), nc 3 9 (by decide), nc 3 11 (by decide), nc 3 17 (by decide), nc 8 0 (by decide), nc 8 1 (by decide), nc 8 2 (by decide), nc 8 3 (by decide), nm 4 23 (by decide), nm 4 24 (by decide), nm 4 25 (by decide), nm 4 27 (by decide), nm 4 28 (by decide), nm 4 29 (by decide), nm 4 30 (by decide), nm 4 31 (by decide), nm 4 41 (by decide)]; assumption)
    · refine ⟨?_, ?_, ?_, ?_, ⟨by rw [sc, sm], by rw [sm]; exact hx.1, by rw [sm]; exact hx.2⟩, ?_, ?_, ?_, ?_, ?_⟩
      all_goals (simp only [nc 3 7 (by decide), nc 3 8 (by decide), nc 3 9 (by decide), nc 3 10 (by decide), nc 3 11 (by decide), nc 3 17 (by decide), nc 8 0 (by decide), nc 8 1 (by decide), nc 8 2 (by decide), nm 4 23 (by decide), nm 4 24 (by decide), nm 4 25 (by decide), nm 4 26 (by decide), nm 4 28 (by decide), nm 4 29 (by decide), nm 4 30 (by decide), nm 4 31 (by decide), nm 4 41 (by decide)]; assumption)
    · refine ⟨?_, ?_, ?_, ?_, ?_, ?_, ?_, ?_, ?_, ?_⟩
      all_goals first | (rw [sc, sm]; done) | (simp only [nc 3 7 (by decide), nc 3 8 (by decide), nc 3 9 (by decide), nc 3 10 (by decide), nc 3 17 (by decide), nc 8 0 (by decide), nc 8 1 (by decide), nc 8 2 (by decide), nc 8 3 (by decide), nm 4 23 (by decide), nm 4 24 (by decide), nm 4 25 (by decide), nm 4 26 (by decide), nm 4 27 (by decide), nm 4 29 (by decide), nm 4 30 (by decide), nm 4 31 (by decide), nm 4 41 (by decide)]; assumption)
  · exact dP.fr ⟨nc _ _ (by omega), nc _ _ (by omega)⟩ (fun b => nc _ _ (by omega)) (nm _ _ (by omega)) (nm _ _ (by omega)) (fun b _ _ => nm _ _ (by omega))
  · exact dT.fr (nc _ _ (by omega)) (nm _ _ (by omega)) (nm _ _ (by omega))
/-- a number is read into a plain place of the draft -/
theorem RA.put {q : Int} {B : Int → Int} {L : Int} (hB : okB B L) {c m : St} (h : RA q Dr B L c m) (a b : Int32) {ka ja jb : Nat} (hj : (ka = 3 ∧ ja = 8 ∧ jb = 24) ∨ (ka = 3 ∧ ja = 9 ∧ jb = 25) ∨ (ka = 3 ∧ ja = 10 ∧ jb = 26) ∨ (ka = 8 ∧ ja = 3 ∧ jb = 27 ∧ a.toInt = 0 ∧ b.toInt = 99)) : RA q Dr B L (up1 (F_X5_takeNumber 1 a b c).2 ka ja (F_X5_takeNumber 1 a b c).1) (up1 (F_X8_readNumber 0 a b m).2 4 jb (F_X8_readNumber 0 a b m).1) := by
  obtain ⟨a1, a2, a3, a4, a5, a6⟩ := h.rnum Dr_stb hB a b
  rcases hj with ⟨rfl, rfl, rfl⟩ | ⟨rfl, rfl, rfl⟩ | ⟨rfl, rfl, rfl⟩ | ⟨rfl, rfl, rfl, h0, h9⟩
  · refine a1.wr (WC.up (by omega)) (WM.up (by omega)) (fun z hd => ?_)
    rw [(a4 z).1]
    have := (a4 z).2
    exact hd.num _ (Or.inl ⟨rfl, rfl, rfl⟩)
  · refine a1.wr (WC.up (by omega)) (WM.up (by omega)) (fun z hd => ?_)
    rw [(a4 z).1]
    have := (a4 z).2
    exact hd.num _ (Or.inr (Or.inl ⟨rfl, rfl, rfl⟩))
  · refine a1.wr (WC.up (by omega)) (WM.up (by omega)) (fun z hd => ?_)
    rw [(a4 z).1]
    have := (a4 z).2
    exact hd.num _ (Or.inr (Or.inr (Or.inl ⟨rfl, rfl, rfl⟩)))
  · refine a1.wr (WC.up (by omega)) (WM.up (by omega)) (fun z hd => ?_)
    rw [(a4 z).1]
    have := (a4 z).2
    exact hd.num _ (Or.inr (Or.inr (Or.inr (Or.inl ⟨rfl, rfl, rfl, by omega, by omega⟩))))
def wellC (c : St) : St :=
  xm (F_X5_takeNumber 1 1 40 c) fun r3 u4 => xl (up1 u4 3 8 r3) fun v6 => xm (F_X5_takeNumber 1 0 9 v6) fun r7 u8 => xl (up1 u8 3 9 r7) fun v10 => F_X5_takeStop 1 v10
def windC (c : St) : St := xm (F_X5_takeNumber 1 0 10 c) fun r3 u4 => xl (up1 u4 3 10 r3) fun v6 => F_X5_takeStop 1 v6
def waterC (c : St) : St := xm (F_X5_takeNumber 1 0 99 c) fun r3 u4 => xl (up1 u4 8 3 r3) fun v6 => F_X5_takeStop 1 v6
theorem readWellC (c : St) : F_X5_readWell 1 c = wellC (F_X5_tellOnce 1 1 c) := by simp only [F_X5_readWell, wellC, xl_d, xm_d, Nat.reduceAdd]
theorem readWindC (c : St) : F_X5_readWind 1 c = windC (F_X5_tellOnce 1 2 c) := by simp only [F_X5_readWind, windC, xl_d, xm_d, Nat.reduceAdd]
theorem readWaterC (c : St) : F_X5_readWater 1 c = waterC (F_X5_tellOnce 1 4 c) := by simp only [F_X5_readWater, waterC, xl_d, xm_d, Nat.reduceAdd]
theorem RA.dr {j : Nat} {q : Int} {B : Int → Int} {L : Int} {c m : St} (h : RA q (DTl j) B L c m) : RA q Dr B L c m := h.wr (WC.rf c) (WM.rf m) (fun _ z => z.1)
theorem ln_well {q : Int} {B : Int → Int} {L : Int} (hB : okB B L) (c m : St) (h : RA q (DTl 0) B L c m) : RT q Dr B L (wellC c) (stM (F_X8_readLineOf 0 7 m)) := by
  have A1 := h.dr.put hB 1 40 (ka := 3) (ja := 8) (jb := 24) (by omega)
  have A2 := A1.put hB 0 9 (ka := 3) (ja := 9) (jb := 25) (by omega)
  have e : F_X8_readLineOf 0 7 m = up1 (F_X8_readNumber 0 0 9 (up1 (F_X8_readNumber 0 1 40 m).2 4 24 (F_X8_readNumber 0 1 40 m).1)).2 4 25 (F_X8_readNumber 0 0 9 (up1 (F_X8_readNumber 0 1 40 m).2 4 24 (F_X8_readNumber 0 1 40 m).1)).1 := by
    simp only [F_X8_readLineOf, xl_d, xm_d, Nat.reduceAdd]
    rw [if_neg (by decide), if_neg (by decide), if_neg (by decide), if_pos (by decide)]
    rfl
  rw [e]
  simp only [wellC, xl_d, xm_d]
  exact (A2.stop Dr_stb hB).1
theorem ln_wind {q : Int} {B : Int → Int} {L : Int} (hB : okB B L) (c m : St) (h : RA q (DTl 1) B L c m) : RT q Dr B L (windC c) (stM (F_X8_readLineOf 0 8 m)) := by
  have A1 := h.dr.put hB 0 10 (ka := 3) (ja := 10) (jb := 26) (by omega)
  have e : F_X8_readLineOf 0 8 m = up1 (F_X8_readNumber 0 0 10 m).2 4 26 (F_X8_readNumber 0 0 10 m).1 := by
    simp only [F_X8_readLineOf, xl_d, xm_d, Nat.reduceAdd]
    rw [if_neg (by decide), if_neg (by decide), if_neg (by decide), if_neg (by decide), if_pos (by decide)]
    rfl
  rw [e]
  simp only [windC, xl_d, xm_d]
  exact (A1.stop Dr_stb hB).1
theorem ln_water {q : Int} {B : Int → Int} {L : Int} (hB : okB B L) (c m : St) (h : RA q (DTl 2) B L c m) : RT q Dr B L (waterC c) (stM (F_X8_readLineOf 0 9 m)) := by
  have c9 : (99 : Int32).toInt = 99 := rfl
  have c0 : (0 : Int32).toInt = 0 := rfl
  have A1 := h.dr.put hB 0 99 (ka := 8) (ja := 3) (jb := 27) (by omega)
  have e : F_X8_readLineOf 0 9 m = up1 (F_X8_readNumber 0 0 99 m).2 4 27 (F_X8_readNumber 0 0 99 m).1 := by
    simp only [F_X8_readLineOf, xl_d, xm_d, Nat.reduceAdd]
    rw [if_neg (by decide), if_neg (by decide), if_neg (by decide), if_neg (by decide), if_neg (by decide), if_pos (by decide)]
    rfl
  rw [e]
  simp only [waterC, xl_d, xm_d]
  exact (A1.stop Dr_stb hB).1
