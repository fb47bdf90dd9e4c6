/-! the step reads one bit of the clouds -/
def Q28 (z z' : St) : Prop := ∀ s t : Nat, ((s = 2 ∧ t ≠ 28 ∧ t < 54) ∨ (s = 0 ∧ (t = 3 ∨ t = 4))) → z'.1 s t = z.1 s t
theorem Q28.up {z z' : St} (h : Q28 z z') (j : Nat) (x : Int32) : Q28 (up1 z 2 j x) (up1 z' 2 j x) := fun s t q => by
  by_cases e : s = 2 ∧ t = j
  · rw [e.1, e.2, up1_s, up1_s]
  · rw [up1_n _ _ (by omega), up1_n _ _ (by omega)]; exact h s t q
theorem Q28.u19 {z z' : St} (h : Q28 z z') (x y : Int32) : Q28 (up1 z 0 19 x) (up1 z' 0 19 y) := fun s t q => by
  rw [up1_n _ _ (by omega), up1_n _ _ (by omega)]; exact h s t q
theorem Q28.l {z z' : St} (h : Q28 z z') (x : Int32) : Q28 (up1 z 2 28 x) z' := fun s t q => by
  rw [up1_n _ _ (by omega)]; exact h s t q
theorem Q28.r {z z' : St} (h : Q28 z z') (x : Int32) : Q28 z (up1 z' 2 28 x) := fun s t q => by
  rw [up1_n _ _ (by omega)]; exact h s t q
theorem Q28.rf (z : St) : Q28 z z := fun _ _ _ => rfl
def Qp (p p' : Int32 × St) : Prop := p'.1 = p.1 ∧ Q28 p.2 p'.2
theorem Qp.mk' {z z' : St} (r : Int32) (h : Q28 z z') : Qp (r, z) (r, z') := ⟨rfl, h⟩
theorem Qp.ite {c : Prop} [Decidable c] {a b a' b' : Int32 × St} (h1 : Qp a a') (h2 : Qp b b') : Qp (if c then a else b) (if c then a' else b') := by
  by_cases q : c
  · rw [if_pos q, if_pos q]; exact h1
  · rw [if_neg q, if_neg q]; exact h2
theorem r31 (z : St) (x : Int32) : (up1 z 2 30 x).1 2 31 = z.1 2 31 := up1_n _ _ (by omega)
theorem stepsOn_q {z z' : St} {a hh : Int32} (h : Q28 z z') (ha : a.toInt < 5 → 0 ≤ a.toInt) (hf : ¬ (z.1 0 4).toInt = 0 → 0 ≤ (z.1 2 23).toInt ∧ (z.1 2 23).toInt < 3) (hb : (z'.1 2 28 >>> (hh &&& 31)) &&& 1 = (z.1 2 28 >>> (hh &&& 31)) &&& 1) : Qp (F_X8_stepsOn 0 a hh z) (F_X8_stepsOn 0 a hh z') := by
  have e26 := h 2 26 (by omega)
  have e30 := h 2 30 (by omega)
  have e31 := h 2 31 (by omega)
  have epl : F_X8_pullNow 0 hh z' = F_X8_pullNow 0 hh z := by
    simp only [F_X8_pullNow, xl_d, Nat.reduceAdd, cn23]
    rw [h 0 4 (by omega), h 2 23 (by omega)]
    by_cases d : (z.1 0 4).toInt = 0
    · rw [if_pos d, if_pos d]
    · have hf2 := hf d
      have a2 : ((20 : Int32) + z.1 2 23).toInt = 20 + (z.1 2 23).toInt := adI rfl rfl (by omega) (by omega)
      have n2 := cnI (x := (20 : Int32) + z.1 2 23) (by omega)
      rw [h 2 ((20 : Int32) + z.1 2 23).toNatClampNeg (by omega), pm_v _ _ z', pm_v _ _ z]
  have J83 : ∀ y : Int32, Qp (if hh.toInt < (z.1 2 26).toInt then ((1 : Int32), up1 (up1 z 2 30 (z.1 2 30 + 3)) 2 31 (z.1 2 31 + (y + 1))) else ((2 : Int32), up1 (up1 (up1 z 2 30 (z.1 2 30 + 2)) 2 31 (z.1 2 31 + (2 * y + 1))) 0 19 ((up1 (up1 z 2 30 (z.1 2 30 + 2)) 2 31 (z.1 2 31 + (2 * y + 1))).1 0 19 + 1))) (if hh.toInt < (z.1 2 26).toInt then ((1 : Int32), up1 (up1 z' 2 30 (z.1 2 30 + 3)) 2 31 (z.1 2 31 + (y + 1))) else ((2 : Int32), up1 (up1 (up1 z' 2 30 (z.1 2 30 + 2)) 2 31 (z.1 2 31 + (2 * y + 1))) 0 19 ((up1 (up1 z' 2 30 (z.1 2 30 + 2)) 2 31 (z.1 2 31 + (2 * y + 1))).1 0 19 + 1))) := fun y =>
    Qp.ite (Qp.mk' _ ((h.up _ _).up _ _)) (Qp.mk' _ (((h.up _ _).up _ _).u19 _ _))
  simp only [F_X8_stepsOn, xl_d, Nat.reduceAdd, cn26, cn30, cn31, r31]
  rw [epl, e26, e30, e31]
  refine Qp.ite (Qp.mk' _ h) ?_
  by_cases a5 : a.toInt < 5
  · have ha2 := ha a5
    have m4 : ((4 : Int32) * a).toInt = 4 * a.toInt := mlI rfl rfl (by omega) (by omega)
    have m43 : ((4 : Int32) * a + 3).toInt = 4 * a.toInt + 3 := adI m4 rfl (by omega) (by omega)
    have m42 : ((4 : Int32) * a + 2).toInt = 4 * a.toInt + 2 := adI m4 rfl (by omega) (by omega)
    have m41 : ((4 : Int32) * a + 1).toInt = 4 * a.toInt + 1 := adI m4 rfl (by omega) (by omega)
    have m40 : ((4 : Int32) * a + 0).toInt = 4 * a.toInt := by rw [Int32.add_zero]; exact m4
    have n43 := cnI (x := (4 : Int32) * a + 3) (by omega)
    have n42 := cnI (x := (4 : Int32) * a + 2) (by omega)
    have n41 := cnI (x := (4 : Int32) * a + 1) (by omega)
    have n40 := cnI (x := (4 : Int32) * a + 0) (by omega)
    have eup : F_X8_isUp 0 a hh z' = F_X8_isUp 0 a hh z := by
      simp only [F_X8_isUp, xl_d, Nat.reduceAdd, cn28]
      rw [h 2 ((4 : Int32) * a + 0).toNatClampNeg (by omega), h 2 ((4 : Int32) * a + 1).toNatClampNeg (by omega), hb]
      rfl
    rw [if_pos a5, if_pos a5, eup]
    refine Qp.ite (J83 _) ?_
    rw [nn_ (c := z) 2 ((4 : Int32) * a + 3).toNatClampNeg (by omega), nn_ (c := z') 2 ((4 : Int32) * a + 3).toNatClampNeg (by omega), nn_ (c := z) 2 ((4 : Int32) * a + 2).toNatClampNeg (by omega), nn_ (c := z') 2 ((4 : Int32) * a + 2).toNatClampNeg (by omega), h 2 ((4 : Int32) * a + 3).toNatClampNeg (by omega), h 2 ((4 : Int32) * a + 2).toNatClampNeg (by omega)]
    exact Qp.ite (Qp.mk' _ ((h.up _ _).up _ _)) (Qp.mk' _ ((h.up _ _).up _ _))
  · rw [if_neg a5, if_neg a5]
    exact J83 _
theorem steps_q {z z' : St} {a : Int32} (h : Q28 z z') (ha : a.toInt < 5 → 0 ≤ a.toInt) (hf : ¬ (z.1 0 4).toInt = 0 → 0 ≤ (z.1 2 23).toInt ∧ (z.1 2 23).toInt < 3) (hb : (z'.1 2 28 >>> (z.1 2 29 &&& 31)) &&& 1 = (z.1 2 28 >>> (z.1 2 29 &&& 31)) &&& 1) : Qp (F_X8_steps 0 a z) (F_X8_steps 0 a z') := by
  have e27 := h 2 27 (by omega)
  have e29 := h 2 29 (by omega)
  have ec : F_X8_canWalk 0 z' = F_X8_canWalk 0 z := by
    simp only [F_X8_canWalk, xl_d, Nat.reduceAdd, cn27, cn29]
    rw [e27, e29]
  obtain ⟨o1, o2⟩ := stepsOn_q (a := a) (hh := z.1 2 29) h ha hf hb
  simp only [F_X8_steps, xl_d, xm_d, Nat.reduceAdd, cn27, cn29]
  rw [ec, e29]
  generalize F_X8_stepsOn 0 a (z.1 2 29) z = T at *
  generalize F_X8_stepsOn 0 a (z.1 2 29) z' = T' at *
  refine Qp.ite (Qp.mk' _ h) ?_
  rw [o1, o2 2 27 (by omega), nn_ (c := T.2) 2 29 (by omega), nn_ (c := T.2) 2 29 (by omega), nn_ (c := T'.2) 2 29 (by omega), nn_ (c := T'.2) 2 29 (by omega), o2 2 29 (by omega)]
  exact Qp.ite (Qp.mk' _ ((o2.up _ _).up _ _)) (Qp.mk' _ ((o2.up _ _).up _ _))
/-! what a step leaves as it was -/
def Fs (z : St) (p : Int32 × St) : Prop := (∀ s t : Nat, ((s ≠ 2 ∨ (t ≠ 30 ∧ t ≠ 31)) ∧ (s ≠ 0 ∨ t ≠ 19)) → p.2.1 s t = z.1 s t) ∧ p.2.2 = z.2
theorem Fs.ite {z : St} {c : Prop} [Decidable c] {a b : Int32 × St} (h1 : Fs z a) (h2 : Fs z b) : Fs z (if c then a else b) := by
  by_cases q : c
  · rw [if_pos q]; exact h1
  · rw [if_neg q]; exact h2
theorem Fs.a (z : St) (r x y : Int32) : Fs z (r, up1 (up1 z 2 30 x) 2 31 y) := ⟨fun s t q => by
  show (up1 (up1 z 2 30 x) 2 31 y).1 s t = _
  rw [up1_n _ _ (by omega), up1_n _ _ (by omega)], rfl⟩
theorem Fs.b (z : St) (r x y w : Int32) : Fs z (r, up1 (up1 (up1 z 2 30 x) 2 31 y) 0 19 w) := ⟨fun s t q => by
  show (up1 (up1 (up1 z 2 30 x) 2 31 y) 0 19 w).1 s t = _
  rw [up1_n _ _ (by omega), up1_n _ _ (by omega), up1_n _ _ (by omega)], rfl⟩
theorem stepsOn_f (z : St) (a hh : Int32) : Fs z (F_X8_stepsOn 0 a hh z) := by
  simp only [F_X8_stepsOn, xl_d, Nat.reduceAdd, cn26, cn30, cn31]
  exact Fs.ite ⟨fun _ _ _ => rfl, rfl⟩ (Fs.ite (Fs.ite (Fs.ite (Fs.a _ _ _ _) (Fs.b _ _ _ _ _)) (Fs.ite (Fs.a _ _ _ _) (Fs.a _ _ _ _))) (Fs.ite (Fs.a _ _ _ _) (Fs.b _ _ _ _ _)))
/-- a step that can be -/
theorem steps_y {z : St} (a : Int32) (g : 0 < (z.1 2 27).toInt ∧ (z.1 2 29).toInt < 10) : (F_X8_steps 0 a z).2.1 2 29 = z.1 2 29 + 1 ∧ (∀ s t : Nat, ((s ≠ 2 ∨ (t ≠ 27 ∧ t ≠ 29 ∧ t ≠ 30 ∧ t ≠ 31)) ∧ (s ≠ 0 ∨ t ≠ 19)) → (F_X8_steps 0 a z).2.1 s t = z.1 s t) ∧ (F_X8_steps 0 a z).2.2 = z.2 := by
  obtain ⟨f1, f2⟩ := stepsOn_f z a (z.1 2 29)
  have hc := cwM (m := z)
  simp only [F_X8_steps, xl_d, xm_d, Nat.reduceAdd, cn27, cn29]
  generalize F_X8_stepsOn 0 a (z.1 2 29) z = T at *
  rw [if_neg (fun y => hc.mp y g), nn_ (c := T.2) 2 29 (by omega), nn_ (c := T.2) 2 29 (by omega)]
  have k : ∀ x y : Int32, (up1 (up1 T.2 2 27 x) 2 29 y).1 2 29 = y ∧ (∀ s t : Nat, ((s ≠ 2 ∨ (t ≠ 27 ∧ t ≠ 29 ∧ t ≠ 30 ∧ t ≠ 31)) ∧ (s ≠ 0 ∨ t ≠ 19)) → (up1 (up1 T.2 2 27 x) 2 29 y).1 s t = z.1 s t) ∧ (up1 (up1 T.2 2 27 x) 2 29 y).2 = z.2 := fun x y =>
    ⟨up1_s _ _ _ _, fun s t q => by rw [up1_n _ _ (by omega), up1_n _ _ (by omega)]; exact f1 s t (by omega), f2⟩
  have e29 := f1 2 29 (by omega)
  by_cases q : T.1.toInt < (T.2.1 2 27).toInt
  · rw [if_pos q, ← e29]; exact k _ _
  · rw [if_neg q, ← e29]; exact k _ _
theorem steps_n {z : St} (a : Int32) (g : ¬ (0 < (z.1 2 27).toInt ∧ (z.1 2 29).toInt < 10)) : (F_X8_steps 0 a z).2 = z := by
  have hc := cwM (m := z)
  simp only [F_X8_steps, xl_d, xm_d, Nat.reduceAdd, cn27, cn29]
  rw [if_pos (hc.mpr g)]
/-! bits of words -/
theorem bt_t : ∀ k : Nat, k < 10 → ∀ a : Nat, a < 32 → ∀ b : Nat, b < 32 → (Int32.ofNat (32 * a + b) >>> (Int32.ofNat k &&& 31)) &&& 1 = Int32.ofNat ((32 * a + b) / 2 ^ k % 2) := by decide +kernel
theorem btN {C : Nat} (hC : C < 1024) {k : Nat} (hk : k < 10) : (Int32.ofNat C >>> (Int32.ofNat k &&& 31)) &&& 1 = Int32.ofNat (C / 2 ^ k % 2) := by
  have t := bt_t k hk (C / 32) (by omega) (C % 32) (by omega)
  rw [show 32 * (C / 32) + C % 32 = C by omega] at t
  exact t
theorem sl_t : ∀ k : Nat, k < 11 → ∀ a : Nat, a < 32 → ∀ b : Nat, b < 32 → Int32.ofNat (32 * a + b) <<< (Int32.ofNat k &&& 31) = Int32.ofNat ((32 * a + b) * 2 ^ k) := by decide +kernel
theorem slN {C : Nat} (hC : C < 1024) {k : Nat} (hk : k < 11) : Int32.ofNat C <<< (Int32.ofNat k &&& 31) = Int32.ofNat (C * 2 ^ k) := by
  have t := sl_t k hk (C / 32) (by omega) (C % 32) (by omega)
  rw [show 32 * (C / 32) + C % 32 = C by omega] at t
  exact t
theorem sl1 : ∀ k : Nat, k < 11 → ((1 : Int32) <<< ((10 - Int32.ofNat k) &&& 31)).toInt = ((2 ^ (10 - k) : Nat) : Int) := by decide +kernel
theorem or_t : ∀ k : Nat, k < 10 → (((1 : Int32) <<< (Int32.ofNat k &&& 31)) >>> (Int32.ofNat k &&& 31)) &&& 1 = 1 := by decide +kernel
theorem an_t : ∀ k : Nat, k < 10 → ((((1 : Int32) <<< (Int32.ofNat k &&& 31)) ^^^ (-1)) >>> (Int32.ofNat k &&& 31)) &&& 1 = 0 := by decide +kernel
/-- withBit sets the bit -/
theorem wbB (C : Int32) {k b : Nat} (hk : k < 10) (hb : b < 2) (v : St) : (F_X7_withBit C (Int32.ofNat k) (Int32.ofNat b) v >>> (Int32.ofNat k &&& 31)) &&& 1 = Int32.ofNat b := by
  have c0 : (Int32.ofNat 0).toInt = 0 := rfl
  have c1 : (Int32.ofNat 1).toInt = 1 := rfl
  simp only [F_X7_withBit, xl_d]
  rcases (show b = 0 ∨ b = 1 by omega) with e | e
  · rw [e, if_pos c0, Int32.shiftRight_and, Int32.and_assoc, an_t k hk, Int32.and_zero]
    rfl
  · rw [e, if_neg (by omega), Int32.shiftRight_or]
    have o := or_t k hk
    have d : ∀ p q : Int32, (p ||| q) &&& 1 = (p &&& 1) ||| (q &&& 1) := fun p q => Int32.toBitVec_inj.1 (by
      simp only [Int32.toBitVec_and, Int32.toBitVec_or]
      exact BitVec.and_or_distrib_right)
    rw [d, o]
    rcases bit01 (C >>> (Int32.ofNat k &&& 31)) with h | h
    · rw [show (C >>> (Int32.ofNat k &&& 31)) &&& 1 = 0 from Int32.toInt_inj.mp (by rw [h]; rfl)]; rfl
    · rw [show (C >>> (Int32.ofNat k &&& 31)) &&& 1 = 1 from Int32.toInt_inj.mp (by rw [h]; rfl)]; rfl
