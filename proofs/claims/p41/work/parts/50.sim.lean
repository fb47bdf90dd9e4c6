/-! what the class and the reference have in common -/
def Na (k : Nat) (c m : St) : Prop := (c.1 k 3 = m.1 0 3 ∧ 0 ≤ (m.1 0 3).toInt ∧ (m.1 0 3).toInt ≤ 5) ∧ (c.1 k 6 = m.1 0 4 ∧ 0 ≤ (m.1 0 4).toInt ∧ (m.1 0 4).toInt ≤ 3)
def Nf (k o : Nat) (c m : St) : Prop := (c.1 k 7 = m.1 1 (o + 23) ∧ 0 ≤ (m.1 1 (o + 23)).toInt ∧ (¬ (m.1 0 4).toInt = 0 → (m.1 1 (o + 23)).toInt < (m.1 0 4).toInt)) ∧ c.1 k 8 = m.1 1 (o + 24) ∧ c.1 k 9 = m.1 1 (o + 25) ∧ c.1 k 10 = m.1 1 (o + 26) ∧ (c.1 (k + 5) 3 = m.1 1 (o + 27) ∧ 0 ≤ (m.1 1 (o + 27)).toInt ∧ (m.1 1 (o + 27)).toInt ≤ 99) ∧ c.1 k 11 = m.1 1 (o + 28) ∧ (c.1 (k + 5) 0 = m.1 1 (o + 29) ∧ 0 ≤ (m.1 1 (o + 29)).toInt ∧ (m.1 1 (o + 29)).toInt ≤ 10) ∧ (c.1 (k + 5) 1 = m.1 1 (o + 30) ∧ 0 ≤ (m.1 1 (o + 30)).toInt ∧ (m.1 1 (o + 30)).toInt ≤ 3 * (m.1 1 (o + 29)).toInt) ∧ c.1 (k + 5) 2 = m.1 1 (o + 31) ∧ -30 * (m.1 1 (o + 29)).toInt ≤ (m.1 1 (o + 31)).toInt ∧ (m.1 1 (o + 31)).toInt ≤ 30 * (m.1 1 (o + 29)).toInt
def Ns (k o : Nat) (c m : St) : Prop := (0 ≤ (c.1 k 4).toInt ∧ (c.1 k 4).toInt ≤ 31 ∧ ∀ s : Nat, s ≤ 5 → (m.1 0 3).toInt = (s : Int) → (c.1 k 4).toInt < ((2 ^ s : Nat) : Int)) ∧ ∀ i : Nat, (i : Int) < (m.1 0 3).toInt → c.1 (k + 1) i = m.1 1 (o + 4 * i) ∧ c.1 (k + 2) i = m.1 1 (o + 4 * i + 1) ∧ (c.1 (k + 3) i = m.1 1 (o + 4 * i + 2) ∧ 0 ≤ (m.1 1 (o + 4 * i + 2)).toInt ∧ (m.1 1 (o + 4 * i + 2)).toInt ≤ 6) ∧ (c.1 k 4 >>> (Int32.ofNat i &&& 31)) &&& 1 = m.1 1 (o + 4 * i + 3)
def Nw (k o : Nat) (c m : St) : Prop := ∀ i : Nat, (i : Int) < (m.1 0 4).toInt → c.1 (k + 4) i = m.1 1 (o + 20 + i) ∧ 0 ≤ (m.1 1 (o + 20 + i)).toInt ∧ (m.1 1 (o + 20 + i)).toInt ≤ 3
def Np (k o : Nat) (c m : St) : Prop := (c.1 k 14 = m.1 1 (o + 32) ∧ 0 ≤ (m.1 1 (o + 32)).toInt ∧ (m.1 1 (o + 32)).toInt ≤ 8) ∧ ∀ i : Nat, (i : Int) < (m.1 1 (o + 32)).toInt → c.1 (k + 6) i = m.1 1 (o + 33 + i) ∧ 0 ≤ (m.1 1 (o + 33 + i)).toInt ∧ (m.1 1 (o + 33 + i)).toInt ≤ 6 ∧ ((m.1 1 (o + 33 + i)).toInt < 5 → (m.1 1 (o + 33 + i)).toInt < (m.1 0 3).toInt)
def Nq (k o : Nat) (c m : St) : Prop := (c.1 k 17 = m.1 1 (o + 41) ∧ 0 ≤ (m.1 1 (o + 41)).toInt ∧ (m.1 1 (o + 41)).toInt ≤ 6) ∧ ∀ i : Nat, (i : Int) < (m.1 1 (o + 41)).toInt → c.1 (k + 7) i = m.1 1 (o + 42 + 2 * i) ∧ c.1 (k + 8) i = m.1 1 (o + 42 + 2 * i + 1) ∧ 0 ≤ (m.1 1 (o + 42 + 2 * i)).toInt ∧ (m.1 1 (o + 42 + 2 * i)).toInt ≤ 8
def NR (k o : Nat) (c m : St) : Prop := Na k c m ∧ Nf k o c m ∧ Ns k o c m ∧ Nw k o c m ∧ Np k o c m ∧ Nq k o c m
theorem NR.mv {k o k2 o2 : Nat} {c m c2 m2 : St} (h : NR k o c m) (h3 : m2.1 0 3 = m.1 0 3) (h4 : m2.1 0 4 = m.1 0 4) (hm : ∀ b : Nat, b < 54 → m2.1 1 (o2 + b) = m.1 1 (o + b)) (hf : ∀ j : Nat, (j = 3 ∨ j = 4 ∨ (6 ≤ j ∧ j ≤ 11) ∨ j = 14 ∨ j = 17) → c2.1 k2 j = c.1 k j) (hp : ∀ j : Nat, j < 4 → c2.1 (k2 + 5) j = c.1 (k + 5) j) (hs : ∀ j : Nat, j < 5 → c2.1 (k2 + 1) j = c.1 (k + 1) j ∧ c2.1 (k2 + 2) j = c.1 (k + 2) j ∧ c2.1 (k2 + 3) j = c.1 (k + 3) j) (hw : ∀ j : Nat, j < 3 → c2.1 (k2 + 4) j = c.1 (k + 4) j) (hpl : ∀ j : Nat, j < 8 → c2.1 (k2 + 6) j = c.1 (k + 6) j) (hq : ∀ j : Nat, j < 6 → c2.1 (k2 + 7) j = c.1 (k + 7) j ∧ c2.1 (k2 + 8) j = c.1 (k + 8) j) : NR k2 o2 c2 m2 := by
  obtain ⟨⟨a1, a2⟩, ⟨f1, f2, f3, f4, f5, f6, f7, f8, f9⟩, ⟨s1, s2⟩, w, ⟨p1, p2⟩, ⟨q1, q2⟩⟩ := h
  refine ⟨⟨?_, ?_⟩, ⟨?_, ?_, ?_, ?_, ?_, ?_, ?_, ?_, ?_⟩, ⟨?_, fun i hi => ?_⟩, fun i hi => ?_, ⟨?_, fun i hi => ?_⟩, ⟨?_, fun i hi => ?_⟩⟩
  · rw [hf 3 (by omega), h3]; exact a1
  · rw [hf 6 (by omega), h4]; exact a2
  · rw [hf 7 (by omega), h4, hm 23 (by omega)]; exact f1
  · rw [hf 8 (by omega), hm 24 (by omega)]; exact f2
  · rw [hf 9 (by omega), hm 25 (by omega)]; exact f3
  · rw [hf 10 (by omega), hm 26 (by omega)]; exact f4
  · rw [hp 3 (by omega), hm 27 (by omega)]; exact f5
  · rw [hf 11 (by omega), hm 28 (by omega)]; exact f6
  · rw [hp 0 (by omega), hm 29 (by omega)]; exact f7
  · rw [hp 1 (by omega), hm 30 (by omega), hm 29 (by omega)]; exact f8
  · rw [hp 2 (by omega), hm 31 (by omega), hm 29 (by omega)]; exact f9
  · rw [hf 4 (by omega), h3]; exact s1
  · rw [h3] at hi
    have hj := hs i (by omega)
    have b0 := hm (4 * i) (by omega)
    have b1 := hm (4 * i + 1) (by omega)
    have b2 := hm (4 * i + 2) (by omega)
    have b3 := hm (4 * i + 3) (by omega)
    rw [← Nat.add_assoc, ← Nat.add_assoc] at b1 b2 b3
    rw [hj.1, hj.2.1, hj.2.2, hf 4 (by omega), b0, b1, b2, b3]
    exact s2 i hi
  · rw [h4] at hi
    have b0 := hm (20 + i) (by omega)
    rw [← Nat.add_assoc, ← Nat.add_assoc] at b0
    rw [hw i (by omega), b0]
    exact w i hi
  · rw [hf 14 (by omega), hm 32 (by omega)]; exact p1
  · rw [hm 32 (by omega)] at hi
    have b0 := hm (33 + i) (by omega)
    rw [← Nat.add_assoc, ← Nat.add_assoc] at b0
    rw [hpl i (by omega), b0, h3]
    exact p2 i hi
  · rw [hf 17 (by omega), hm 41 (by omega)]; exact q1
  · rw [hm 41 (by omega)] at hi
    have b0 := hm (42 + 2 * i) (by omega)
    have b1 := hm (42 + 2 * i + 1) (by omega)
    rw [← Nat.add_assoc, ← Nat.add_assoc] at b0 b1
    rw [← Nat.add_assoc, ← Nat.add_assoc] at b1
    rw [(hq i (by omega)).1, (hq i (by omega)).2, b0, b1]
    exact q2 i hi
theorem NR.fr {k o : Nat} {c m c2 m2 : St} (h : NR k o c m) (h3 : m2.1 0 3 = m.1 0 3) (h4 : m2.1 0 4 = m.1 0 4) (hm : ∀ b : Nat, o ≤ b → b < o + 54 → m2.1 1 b = m.1 1 b) (hc : ∀ a b : Nat, k ≤ a → a < k + 9 → c2.1 a b = c.1 a b) : NR k o c2 m2 :=
  h.mv h3 h4 (fun b hb => hm _ (by omega) (by omega)) (fun j _ => hc _ _ (by omega) (by omega)) (fun j _ => hc _ _ (by omega) (by omega)) (fun j _ => ⟨hc _ _ (by omega) (by omega), hc _ _ (by omega) (by omega), hc _ _ (by omega) (by omega)⟩) (fun j _ => hc _ _ (by omega) (by omega)) (fun j _ => hc _ _ (by omega) (by omega)) (fun j _ => ⟨hc _ _ (by omega) (by omega), hc _ _ (by omega) (by omega)⟩)
/-- images -/
def Im (c m : St) : Prop := ∀ i : Nat, i < 2 → c.1 63 i = m.1 3 i ∧ ((m.1 3 i).toInt = 0 ∨ (m.1 3 i).toInt = 1) ∧ ((m.1 3 i).toInt = 1 → NR (65 + 9 * i) (54 * (i + 1)) c m)
/-- the tape -/
def Tp (c m : St) : Prop := (c.1 1 1 = m.1 0 12 ∧ 0 ≤ (m.1 0 12).toInt ∧ (m.1 0 12).toInt ≤ 160) ∧ ∀ i : Nat, (i : Int) < (m.1 0 12).toInt → c.1 2 i = m.1 5 i ∧ 0 ≤ (m.1 5 i).toInt ∧ (m.1 5 i).toInt ≤ 127
/-- sheets -/
def Sh (c m : St) : Prop := ∀ s : Nat, s < 4 → (((c.1 (83 + 2 * s) 0).toInt = -1 ∧ (m.1 6 s).toInt = -4) ∨ (c.1 (83 + 2 * s) 0 = m.1 6 s ∧ 0 ≤ (m.1 6 s).toInt ∧ (m.1 6 s).toInt ≤ 2)) ∧ (c.1 (83 + 2 * s) 1 = m.1 7 s ∧ 0 ≤ (m.1 7 s).toInt ∧ (m.1 7 s).toInt ≤ 40) ∧ ∀ i : Nat, i < 40 → c.1 (84 + 2 * s) i = m.1 8 (40 * s + i)
def Sim (c m : St) : Prop := NR 12 0 c m ∧ Im c m ∧ Tp c m ∧ Sh c m ∧ c.1 0 10 = m.1 0 29
theorem Im.fr {c m c2 m2 : St} (h : Im c m) (h3 : m2.1 0 3 = m.1 0 3) (h4 : m2.1 0 4 = m.1 0 4) (hm : ∀ b : Nat, 54 ≤ b → m2.1 1 b = m.1 1 b) (hk : ∀ b : Nat, m2.1 3 b = m.1 3 b) (hc : ∀ a b : Nat, 63 ≤ a → a < 83 → c2.1 a b = c.1 a b) : Im c2 m2 := fun i hi => by
  rw [hc 63 i (by omega) (by omega), hk]
  have := h i hi
  exact ⟨this.1, this.2.1, fun z => (this.2.2 z).fr h3 h4 (fun b _ _ => hm b (by omega)) (fun a b _ _ => hc a b (by omega) (by omega))⟩
theorem Tp.fr {c m c2 m2 : St} (h : Tp c m) (h1 : c2.1 1 1 = c.1 1 1) (h2 : ∀ b : Nat, c2.1 2 b = c.1 2 b) (h3 : m2.1 0 12 = m.1 0 12) (h4 : ∀ b : Nat, m2.1 5 b = m.1 5 b) : Tp c2 m2 := by
  unfold Tp at h ⊢
  rw [h1, h3]
  exact ⟨h.1, fun i hi => by rw [h2, h4]; exact h.2 i hi⟩
theorem Sh.fr {c m c2 m2 : St} (h : Sh c m) (hc : ∀ a b : Nat, 83 ≤ a → a < 91 → c2.1 a b = c.1 a b) (hm : ∀ a b : Nat, (a = 6 ∨ a = 7 ∨ a = 8) → m2.1 a b = m.1 a b) : Sh c2 m2 := fun s hs => by
  rw [hc _ _ (by omega) (by omega), hc _ _ (by omega) (by omega), hm 6 s (by omega), hm 7 s (by omega)]
  exact ⟨(h s hs).1, (h s hs).2.1, fun i hi => by rw [hc _ _ (by omega) (by omega), hm 8 _ (by omega)]; exact (h s hs).2.2 i hi⟩
/-- where neither touches what is told -/
theorem Sim.fr {c m c2 m2 : St} (h : Sim c m) (hc : ∀ a b : Nat, ((12 ≤ a ∧ a < 21) ∨ (63 ≤ a ∧ a < 91) ∨ a = 2 ∨ (a = 1 ∧ b = 1) ∨ (a = 0 ∧ b = 10)) → c2.1 a b = c.1 a b) (hm : ∀ a b : Nat, (a = 1 ∨ a = 3 ∨ (5 ≤ a ∧ a < 9) ∨ (a = 0 ∧ (b = 3 ∨ b = 4 ∨ b = 12 ∨ b = 29))) → m2.1 a b = m.1 a b) : Sim c2 m2 :=
  ⟨h.1.fr (hm _ _ (by omega)) (hm _ _ (by omega)) (fun b _ _ => hm _ _ (by omega)) (fun a b _ _ => hc _ _ (by omega)), h.2.1.fr (hm _ _ (by omega)) (hm _ _ (by omega)) (fun b _ => hm _ _ (by omega)) (fun b => hm _ _ (by omega)) (fun a b _ _ => hc _ _ (by omega)), h.2.2.1.fr (hc _ _ (by omega)) (fun b => hc _ _ (by omega)) (hm _ _ (by omega)) (fun b => hm _ _ (by omega)), h.2.2.2.1.fr (fun a b _ _ => hc _ _ (by omega)) (fun a b _ => hm _ _ (by omega)), by rw [hc 0 10 (by omega), hm 0 29 (by omega)]; exact h.2.2.2.2⟩
theorem Tp.ok {c m : St} (h : Tp c m) : BC 1 c = BM 0 m ∧ okB (BM 0 m) (m.1 0 12).toInt ∧ (c.1 1 1).toInt = (m.1 0 12).toInt := by
  obtain ⟨⟨h1, h2, h3⟩, h4⟩ := h
  refine ⟨?_, ⟨h2, h3, fun i => ?_⟩, by rw [h1]⟩
  · unfold BC BM
    funext i
    rw [h1]
    by_cases z : 0 ≤ i ∧ i < (m.1 0 12).toInt
    · rw [if_pos z, if_pos z, (h4 i.toNat (by omega)).1]
    · rw [if_neg z, if_neg z]
  · unfold BM
    by_cases z : 0 ≤ i ∧ i < (m.1 0 12).toInt
    · rw [if_pos z]
      have := h4 i.toNat (by omega)
      show (-1 ≤ (m.1 5 i.toNat).toInt ∧ (m.1 5 i.toNat).toInt ≤ 127) ∧ ((m.1 5 i.toNat).toInt = -1 ↔ _)
      omega
    · rw [if_neg z]
      omega
/-! the whole text -/
theorem hasPl (k : Nat) (a : Int32) (v : St) : (F_X0_hasPlanned k a v).toInt = 0 ↔ ¬ (0 ≤ a.toInt ∧ a.toInt < (v.1 k 14).toInt) := by
  have c1 : (1 : Int32).toInt = 1 := rfl
  have c0 : (0 : Int32).toInt = 0 := rfl
  simp only [F_X0_hasPlanned, xl_d]
  repeat' split
  all_goals omega
theorem hasSt (k : Nat) (a : Int32) (v : St) : (F_X0_hasStar k a v).toInt = 0 ↔ ¬ (0 ≤ a.toInt ∧ a.toInt < (v.1 k 3).toInt) := by
  have c1 : (1 : Int32).toInt = 1 := rfl
  have c0 : (0 : Int32).toInt = 0 := rfl
  simp only [F_X0_hasStar, xl_d]
  repeat' split
  all_goals omega
theorem hasWk (k : Nat) (a : Int32) (v : St) : (F_X0_hasWalker k a v).toInt = 0 ↔ ¬ (0 ≤ a.toInt ∧ a.toInt < (v.1 k 6).toInt) := by
  have c1 : (1 : Int32).toInt = 1 := rfl
  have c0 : (0 : Int32).toInt = 0 := rfl
  simp only [F_X0_hasWalker, xl_d]
  repeat' split
  all_goals omega
theorem hasAm (k : Nat) (a : Int32) (v : St) : (F_X0_hasAim k a v).toInt = 0 ↔ ¬ (a.toInt = 5 ∨ a.toInt = 6 ∨ (0 ≤ a.toInt ∧ a.toInt < (v.1 k 3).toInt)) := by
  have c1 : (1 : Int32).toInt = 1 := rfl
  have c0 : (0 : Int32).toInt = 0 := rfl
  have h := hasSt k a v
  simp only [F_X0_hasAim, xl_d]
  repeat' split
  all_goals omega
theorem sh_t : ∀ k : Nat, k < 32 → ∀ s : Nat, s < 6 → ((Int32.ofNat k >>> (Int32.ofNat s &&& 31)).toInt = 0 ↔ k < 2 ^ s) := by decide +kernel
theorem nnS {c m : St} (h : Dr c m) : (F_X5_namesNoStar 1 c).toInt = 0 ↔ (m.1 0 10).toInt < (m.1 0 6).toInt := by
  have c1 : (1 : Int32).toInt = 1 := rfl
  have c0 : (0 : Int32).toInt = 0 := rfl
  obtain ⟨⟨s1, -⟩, -, -, ⟨p1, p2, p4, p5⟩, -⟩ := h
  obtain ⟨sn, hsn⟩ := Int.eq_ofNat_of_zero_le s1.2.1
  obtain ⟨kn, hkn⟩ := Int.eq_ofNat_of_zero_le p2.2.1
  have p6 := p5 sn (by omega)
  rw [hsn, p6]
  generalize hu : F_X5_namesNoStar 1 c = u
  unfold F_X5_namesNoStar at hu
  obtain ⟨N, hN⟩ : ∃ N : Nat, N = (2147483647 - (0 : Int32).toInt).toNat := ⟨_, rfl⟩
  rw [← hN] at hu
  obtain ⟨P, eP, hu⟩ := xl_e hu
  simp only [xl_d, Nat.reduceAdd] at hu
  have ht := sh_t kn (by omega) sn (by omega)
  rw [← i32_of (x := m.1 0 8) hkn (by omega), ← i32_of (x := m.1 0 6) hsn (by omega)] at ht
  rw [p2.1, s1.1] at hu
  have Lp : ∀ (n : Nat) (y : Int32), (2147483647 - y.toInt).toNat < n → 0 ≤ y.toInt → y.toInt ≤ 8 → ((lp P (fun _ => (0 : Int32)) n y).toInt = 0 ↔ ∀ i : Nat, y.toInt ≤ (i : Int) → (i : Int) < (m.1 4 32).toInt → (m.1 4 (33 + i)).toInt < 5 → (m.1 4 (33 + i)).toInt < (sn : Int)) := by
    intro n
    induction n with
    | zero => intro y hm; exact absurd hm (Nat.not_lt_zero _)
    | succ n ih =>
      intro y hm h0 h1
      rw [lp_s]
      generalize hsf : lp P (fun _ => (0 : Int32)) n = sf at ih
      rw [eP]
      simp only [xl_d, Nat.reduceAdd]
      by_cases d : y.toInt < 8
      · rw [if_pos d]
        have hp := hasPl 3 y c
        rw [p1.1] at hp
        by_cases d2 : y.toInt < (m.1 4 32).toInt
        · rw [if_neg (fun z => hp.mp z ⟨h0, d2⟩)]
          have hcn := cnI (x := y) h0
          have q := p4 y.toNatClampNeg (by omega)
          have ha := hasAm 3 (c.1 9 y.toNatClampNeg) c
          rw [q.1, s1.1] at ha
          rw [q.1]
          by_cases d3 : (m.1 4 (33 + y.toNatClampNeg)).toInt < 5 → (m.1 4 (33 + y.toNatClampNeg)).toInt < (sn : Int)
          · rw [if_neg (fun z => ha.mp z (by omega))]
            have ey : (y + 1).toInt = y.toInt + 1 := adI rfl rfl (by omega) (by omega)
            rw [ih (y + 1) (by omega) (by omega) (by omega)]
            constructor
            · intro z i hi1 hi2
              by_cases e : i = y.toNatClampNeg
              · rw [e]; exact d3
              · exact z i (by omega) hi2
            · intro z i hi1 hi2
              exact z i (by omega) hi2
          · rw [if_pos (ha.mpr (by omega))]
            constructor
            · intro z; omega
            · intro z; exact absurd (z y.toNatClampNeg (by omega) (by omega)) d3
        · rw [if_pos (hp.mpr (by omega))]
          constructor
          · intro _ i hi1 hi2; omega
          · intro _; rfl
      · rw [if_neg d]
        constructor
        · intro _ i hi1 hi2; omega
        · intro _; rfl
  by_cases d : (m.1 0 8 >>> (m.1 0 6 &&& 31)).toInt = 0
  · rw [if_pos d] at hu
    have q := Lp (N + 1) 0 (by rw [← hN]; exact Nat.lt_succ_self N) (by omega) (by omega)
    rw [hu] at q
    rw [q]
    have dk := ht.mp d
    constructor
    · intro z; exact ⟨by rw [hkn]; exact_mod_cast dk, fun i hi => z i (by omega) hi⟩
    · intro z i _ hi; exact z.2 i hi
  · rw [if_neg d] at hu
    rw [← hu]
    constructor
    · intro z; omega
    · intro z
      exfalso
      apply d
      apply ht.mpr
      have := z.1
      rw [hkn] at this
      exact_mod_cast this
/-- what stands where the reading has come to its end -/
theorem RT.lines {B : Int → Int} {L : Int} (hB : okB B L) {P33 : (Int32 → St → Int32 × St) → Int32 → St → Int32 × St} {P20 : (Int32 → St → Int32 × St) → Int32 → St → Int32 × St} {J68 J44 : Int32 → St → Int32 × St} {dC dM : Int32 → St → Int32 × St} (e33 : ∀ sf y x, P33 sf y x = if (x.1 1 8).toInt = 0 then (if (x.1 1 3).toInt = 0 then J68 y x else (if 160 < y.toInt then J68 y x else sf (y + 1) (F_X5_takeToken 1 (F_X5_readLine 1 x)))) else J68 y x) (e20 : ∀ sf y x, P20 sf y x = if (x.1 0 17).toInt = 0 then (if (x.1 0 15).toInt = 0 then J44 y x else sf (y + 1) (F_X8_readLine 0 x)) else J44 y x) : ∀ (n : Nat) (q : Int) (y : Int32) (c m : St) (a b : Nat), RT q Dr B L c m → 0 ≤ y.toInt → y.toInt ≤ 200 → ((c.1 1 8).toInt = 0 → y.toInt ≤ (c.1 1 4).toInt ∧ (L - (c.1 1 4).toInt).toNat < n) → (2147483647 - y.toInt).toNat < a → 0 < b → ((m.1 0 17).toInt = 0 → tm (m.1 0 13).toInt (m.1 0 17).toInt (m.1 0 15).toInt < b) → ∃ (y2 : Int32) (c2 m2 : St) (q2 : Int), lp P33 dC a y c = J68 y2 c2 ∧ lp P20 dM b y m = J44 y2 m2 ∧ RT q2 Dr B L c2 m2 ∧ ((c2.1 1 8).toInt = 0 → (m2.1 0 15).toInt = 0) := by
  have hL := hB.2.1
  intro n
  induction n with
  | zero =>
    intro q y c m a b h y0 y1 hg ha hb hm
    obtain ⟨a, rfl⟩ : ∃ k, a = k + 1 := ⟨a - 1, by omega⟩
    obtain ⟨b, rfl⟩ : ∃ k, b = k + 1 := ⟨b - 1, by omega⟩
    have hf : Fl c m := by
      rcases h.2 with z | z
      · exact z
      · exact absurd (hg z.1).2 (Nat.not_lt_zero _)
    refine ⟨y, c, m, q, ?_, ?_, h, fun z => absurd z hf.1⟩
    · rw [lp_s, e33, if_neg hf.1]
    · rw [lp_s, e20, if_neg (by have := hf.2.1; omega)]
  | succ n ih =>
    intro q y c m a b h y0 y1 hg ha hb hm
    obtain ⟨a, rfl⟩ : ∃ k, a = k + 1 := ⟨a - 1, by omega⟩
    obtain ⟨b, rfl⟩ : ∃ k, b = k + 1 := ⟨b - 1, by omega⟩
    rw [lp_s, lp_s, e33, e20]
    by_cases h0 : (c.1 1 8).toInt = 0
    · obtain ⟨hT, hh | ⟨-, h17, hTT, hd⟩⟩ := id h
      · exact absurd h0 hh.1
      obtain ⟨t1, t2, t3, t4, t5, t6, t7⟩ := id hTT
      rw [if_pos h0, if_pos h17]
      by_cases hk : (m.1 0 15).toInt = 0
      · rw [if_pos (by omega), if_pos hk]
        exact ⟨y, c, m, q, rfl, rfl, h, fun _ => hk⟩
      · obtain ⟨g1, g2⟩ := hg h0
        have hqq := rq_r hB (f := (m.1 0 14).toInt) (by omega) (by omega)
        have hlt := hqq.2.2 (fun z => hk (by rw [t5]; exact kd_n z))
        rw [if_neg (by omega), if_neg hk, if_neg (by omega)]
        have hA := h.re.line hB h0
        obtain ⟨hR, -, hq4⟩ := hA.take Dr_stb hB
        have ey : (y + 1).toInt = y.toInt + 1 := adI rfl rfl (by omega) (by omega)
        have hmm := hm h17
        have htm := tm_0 (p := (m.1 0 13).toInt) h17 hk (Or.inr trivial) (by omega)
        generalize F_X5_takeToken 1 (F_X5_readLine 1 c) = c2 at hR hq4 ⊢
        generalize F_X8_readLine 0 m = m2 at hR ⊢
        refine ih _ (y + 1) c2 m2 a b hR (by omega) (by omega) (fun z => ?_) (by omega) (by omega) (fun z => ?_)
        · have := hq4 z
          rcases hR.2 with w | w
          · exact absurd z w.1
          · have w4 := w.2.2.1.2.2.2.1
            have w2 := w.2.2.1.2.1
            omega
        · rcases hR.2 with w | w
          · have := w.2.1; omega
          · have w4 := w.2.2.1.2.2.2.1
            have w2 := w.2.2.1.2.1
            have w5 := w.2.2.1.2.2.2.2.1
            have w6 := w.2.2.1.2.2.2.2.2.1
            have := hq4 w.1
            have hq2 := rq_r hB (f := (m2.1 0 14).toInt) (by omega) (by omega)
            refine Nat.lt_of_lt_of_le (tm_lt h17 hk (by omega) (by omega) (fun _ u => ?_)) (Nat.le_of_lt_succ hmm)
            have := hq2.2.2 (fun v => u (by rw [w5]; exact kd_n v))
            omega
    · have hf : Fl c m := by
        rcases h.2 with z | z
        · exact z
        · exact absurd z.1 h0
      rw [if_neg h0, if_neg (by have := hf.2.1; omega)]
      exact ⟨y, c, m, q, rfl, rfl, h, fun z => absurd z h0⟩
/-- the class begins -/
theorem clC0 (v : St) : (F_X0_clear 3 v).1 3 3 = 0 ∧ (F_X0_clear 3 v).1 3 4 = 0 ∧ (F_X0_clear 3 v).1 3 6 = 0 ∧ (F_X0_clear 3 v).1 3 7 = 0 ∧ (F_X0_clear 3 v).1 3 8 = 20 ∧ (F_X0_clear 3 v).1 3 9 = 2 ∧ (F_X0_clear 3 v).1 3 10 = 3 ∧ (F_X0_clear 3 v).1 3 11 = 0 ∧ (F_X0_clear 3 v).1 8 0 = 0 ∧ (F_X0_clear 3 v).1 8 1 = 0 ∧ (F_X0_clear 3 v).1 8 2 = 0 ∧ (F_X0_clear 3 v).1 8 3 = 20 ∧ (F_X0_clear 3 v).1 3 14 = 0 ∧ (F_X0_clear 3 v).1 3 17 = 0 ∧ ∀ a b : Nat, a < 3 → (F_X0_clear 3 v).1 a b = v.1 a b := by
  simp only [F_X0_clear, xl_d, Nat.reduceAdd]
  refine ⟨?_, ?_, ?_, ?_, ?_, ?_, ?_, ?_, ?_, ?_, ?_, ?_, ?_, ?_, fun a b z => ?_⟩
  · rw [up1_n _ _ (by omega), up1_n _ _ (by omega), up1_n _ _ (by omega), up1_n _ _ (by omega), up1_n _ _ (by omega), up1_n _ _ (by omega), up1_n _ _ (by omega), up1_n _ _ (by omega), up1_n _ _ (by omega), up1_n _ _ (by omega), up1_n _ _ (by omega), up1_n _ _ (by omega), up1_n _ _ (by omega), up1_s]
  · rw [up1_n _ _ (by omega), up1_n _ _ (by omega), up1_n _ _ (by omega), up1_n _ _ (by omega), up1_n _ _ (by omega), up1_n _ _ (by omega), up1_n _ _ (by omega), up1_n _ _ (by omega), up1_n _ _ (by omega), up1_n _ _ (by omega), up1_n _ _ (by omega), up1_n _ _ (by omega), up1_s]
  · rw [up1_n _ _ (by omega), up1_n _ _ (by omega), up1_n _ _ (by omega), up1_n _ _ (by omega), up1_n _ _ (by omega), up1_n _ _ (by omega), up1_n _ _ (by omega), up1_n _ _ (by omega), up1_n _ _ (by omega), up1_n _ _ (by omega), up1_n _ _ (by omega), up1_s]
  · rw [up1_n _ _ (by omega), up1_n _ _ (by omega), up1_n _ _ (by omega), up1_n _ _ (by omega), up1_n _ _ (by omega), up1_n _ _ (by omega), up1_n _ _ (by omega), up1_n _ _ (by omega), up1_n _ _ (by omega), up1_n _ _ (by omega), up1_s]
  · rw [up1_n _ _ (by omega), up1_n _ _ (by omega), up1_n _ _ (by omega), up1_n _ _ (by omega), up1_n _ _ (by omega), up1_n _ _ (by omega), up1_n _ _ (by omega), up1_n _ _ (by omega), up1_n _ _ (by omega), up1_s]
  · rw [up1_n _ _ (by omega), up1_n _ _ (by omega), up1_n _ _ (by omega), up1_n _ _ (by omega), up1_n _ _ (by omega), up1_n _ _ (by omega), up1_n _ _ (by omega), up1_n _ _ (by omega), up1_s]
  · rw [up1_n _ _ (by omega), up1_n _ _ (by omega), up1_n _ _ (by omega), up1_n _ _ (by omega), up1_n _ _ (by omega), up1_n _ _ (by omega), up1_n _ _ (by omega), up1_s]
  · rw [up1_n _ _ (by omega), up1_n _ _ (by omega), up1_n _ _ (by omega), up1_n _ _ (by omega), up1_n _ _ (by omega), up1_n _ _ (by omega), up1_s]
  · rw [up1_n _ _ (by omega), up1_n _ _ (by omega), up1_n _ _ (by omega), up1_n _ _ (by omega), up1_n _ _ (by omega), up1_s]
  · rw [up1_n _ _ (by omega), up1_n _ _ (by omega), up1_n _ _ (by omega), up1_n _ _ (by omega), up1_s]
  · rw [up1_n _ _ (by omega), up1_n _ _ (by omega), up1_n _ _ (by omega), up1_s]
  · rw [up1_n _ _ (by omega), up1_n _ _ (by omega), up1_s]
  · rw [up1_n _ _ (by omega), up1_s]
  · rw [up1_s]
  · rw [up1_n _ _ (by omega), up1_n _ _ (by omega), up1_n _ _ (by omega), up1_n _ _ (by omega), up1_n _ _ (by omega), up1_n _ _ (by omega), up1_n _ _ (by omega), up1_n _ _ (by omega), up1_n _ _ (by omega), up1_n _ _ (by omega), up1_n _ _ (by omega), up1_n _ _ (by omega), up1_n _ _ (by omega), up1_n _ _ (by omega)]
/-! text: both answer alike, and stay alike -/
theorem Dr0 {c m : St} (h3 : c.1 3 3 = 0 ∧ c.1 3 4 = 0 ∧ c.1 3 6 = 0 ∧ c.1 3 7 = 0 ∧ c.1 3 8 = 20 ∧ c.1 3 9 = 2 ∧ c.1 3 10 = 3 ∧ c.1 3 11 = 0 ∧ c.1 8 0 = 0 ∧ c.1 8 1 = 0 ∧ c.1 8 2 = 0 ∧ c.1 8 3 = 20 ∧ c.1 3 14 = 0 ∧ c.1 3 17 = 0) (h7 : c.1 1 7 = 0) (hm : ∀ b : Nat, b < 54 → m.1 4 b = fd b) (h6 : m.1 0 6 = 0 ∧ m.1 0 7 = 0 ∧ m.1 0 8 = 0 ∧ m.1 0 9 = 0 ∧ m.1 0 10 = (-4)) : Dr c m := by
  have c0 : (0 : Int32).toInt = 0 := rfl
  have c20 : (20 : Int32).toInt = 20 := rfl
  have c4 : (-4 : Int32).toInt = -4 := rfl
  obtain ⟨a1, a2, a3, a4, a5, a6, a7, a8, a9, a10, a11, a12, a13, a14⟩ := h3
  obtain ⟨b1, b2, b3, b4, b5⟩ := h6
  have d32 : m.1 4 32 = 0 := by rw [hm 32 (by omega)]; rfl
  refine ⟨⟨⟨by rw [a1, b1], by rw [b1]; omega, by rw [b1]; omega⟩, fun i hi => by rw [b1] at hi; omega⟩, ⟨⟨by rw [a3, b2], by rw [b2]; omega, by rw [b2]; omega⟩, fun i hi => by rw [b2] at hi; omega⟩, ?_, ⟨⟨by rw [a13, d32], by rw [d32]; omega, by rw [d32]; omega⟩, ⟨by rw [a2, b3], by rw [b3]; omega, by rw [b3]; omega⟩, fun i hi => by rw [d32] at hi; omega, fun s hs => ?_⟩, ⟨⟨by rw [b4, h7]; rfl, by rw [h7]; omega, by rw [h7]; omega⟩, fun _ => by rw [d32]; exact c0⟩⟩
  · unfold DF
    rw [a4, a5, a6, a7, a12, a8, a9, a10, a11, a14, hm 23 (by omega), hm 24 (by omega), hm 25 (by omega), hm 26 (by omega), hm 27 (by omega), hm 28 (by omega), hm 29 (by omega), hm 30 (by omega), hm 31 (by omega), hm 41 (by omega)]
    exact ⟨⟨rfl, rfl⟩, rfl, rfl, rfl, ⟨rfl, by decide, by decide⟩, rfl, ⟨rfl, rfl⟩, ⟨rfl, rfl⟩, ⟨rfl, rfl⟩, ⟨rfl, rfl⟩⟩
  · rw [b5, b3, d32]
    have hp : 0 < 2 ^ s := Nat.two_pow_pos s
    constructor
    · intro _; exact ⟨by omega, fun i hi => by omega⟩
    · intro _; omega
set_option maxHeartbeats 1000000 in
theorem sim_text {c m : St} {r r2 : Int32} {u w : St} (h : Sim c m) (hC : (r, u) = F_X7_text 0 c) (hM : (r2, w) = F_X8_text 0 m) (fC : ∀ k j : Nat, ¬ ((0 + 1 ≤ k ∧ k < 0 + 21) ∨ k = 0 + 63 ∨ (k = 0 ∧ j = 9)) → u.1 k j = c.1 k j) (gC : (∀ k j : Nat, ¬ (k = 0 + 1 ∨ (0 + 3 ≤ k ∧ k < 0 + 12) ∨ (k = 0 ∧ j = 9)) → u.1 k j = c.1 k j) ∨ (u.1 0 9).toInt = 0) (fM : ∀ k j : Nat, ¬ ((k = 0 ∧ 3 ≤ j ∧ j ≤ 18) ∨ k = 0 + 1 ∨ k = 0 + 3 ∨ k = 0 + 4) → w.1 k j = m.1 k j) (gM : (∀ k j : Nat, ¬ ((k = 0 ∧ 6 ≤ j ∧ j ≤ 18) ∨ k = 0 + 4) → w.1 k j = m.1 k j) ∨ (w.1 0 17).toInt = 0) : r = r2 ∧ Sim u w := by
  have c0 : (0 : Int32).toInt = 0 := rfl
  have c6 : (6 : Int32).toInt = 6 := rfl
  have cb : vp_nar .boolean (0 : Int32) = 0 := rfl
  obtain ⟨hbb, hB, hl⟩ := h.2.2.1.ok
  have hL0 := h.2.2.1.1.2
  generalize hBB : BM 0 m = B at hbb hB
  generalize hLL : (m.1 0 12).toInt = L at hB hl hL0
  obtain ⟨N, hN⟩ : ∃ N : Nat, N = (2147483647 - (0 : Int32).toInt).toNat := ⟨_, rfl⟩
  -- the reading of the class
  obtain ⟨rl, hrl0⟩ : ∃ z, F_X5_readLines 1 c = z := ⟨_, rfl⟩
  have hrl := hrl0
  unfold F_X5_readLines at hrl
  rw [← hN] at hrl
  obtain ⟨J68, e68, hrl⟩ := xl_e hrl
  obtain ⟨P33, e33, hrl⟩ := xl_e hrl
  obtain ⟨u20, eu20, hrl⟩ := xl_e hrl
  obtain ⟨x22, ex22, hrl⟩ := xl_e hrl
  obtain ⟨x23, ex23, hrl⟩ := xl_e hrl
  obtain ⟨x24, ex24, hrl⟩ := xl_e hrl
  obtain ⟨x25, ex25, hrl⟩ := xl_e hrl
  simp only [xl_d, Nat.reduceAdd] at hrl
  simp only [Nat.reduceAdd] at eu20
  have hcl := clC0 c
  rw [← eu20] at hcl
  obtain ⟨k1, k2, k3, k4, k5, k6, k7, k8, k9, k10, k11, k12, k13, k14, kf⟩ := hcl
  have n25 : ∀ a b : Nat, (a ≠ 1 ∨ (b ≠ 5 ∧ b ≠ 7 ∧ b ≠ 8 ∧ b ≠ 9)) → x25.1 a b = u20.1 a b := fun a b z => by rw [ex25, up1_n _ _ (by omega), ex24, up1_n _ _ (by omega), ex23, up1_n _ _ (by omega), ex22, up1_n _ _ (by omega)]
  have z5 : x25.1 1 5 = 0 := by rw [ex25, up1_s]
  have z7 : x25.1 1 7 = 0 := by rw [ex25, up1_n _ _ (by omega), ex24, up1_s]
  have z8 : x25.1 1 8 = 0 := by rw [ex25, up1_n _ _ (by omega), ex24, up1_n _ _ (by omega), ex23, up1_n _ _ (by omega), ex22, up1_s]
  -- the reference's
  obtain ⟨tx, htm0⟩ : ∃ z, F_X8_text 0 m = z := ⟨_, rfl⟩
  have htm := htm0
  rw [htm0] at hM
  unfold F_X8_text at htm
  obtain ⟨J73, e73, htm⟩ := xl_e htm
  obtain ⟨J68m, e68m, htm⟩ := xl_e htm
  obtain ⟨J44, e44, htm⟩ := xl_e htm
  obtain ⟨P20, e20, htm⟩ := xl_e htm
  obtain ⟨y22, ey22, htm⟩ := xl_e htm
  obtain ⟨y23, ey23, htm⟩ := xl_e htm
  obtain ⟨y24, ey24, htm⟩ := xl_e htm
  simp only [xl_d] at htm
  have hfd := fdM y23
  rw [← ey24] at hfd
  obtain ⟨d1, d2, d3⟩ := hfd
  have n24 : ∀ a b : Nat, (a ≠ 4 ∧ (a ≠ 0 ∨ b < 6 ∨ (10 < b ∧ b ≠ 13 ∧ b ≠ 17))) → y24.1 a b = m.1 a b := fun a b z => by rw [d3 a b (by omega), ey23, up1_n _ _ (by omega), ey22, up1_n _ _ (by omega)]
  have y13 : y24.1 0 13 = 0 := by rw [d3 0 13 (by omega), ey23, up1_s]
  have y17 : y24.1 0 17 = 0 := by rw [d3 0 17 (by omega), ey23, up1_n _ _ (by omega), ey22, up1_s]
  -- they begin alike
  have hS : RS 0 Dr B L x25 y24 := by
    refine ⟨⟨?_, ?_, ?_⟩, Or.inr ⟨by rw [z8]; exact c0, by rw [y17]; exact c0, by rw [z5, y13], by rw [y13]; omega, ?_⟩⟩
    · rw [BC_f (v := c) (by rw [n25 1 1 (by omega), kf 1 1 (by omega)]) (fun i => by rw [n25 2 i (by omega), kf 2 i (by omega)])]; exact hbb
    · rw [BM_f (v := m) (n24 0 12 (by omega)) (fun i => n24 5 i (by omega))]; exact hBB
    · rw [n25 1 1 (by omega), kf 1 1 (by omega)]; exact hl
    · refine Dr0 ?_ z7 d1 d2
      rw [n25 3 3 (by omega), n25 3 4 (by omega), n25 3 6 (by omega), n25 3 7 (by omega), n25 3 8 (by omega), n25 3 9 (by omega), n25 3 10 (by omega), n25 3 11 (by omega), n25 8 0 (by omega), n25 8 1 (by omega), n25 8 2 (by omega), n25 8 3 (by omega), n25 3 14 (by omega), n25 3 17 (by omega)]
      exact ⟨k1, k2, k3, k4, k5, k6, k7, k8, k9, k10, k11, k12, k13, k14⟩
  have hA := (hS.next Dr_stb hB).1
  have hR := (hA.take Dr_stb hB).1
  have E33 : ∀ sf y x, P33 sf y x = if (x.1 1 8).toInt = 0 then (if (x.1 1 3).toInt = 0 then J68 y x else (if 160 < y.toInt then J68 y x else sf (y + 1) (F_X5_takeToken 1 (F_X5_readLine 1 x)))) else J68 y x := fun sf y x => by rw [e33]; simp only [xl_d]
  have E20 : ∀ sf y x, P20 sf y x = if (x.1 0 17).toInt = 0 then (if (x.1 0 15).toInt = 0 then J44 y x else sf (y + 1) (F_X8_readLine 0 x)) else J44 y x := fun sf y x => by rw [e20]; simp only [xl_d]
  generalize F_X5_takeToken 1 x25 = cs at hR hrl
  generalize F_X8_next1 0 y24 = ms at hR htm
  obtain ⟨yy, c2, m2, q2, g1, g2, hR2, hkind⟩ := RT.lines hB E33 E20 (dC := fun _ _ => (0, c)) (dM := fun _ _ => (0, m)) 200 0 0 cs ms (N + 1) (tm (ms.1 0 13).toInt (ms.1 0 17).toInt (ms.1 0 15).toInt + 1) hR (by omega) (by omega) (fun z => by
    rcases hR.2 with w | w
    · exact absurd z w.1
    · have w4 := w.2.2.1.2.2.2.1
      have w2 := w.2.2.1.2.1
      omega) (by rw [← hN]; exact Nat.lt_succ_self N) (Nat.succ_pos _) (fun _ => Nat.lt_succ_self _)
  rw [g1] at hrl
  rw [g2] at htm
  have E68 : J68 yy c2 = if (c2.1 1 8).toInt = 0 then (if (F_X5_namesNoStar 1 c2).toInt = 0 then (yy, c2) else (yy, F_X5_refuse 1 6 (c2.1 1 1) c2)) else (yy, c2) := by rw [e68]; simp only [xl_d]
  have E73 : ∀ (y : Int32) (x : St), J73 y x = if 0 < ((up1 x 0 12 0).1 0 17).toInt then ((-10 : Int32) - (up1 x 0 12 0).1 0 18, up1 x 0 12 0) else (y, F_X8_keepDraft 0 (up1 x 0 12 0)) := fun y x => by rw [e73]; simp only [xl_d]
  have E68m : ∀ (y z : Int32) (x : St), J68m y z x = J73 y (F_X8_needs 0 z 6 x) := fun y z x => by rw [e68m]; simp only [xl_d]
  have E44 : J44 yy m2 = if (m2.1 0 17).toInt = 0 then (if (m2.1 0 10).toInt < (m2.1 0 6).toInt then J73 yy (F_X8_needs 0 1 6 m2) else J73 yy (F_X8_needs 0 0 6 m2)) else J73 yy m2 := by rw [e44]; simp only [xl_d]; rw [E68m, E68m]
  -- the class behind its reading
  unfold F_X7_text at hC
  rw [← hN] at hC
  obtain ⟨P61, e61, hC⟩ : ∃ P61 : (Int32 → Int32 → St → Int32 × St) → Int32 → Int32 → St → Int32 × St, (∀ sf a b x, P61 sf a b x = if b.toInt < 2 then sf a (b + 1) (up1 x 63 b.toNatClampNeg 0) else (a, x)) ∧ (r, u) = (if ((up1 (up1 rl.2 1 1 0) 0 9 ((up1 rl.2 1 1 0).1 1 8)).1 0 9).toInt = 0 then lp P61 (fun _ _ _ => ((0 : Int32), c)) (N + 1) rl.1 0 (F_X0_become 12 3 (up1 (up1 rl.2 1 1 0) 0 9 ((up1 rl.2 1 1 0).1 1 8))) else ((-10 : Int32) - (up1 (up1 rl.2 1 1 0) 0 9 ((up1 rl.2 1 1 0).1 1 8)).1 1 9, up1 (up1 rl.2 1 1 0) 0 9 ((up1 rl.2 1 1 0).1 1 8))) := by
    obtain ⟨P61, e61, hC⟩ := xl_e hC.symm
    refine ⟨P61, fun sf a b x => ?_, ?_⟩
    · rw [e61]; simp only [xl_d, Nat.reduceAdd]; rw [cb]
    · simp only [xl_d, xm_d, Nat.reduceAdd] at hC
      rw [hrl0] at hC
      exact hC.symm
  -- a fault
  have bad_end : ∀ (cf mf : St), rl.2 = cf → Fl cf mf → tx = J73 yy mf → r = r2 ∧ Sim u w := by
    intro cf mf hcf hfl htx
    rw [hcf] at hC
    have v9 : ∀ a b : Nat, (a ≠ 0 ∨ b ≠ 9) → (up1 (up1 cf 1 1 0) 0 9 ((up1 cf 1 1 0).1 1 8)).1 a b = (up1 cf 1 1 0).1 a b := fun a b z => up1_n _ _ z
    have s9 : (up1 (up1 cf 1 1 0) 0 9 ((up1 cf 1 1 0).1 1 8)).1 0 9 = cf.1 1 8 := by rw [up1_s, up1_n _ _ (by omega)]
    rw [s9, if_neg hfl.1, v9 1 9 (by omega), up1_n _ _ (by omega)] at hC
    have m17 : (up1 mf 0 12 0).1 0 17 = mf.1 0 17 := up1_n _ _ (by omega)
    rw [htx, E73, m17, if_pos hfl.2.1, up1_n _ _ (by omega)] at hM
    obtain ⟨hr, hu⟩ := Prod.mk.inj hC
    obtain ⟨hr2, hw⟩ := Prod.mk.inj hM
    have u09 : u.1 0 9 = cf.1 1 8 := by rw [hu]; exact s9
    have w17 : w.1 0 17 = mf.1 0 17 := by rw [hw]; exact m17
    have u11 : u.1 1 1 = 0 := by rw [hu, v9 1 1 (by omega), up1_s]
    have w12 : w.1 0 12 = 0 := by rw [hw, up1_s]
    have ffC := gC.resolve_right (fun z => by rw [u09] at z; exact hfl.1 z)
    have ffM := gM.resolve_right (fun z => by rw [w17] at z; have := hfl.2.1; omega)
    refine ⟨?_, ?_, ?_, ?_, ?_, ?_⟩
    · rw [hr, hr2, Int32.toInt_inj.mp hfl.2.2]
    · exact h.1.fr (ffM _ _ (by omega)) (ffM _ _ (by omega)) (fun b _ _ => ffM _ _ (by omega)) (fun a b _ _ => ffC _ _ (by omega))
    · exact h.2.1.fr (ffM _ _ (by omega)) (ffM _ _ (by omega)) (fun b _ => ffM _ _ (by omega)) (fun b => ffM _ _ (by omega)) (fun a b _ _ => ffC _ _ (by omega))
    · exact ⟨⟨by rw [u11, w12], by rw [w12]; omega, by rw [w12]; omega⟩, fun i hi => by rw [w12] at hi; omega⟩
    · exact h.2.2.2.1.fr (fun a b _ _ => ffC _ _ (by omega)) (fun a b _ => ffM _ _ (by omega))
    · rw [ffC 0 10 (by omega), ffM 0 29 (by omega)]; exact h.2.2.2.2
  obtain ⟨hT2, hfl | ⟨h0, h17, hTT, hd⟩⟩ := id hR2
  · rw [E68, if_neg hfl.1] at hrl
    rw [E44, if_neg (by have := hfl.2.1; omega)] at htm
    exact bad_end c2 m2 (by rw [← hrl]) hfl htm.symm
  · rw [E68, if_pos h0] at hrl
    rw [E44, if_pos h17] at htm
    have hnn := nnS hd
    have hk0 := hkind h0
    obtain ⟨t1, t2, t3, t4, t5, t6, t7⟩ := id hTT
    by_cases hs : (m2.1 0 10).toInt < (m2.1 0 6).toInt
    · -- taken
      rw [if_pos (hnn.mpr hs)] at hrl
      rw [if_pos hs, neeM_o (by decide), E73] at htm
      have m17 : (up1 m2 0 12 0).1 0 17 = m2.1 0 17 := up1_n _ _ (by omega)
      rw [m17, if_neg (by omega)] at htm
      rw [← htm] at hM
      rw [← hrl] at hC
      simp only at hC
      have s9 : (up1 (up1 c2 1 1 0) 0 9 ((up1 c2 1 1 0).1 1 8)).1 0 9 = c2.1 1 8 := by rw [up1_s, up1_n _ _ (by omega)]
      rw [s9, if_pos h0] at hC
      generalize hv9 : up1 (up1 c2 1 1 0) 0 9 ((up1 c2 1 1 0).1 1 8) = v9 at hC
      have n9 : ∀ a b : Nat, 3 ≤ a → v9.1 a b = c2.1 a b := fun a b z => by rw [← hv9, up1_n _ _ (by omega), up1_n _ _ (by omega)]
      have v911 : v9.1 1 1 = 0 := by rw [← hv9, up1_n _ _ (by omega), up1_s]
      have hbe := beN 12 3 (by omega) v9
      generalize F_X0_become 12 3 v9 = u12 at hbe hC
      obtain ⟨be1, be2, be3, be4, be5, be6, be7⟩ := hbe
      obtain ⟨hm1, hm2⟩ := Prod.mk.inj hM
      -- the images are gone
      have L61 : lp P61 (fun _ _ _ => ((0 : Int32), c)) (N + 1) yy 0 u12 = (yy, up1 (up1 u12 63 0 0) 63 1 0) := by
        obtain ⟨n, rfl⟩ : ∃ n, N = n + 2 := ⟨N - 2, by rw [hN]; decide⟩
        have a1 : ((0 : Int32) + 1).toInt = 1 := rfl
        have a2 : ((0 : Int32) + 1 + 1).toInt = 2 := rfl
        have b0 : (0 : Int32).toNatClampNeg = 0 := rfl
        have b1 : ((0 : Int32) + 1).toNatClampNeg = 1 := rfl
        rw [lp_s, e61, if_pos (by omega), lp_s, e61, if_pos (by omega), lp_s, e61, if_neg (by omega), b0, b1]
      rw [L61] at hC
      obtain ⟨hc1, hc2⟩ := Prod.mk.inj hC
      have hKD := kdM (up1 m2 0 12 0) (by rw [up1_n _ _ (by omega)]; exact hd.1.1.2)
      rw [← hm2] at hKD
      obtain ⟨kd1, ⟨kd2, kd3, kd4, kd5⟩, kd6⟩ := hKD
      have nu : ∀ a b : Nat, a ≠ 63 → u.1 a b = u12.1 a b := fun a b z => by rw [hc2, up1_n _ _ (by omega), up1_n _ _ (by omega)]
      have u630 : u.1 63 0 = 0 := by rw [hc2, up1_n _ _ (by omega), up1_s]
      have u631 : u.1 63 1 = 0 := by rw [hc2, up1_s]
      have e6 : (up1 m2 0 12 0).1 0 6 = m2.1 0 6 := up1_n _ _ (by omega)
      have e7 : (up1 m2 0 12 0).1 0 7 = m2.1 0 7 := up1_n _ _ (by omega)
      have e8 : (up1 m2 0 12 0).1 0 8 = m2.1 0 8 := up1_n _ _ (by omega)
      have e4 : ∀ b : Nat, (up1 m2 0 12 0).1 4 b = m2.1 4 b := fun b => up1_n _ _ (by omega)
      rw [e6] at kd1 kd2
      rw [e7] at kd3
      simp only [e8, e4] at kd1
      -- fields of the class
      have cf : ∀ j : Nat, (j = 3 ∨ j = 4 ∨ (6 ≤ j ∧ j ≤ 11) ∨ j = 14 ∨ j = 17) → u.1 12 j = c2.1 3 j := fun j z => by rw [nu 12 j (by omega), be1 j z, n9 3 j (by omega)]
      have cp : ∀ j : Nat, j < 4 → u.1 (12 + 5) j = c2.1 8 j := fun j z => by rw [nu (12 + 5) j (by omega), be2 j z, n9 (3 + 5) j (by omega)]
      have wd_ : ∀ b : Nat, b < 54 → (∀ s : Nat, s < 5 → b ≠ 4 * s + 3) → w.1 1 b = m2.1 4 b := fun b hb z => (kd1 b hb).1 (fun s hs2 => z s (by have := hd.1.1.2; omega))
      obtain ⟨dS, dW, dF, dP, dT⟩ := hd
      obtain ⟨q1, q2', q3, q4, q5, q6, q7, q8, q9, q10⟩ := dF
      obtain ⟨p1, p2, p4, p5⟩ := dP
      obtain ⟨sn, hsn⟩ := Int.eq_ofNat_of_zero_le dS.1.2.1
      have p6 := (p5 sn (by have := dS.1.2; omega)).mp (by rw [← hsn]; exact hs)
      refine ⟨by rw [hc1, hm1], ?_, ?_, ?_, ?_, ?_⟩
      · refine ⟨⟨⟨by rw [cf 3 (by omega), kd2]; exact dS.1.1, by rw [kd2]; exact dS.1.2.1, by rw [kd2]; exact dS.1.2.2⟩, ⟨by rw [cf 6 (by omega), kd3]; exact dW.1.1, by rw [kd3]; exact dW.1.2.1, by rw [kd3]; exact dW.1.2.2⟩⟩, ⟨?_, ?_, ?_, ?_, ?_, ?_, ?_, ?_, ?_⟩, ⟨⟨?_, ?_, ?_⟩, fun i hi => ?_⟩, fun i hi => ?_, ⟨?_, fun i hi => ?_⟩, ⟨?_, fun i hi => ?_⟩⟩
        · rw [cf 7 (by omega), wd_ (0 + 23) (by omega) (by omega)]
          refine ⟨q1.1, ?_, fun z => ?_⟩
          · show 0 ≤ (m2.1 4 23).toInt
            have := q1.2; omega
          · show (m2.1 4 23).toInt < _
            have := dW.1.2.1
            rw [kd3] at z ⊢
            have := q1.2; omega
        · rw [cf 8 (by omega), wd_ (0 + 24) (by omega) (by omega)]; exact q2'
        · rw [cf 9 (by omega), wd_ (0 + 25) (by omega) (by omega)]; exact q3
        · rw [cf 10 (by omega), wd_ (0 + 26) (by omega) (by omega)]; exact q4
        · rw [cp 3 (by omega), wd_ (0 + 27) (by omega) (by omega)]; exact q5
        · rw [cf 11 (by omega), wd_ (0 + 28) (by omega) (by omega)]; exact q6
        · rw [cp 0 (by omega), wd_ (0 + 29) (by omega) (by omega)]
          refine ⟨q7.1, ?_, ?_⟩
          · show 0 ≤ (m2.1 4 29).toInt
            have := q7.2; omega
          · show (m2.1 4 29).toInt ≤ 10
            have := q7.2; omega
        · rw [cp 1 (by omega), wd_ (0 + 30) (by omega) (by omega), wd_ (0 + 29) (by omega) (by omega)]
          refine ⟨q8.1, ?_, ?_⟩
          · show 0 ≤ (m2.1 4 30).toInt
            have := q8.2; omega
          · show (m2.1 4 30).toInt ≤ 3 * (m2.1 4 29).toInt
            have := q8.2; have := q7.2; omega
        · rw [cp 2 (by omega), wd_ (0 + 31) (by omega) (by omega), wd_ (0 + 29) (by omega) (by omega)]
          refine ⟨q9.1, ?_, ?_⟩
          · show -30 * (m2.1 4 29).toInt ≤ (m2.1 4 31).toInt
            have := q9.2; have := q7.2; omega
          · show (m2.1 4 31).toInt ≤ 30 * (m2.1 4 29).toInt
            have := q9.2; have := q7.2; omega
        · rw [cf 4 (by omega), p2.1]; exact p2.2.1
        · rw [cf 4 (by omega), p2.1]; exact p2.2.2
        · intro s hs5 es
          rw [kd2, hsn] at es
          have : s = sn := by omega
          rw [cf 4 (by omega), p2.1, this]
          exact p6.1
        · rw [kd2] at hi
          have i5 : i < 5 := by have := dS.1.2; omega
          have dsi := dS.2 i hi
          rw [nu (12 + 1) i (by omega), nu (12 + 2) i (by omega), nu (12 + 3) i (by omega), (be3 i i5).1, (be3 i i5).2.1, (be3 i i5).2.2, n9 (3 + 1) i (by omega), n9 (3 + 2) i (by omega), n9 (3 + 3) i (by omega), Nat.zero_add, wd_ (4 * i) (by omega) (by omega), wd_ (4 * i + 1) (by omega) (by omega), wd_ (4 * i + 2) (by omega) (by omega), (kd1 (4 * i + 3) (by omega)).2 i hi rfl, cf 4 (by omega), p2.1]
          exact ⟨dsi.1, dsi.2.1, dsi.2.2, rfl⟩
        · rw [kd3] at hi
          have i3 : i < 3 := by have := dW.1.2; omega
          rw [nu (12 + 4) i (by omega), be4 i i3, n9 (3 + 4) i (by omega), Nat.zero_add, wd_ (20 + i) (by omega) (by omega)]
          exact dW.2 i hi
        · rw [cf 14 (by omega), wd_ (0 + 32) (by omega) (by omega)]; exact p1
        · rw [wd_ (0 + 32) (by omega) (by omega)] at hi
          have hi : (i : Int) < (m2.1 4 32).toInt := hi
          have i8 : i < 8 := by have := p1.2; omega
          rw [nu (12 + 6) i (by omega), be5 i i8, n9 (3 + 6) i (by omega), Nat.zero_add, wd_ (33 + i) (by omega) (by omega), kd2, hsn]
          have := p4 i hi
          exact ⟨this.1, this.2.1, this.2.2, fun z => p6.2 i hi z⟩
        · rw [cf 17 (by omega), wd_ (0 + 41) (by omega) (by omega)]
          refine ⟨q10.1, ?_, ?_⟩
          · show 0 ≤ (m2.1 4 41).toInt
            have := q10.2; omega
          · show (m2.1 4 41).toInt ≤ 6
            have := q10.2; omega
        · rw [wd_ (0 + 41) (by omega) (by omega)] at hi
          have hi : (i : Int) < (m2.1 4 41).toInt := hi
          have := q10.2; omega
      · intro i hi
        rcases (show i = 0 ∨ i = 1 by omega) with rfl | rfl
        · rw [u630, kd4]; exact ⟨rfl, Or.inl c0, fun z => by omega⟩
        · rw [u631, kd5]; exact ⟨rfl, Or.inl c0, fun z => by omega⟩
      · have w12 : w.1 0 12 = 0 := by rw [kd6 0 12 (by omega), up1_s]
        have u11 : u.1 1 1 = 0 := by rw [nu 1 1 (by omega), be7 1 1 (by omega)]; exact v911
        exact ⟨⟨by rw [u11, w12], by rw [w12]; omega, by rw [w12]; omega⟩, fun i hi => by rw [w12] at hi; omega⟩
      · exact h.2.2.2.1.fr (fun a b _ _ => fC _ _ (by omega)) (fun a b _ => fM _ _ (by omega))
      · rw [fC 0 10 (by omega), fM 0 29 (by omega)]; exact h.2.2.2.2
    · -- a star that there is not
      rw [if_neg (fun z => hs (hnn.mp z)), refC h0] at hrl
      rw [if_neg hs, neeM h17 (by decide)] at htm
      refine bad_end _ _ (by rw [← hrl]) (Fl.new (by decide) (by decide) ?_) htm.symm
      rw [hk0] at t5
      have hb := kd_0 t5.symm
      have := ((hB.2.2 (m2.1 0 14).toInt).2).mp hb
      rw [hT2.2.2]
      omega
/-! numbers that stand as they are, tests of both -/
theorem cn0 : (0 : Int32).toNatClampNeg = 0 := rfl
theorem cn1 : (1 : Int32).toNatClampNeg = 1 := rfl
theorem cn2 : (2 : Int32).toNatClampNeg = 2 := rfl
theorem cn20 : (20 : Int32).toNatClampNeg = 20 := rfl
theorem cn21 : (21 : Int32).toNatClampNeg = 21 := rfl
theorem cn22 : (22 : Int32).toNatClampNeg = 22 := rfl
theorem cn23 : (23 : Int32).toNatClampNeg = 23 := rfl
theorem cn24 : (24 : Int32).toNatClampNeg = 24 := rfl
theorem cn25 : (25 : Int32).toNatClampNeg = 25 := rfl
theorem cn26 : (26 : Int32).toNatClampNeg = 26 := rfl
theorem cn27 : (27 : Int32).toNatClampNeg = 27 := rfl
theorem cn28 : (28 : Int32).toNatClampNeg = 28 := rfl
theorem cn29 : (29 : Int32).toNatClampNeg = 29 := rfl
theorem cn30 : (30 : Int32).toNatClampNeg = 30 := rfl
theorem cn31 : (31 : Int32).toNatClampNeg = 31 := rfl
theorem cn32 : (32 : Int32).toNatClampNeg = 32 := rfl
theorem cn33 : (33 : Int32).toNatClampNeg = 33 := rfl
theorem cn41 : (41 : Int32).toNatClampNeg = 41 := rfl
theorem nb1 : vp_nar .boolean (1 : Int32) = 1 := rfl
theorem nb0 : vp_nar .boolean (0 : Int32) = 0 := rfl
theorem isStM {a : Int32} {m : St} (h : 0 ≤ (m.1 0 3).toInt ∧ (m.1 0 3).toInt ≤ 5) : (F_X8_isStar 0 a m).toInt = 0 ↔ ¬ (0 ≤ a.toInt ∧ a.toInt < (m.1 0 3).toInt) := by
  have e : (m.1 0 3 - 1).toInt = (m.1 0 3).toInt - 1 := sbI rfl rfl (by omega) (by omega)
  simp only [F_X8_isStar, xl_d]
  rw [inI m (lo := 0) (hi := (m.1 0 3).toInt - 1) rfl (by rw [i64_of, e])]
  omega
theorem isWkM {a : Int32} {m : St} (h : 0 ≤ (m.1 0 4).toInt ∧ (m.1 0 4).toInt ≤ 3) : (F_X8_isWalker 0 a m).toInt = 0 ↔ ¬ (0 ≤ a.toInt ∧ a.toInt < (m.1 0 4).toInt) := by
  have e : (m.1 0 4 - 1).toInt = (m.1 0 4).toInt - 1 := sbI rfl rfl (by omega) (by omega)
  simp only [F_X8_isWalker, xl_d]
  rw [inI m (lo := 0) (hi := (m.1 0 4).toInt - 1) rfl (by rw [i64_of, e])]
  omega
theorem isAmM {a : Int32} {m : St} (h : 0 ≤ (m.1 0 3).toInt ∧ (m.1 0 3).toInt ≤ 5) : (F_X8_isAim 0 a m).toInt = 0 ↔ ¬ (a.toInt = 5 ∨ a.toInt = 6 ∨ (0 ≤ a.toInt ∧ a.toInt < (m.1 0 3).toInt)) := by
  have c1 : (1 : Int32).toInt = 1 := rfl
  have c0 : (0 : Int32).toInt = 0 := rfl
  have h1 := isStM (a := a) h
  have h2 := inI (x := a) (b := 5) (c := 6) (lo := 5) (hi := 6) m rfl rfl
  simp only [F_X8_isAim, xl_d]
  repeat' split
  all_goals omega
theorem isHrM {a : Int32} {m : St} : (F_X8_isHour a m).toInt = 0 ↔ ¬ (0 ≤ a.toInt ∧ a.toInt ≤ 9) := by
  simp only [F_X8_isHour, xl_d]
  exact inI m rfl rfl
theorem isPtM {a : Int32} {m : St} : (F_X8_isPart a m).toInt = 0 ↔ ¬ (0 ≤ a.toInt ∧ a.toInt ≤ 1) := by
  simp only [F_X8_isPart, xl_d]
  exact inI m rfl rfl
theorem isHrC {a : Int32} {c : St} : (F_X7_isHour a c).toInt = 0 ↔ ¬ (0 ≤ a.toInt ∧ a.toInt ≤ 9) := by
  have c1 : (1 : Int32).toInt = 1 := rfl
  have c0 : (0 : Int32).toInt = 0 := rfl
  simp only [F_X7_isHour]
  repeat' split
  all_goals omega
theorem isShC {a : Int32} {c : St} : (F_X7_isSheet a c).toInt = 0 ↔ ¬ (0 ≤ a.toInt ∧ a.toInt ≤ 3) := by
  have c1 : (1 : Int32).toInt = 1 := rfl
  have c0 : (0 : Int32).toInt = 0 := rfl
  simp only [F_X7_isSheet]
  repeat' split
  all_goals omega
theorem isLaC {a : Int32} {c : St} : (F_X7_isLane a c).toInt = 0 ↔ ¬ (0 ≤ a.toInt ∧ a.toInt ≤ 2) := by
  have c1 : (1 : Int32).toInt = 1 := rfl
  have c0 : (0 : Int32).toInt = 0 := rfl
  simp only [F_X7_isLane]
  repeat' split
  all_goals omega
theorem isZoC {a : Int32} {c : St} : (F_X7_isZeroOrOne a c).toInt = 0 ↔ ¬ (0 ≤ a.toInt ∧ a.toInt ≤ 1) := by
  have c1 : (1 : Int32).toInt = 1 := rfl
  have c0 : (0 : Int32).toInt = 0 := rfl
  simp only [F_X7_isZeroOrOne]
  repeat' split
  all_goals omega
theorem isShM {a b : Int32} {m : St} : (F_X8_isSheet a b m).toInt = 0 ↔ ¬ ((0 ≤ a.toInt ∧ a.toInt ≤ 3) ∧ (0 ≤ b.toInt ∧ b.toInt ≤ 2)) := by
  have c1 : (1 : Int32).toInt = 1 := rfl
  have c0 : (0 : Int32).toInt = 0 := rfl
  have h1 := inI (x := a) (b := 0) (c := 3) (lo := 0) (hi := 3) m rfl rfl
  have h2 := inI (x := b) (b := 0) (c := 2) (lo := 0) (hi := 2) m rfl rfl
  simp only [F_X8_isSheet, xl_d]
  repeat' split
  all_goals omega
/-- one of two -/
theorem b01i {x : Int32} (h : x.toInt = 0 ∨ x.toInt = 1) : (if x.toInt = 0 then (0 : Int32) else 1) = x := by
  rcases h with h | h
  · rw [if_pos h]; exact Int32.toInt_inj.mp (by rw [h]; rfl)
  · rw [if_neg (by omega)]; exact Int32.toInt_inj.mp (by rw [h]; rfl)
theorem bit_1 (x : Int32) : (if (x &&& 1).toInt = 1 then (1 : Int32) else 0) = x &&& 1 := by
  rcases bit01 x with h | h
  · rw [if_neg (by omega)]; exact Int32.toInt_inj.mp (by rw [h]; rfl)
  · rw [if_pos h]; exact Int32.toInt_inj.mp (by rw [h]; rfl)
theorem onKn (k : Nat) (a : Int32) (v w : St) : F_X7_oneIf (F_X0_isKnown k a v) w = (v.1 k 4 >>> (a &&& 31)) &&& 1 := by
  simp only [F_X7_oneIf, F_X0_isKnown, xl_d]
  rw [bit_1]
  exact b01i (bit01 _)
theorem onCl (k : Nat) (a : Int32) (v w : St) : F_X7_oneIf (F_X0_isCloudy k a v) w = (v.1 k 11 >>> (a &&& 31)) &&& 1 := by
  simp only [F_X7_oneIf, F_X0_isCloudy, xl_d]
  rw [bit_1]
  exact b01i (bit01 _)
/-! groups -/
theorem Na.fr {k : Nat} {c m c2 m2 : St} (h : Na k c m) (h1 : c2.1 k 3 = c.1 k 3) (h2 : c2.1 k 6 = c.1 k 6) (h3 : m2.1 0 3 = m.1 0 3) (h4 : m2.1 0 4 = m.1 0 4) : Na k c2 m2 := by
  unfold Na at h ⊢
  rw [h1, h2, h3, h4]; exact h
theorem Nf.fr {k o : Nat} {c m c2 m2 : St} (h : Nf k o c m) (h1 : ∀ j : Nat, 7 ≤ j → j ≤ 11 → c2.1 k j = c.1 k j) (h2 : ∀ j : Nat, j < 4 → c2.1 (k + 5) j = c.1 (k + 5) j) (h4 : m2.1 0 4 = m.1 0 4) (hm : ∀ b : Nat, 23 ≤ b → b ≤ 31 → m2.1 1 (o + b) = m.1 1 (o + b)) : Nf k o c2 m2 := by
  unfold Nf at h ⊢
  rw [h1 7 (by omega) (by omega), h1 8 (by omega) (by omega), h1 9 (by omega) (by omega), h1 10 (by omega) (by omega), h1 11 (by omega) (by omega), h2 0 (by omega), h2 1 (by omega), h2 2 (by omega), h2 3 (by omega), h4, hm 23 (by omega) (by omega), hm 24 (by omega) (by omega), hm 25 (by omega) (by omega), hm 26 (by omega) (by omega), hm 27 (by omega) (by omega), hm 28 (by omega) (by omega), hm 29 (by omega) (by omega), hm 30 (by omega) (by omega), hm 31 (by omega) (by omega)]
  exact h
theorem Ns.fr {k o : Nat} {c m c2 m2 : St} (h : Ns k o c m) (h1 : c2.1 k 4 = c.1 k 4) (h2 : ∀ j : Nat, c2.1 (k + 1) j = c.1 (k + 1) j ∧ c2.1 (k + 2) j = c.1 (k + 2) j ∧ c2.1 (k + 3) j = c.1 (k + 3) j) (h3 : m2.1 0 3 = m.1 0 3) (h5 : (m.1 0 3).toInt ≤ 5) (hm : ∀ b : Nat, o ≤ b → b < o + 20 → m2.1 1 b = m.1 1 b) : Ns k o c2 m2 := by
  unfold Ns at h ⊢
  rw [h1, h3]
  refine ⟨h.1, fun i hi => ?_⟩
  rw [(h2 i).1, (h2 i).2.1, (h2 i).2.2, hm _ (by omega) (by omega), hm _ (by omega) (by omega), hm _ (by omega) (by omega), hm _ (by omega) (by omega)]
  exact h.2 i hi
theorem Nw.fr {k o : Nat} {c m c2 m2 : St} (h : Nw k o c m) (h2 : ∀ j : Nat, c2.1 (k + 4) j = c.1 (k + 4) j) (h4 : m2.1 0 4 = m.1 0 4) (h5 : (m.1 0 4).toInt ≤ 3) (hm : ∀ b : Nat, o + 20 ≤ b → b < o + 23 → m2.1 1 b = m.1 1 b) : Nw k o c2 m2 := by
  unfold Nw at h ⊢
  rw [h4]
  intro i hi
  rw [h2, hm _ (by omega) (by omega)]
  exact h i hi
theorem Np.fr {k o : Nat} {c m c2 m2 : St} (h : Np k o c m) (h1 : c2.1 k 14 = c.1 k 14) (h2 : ∀ j : Nat, c2.1 (k + 6) j = c.1 (k + 6) j) (h3 : m2.1 0 3 = m.1 0 3) (hm : ∀ b : Nat, o + 32 ≤ b → b < o + 41 → m2.1 1 b = m.1 1 b) : Np k o c2 m2 := by
  unfold Np at h ⊢
  have h8 := h.1.2.2
  rw [h1, h3, hm (o + 32) (by omega) (by omega)]
  refine ⟨h.1, fun i hi => ?_⟩
  rw [h2, hm _ (by omega) (by omega)]
  exact h.2 i hi
theorem Nq.fr {k o : Nat} {c m c2 m2 : St} (h : Nq k o c m) (h1 : c2.1 k 17 = c.1 k 17) (h2 : ∀ j : Nat, c2.1 (k + 7) j = c.1 (k + 7) j ∧ c2.1 (k + 8) j = c.1 (k + 8) j) (hm : ∀ b : Nat, o + 41 ≤ b → b < o + 54 → m2.1 1 b = m.1 1 b) : Nq k o c2 m2 := by
  unfold Nq at h ⊢
  have h8 := h.1.2.2
  rw [h1, hm (o + 41) (by omega) (by omega)]
  refine ⟨h.1, fun i hi => ?_⟩
  rw [(h2 i).1, (h2 i).2, hm _ (by omega) (by omega), hm _ (by omega) (by omega)]
  exact h.2 i hi
theorem Sim.now {c m c2 m2 : St} (h : Sim c m) (hc : ∀ a b : Nat, ((63 ≤ a ∧ a < 91) ∨ a = 2 ∨ (a = 1 ∧ b = 1) ∨ (a = 0 ∧ b = 10)) → c2.1 a b = c.1 a b) (hm : ∀ a b : Nat, ((a = 1 ∧ 54 ≤ b) ∨ a = 3 ∨ (5 ≤ a ∧ a < 9) ∨ (a = 0 ∧ (b = 3 ∨ b = 4 ∨ b = 12 ∨ b = 29))) → m2.1 a b = m.1 a b) (hn : NR 12 0 c2 m2) : Sim c2 m2 :=
  ⟨hn, h.2.1.fr (hm _ _ (by omega)) (hm _ _ (by omega)) (fun b _ => hm _ _ (by omega)) (fun b => hm _ _ (by omega)) (fun a b _ _ => hc _ _ (by omega)), h.2.2.1.fr (hc _ _ (by omega)) (fun b => hc _ _ (by omega)) (hm _ _ (by omega)) (fun b => hm _ _ (by omega)), h.2.2.2.1.fr (fun a b _ _ => hc _ _ (by omega)) (fun a b _ => hm _ _ (by omega)), by rw [hc 0 10 (by omega), hm 0 29 (by omega)]; exact h.2.2.2.2⟩
theorem nm_ {m : St} {b : Nat} {y : Int32} : ∀ a j : Nat, (a ≠ 1 ∨ j ≠ b) → (up1 m 1 b y).1 a j = m.1 a j := fun _ _ z => up1_n _ _ z
theorem nc_ {c : St} {k j : Nat} {x : Int32} : ∀ a b : Nat, (a ≠ k ∨ b ≠ j) → (up1 c k j x).1 a b = c.1 a b := fun _ _ z => up1_n _ _ z
/-! what changes the night by a number -/
theorem sim_turn {c m : St} {r r2 : Int32} {u w : St} {a0 a1 : Int32} (h : Sim c m) (hC : (r, u) = F_X7_turn 0 a0 a1 c) (hM : (r2, w) = F_X8_turn 0 a0 a1 m) : r = r2 ∧ Sim u w := by
  have g := h.1
  have hs := hasSt 12 a0 c
  rw [g.1.1.1] at hs
  have hm := isStM (a := a0) g.1.1.2
  have hi := inI (x := a1) (b := 0) (c := 6) (lo := 0) (hi := 6) m rfl rfl
  simp only [F_X7_turn, xl_d, Nat.reduceAdd] at hC
  simp only [F_X8_turn, F_X8_becomes, xl_d, xm_d, Nat.reduceAdd] at hM
  by_cases p : 0 ≤ a0.toInt ∧ a0.toInt < (m.1 0 3).toInt
  · rw [if_neg (fun z => hs.mp z p)] at hC
    rw [if_neg (fun z => hm.mp z p)] at hM
    by_cases q : 0 ≤ a1.toInt ∧ a1.toInt ≤ 6
    · rw [if_neg (by omega), if_neg (by omega)] at hC
      rw [if_neg (fun z => hi.mp z q)] at hM
      have h5 := g.1.1.2
      have m4 : ((4 : Int32) * a0).toInt = 4 * a0.toInt := mlI rfl rfl (by omega) (by omega)
      have a2 : ((4 : Int32) * a0 + 2).toInt = 4 * a0.toInt + 2 := adI m4 rfl (by omega) (by omega)
      have n2 := cnI (x := (4 : Int32) * a0 + 2) (by omega)
      have n0 := cnI (x := a0) (by omega)
      obtain ⟨hr, hu⟩ := Prod.mk.inj hC
      obtain ⟨hr2, hw⟩ := Prod.mk.inj hM
      have ei : ((4 : Int32) * a0 + 2).toNatClampNeg = 0 + 4 * a0.toNatClampNeg + 2 := by omega
      rw [ei] at hr2 hw
      subst hr hr2 hu hw
      have gi := g.2.2.1.2 a0.toNatClampNeg (by omega)
      refine ⟨gi.2.2.1.1, ?_⟩
      have nc := nc_ (c := c) (k := 15) (j := a0.toNatClampNeg) (x := a1)
      have nm := nm_ (m := m) (b := 0 + 4 * a0.toNatClampNeg + 2) (y := a1)
      refine h.now (fun a b z => nc _ _ (by omega)) (fun a b z => nm _ _ (by omega)) ⟨g.1.fr (nc _ _ (by omega)) (nc _ _ (by omega)) (nm _ _ (by omega)) (nm _ _ (by omega)), g.2.1.fr (fun j _ _ => nc _ _ (by omega)) (fun j _ => nc _ _ (by omega)) (nm _ _ (by omega)) (fun b _ _ => nm _ _ (by omega)), ?_, g.2.2.2.1.fr (fun j => nc _ _ (by omega)) (nm _ _ (by omega)) (g.1.2.2.2) (fun b _ _ => nm _ _ (by omega)), g.2.2.2.2.1.fr (nc _ _ (by omega)) (fun j => nc _ _ (by omega)) (nm _ _ (by omega)) (fun b _ _ => nm _ _ (by omega)), g.2.2.2.2.2.fr (nc _ _ (by omega)) (fun j => ⟨nc _ _ (by omega), nc _ _ (by omega)⟩) (fun b _ _ => nm _ _ (by omega))⟩
      refine ⟨by rw [nc 12 4 (by omega), nm 0 3 (by omega)]; exact g.2.2.1.1, fun i hi => ?_⟩
      rw [nm 0 3 (by omega)] at hi
      rw [nc (12 + 1) i (by omega), nc (12 + 2) i (by omega), nc 12 4 (by omega), nm 1 (0 + 4 * i) (by omega), nm 1 (0 + 4 * i + 1) (by omega), nm 1 (0 + 4 * i + 3) (by omega)]
      have gj := g.2.2.1.2 i hi
      by_cases e : i = a0.toNatClampNeg
      · subst e
        refine ⟨gj.1, gj.2.1, ⟨?_, ?_, ?_⟩, gj.2.2.2⟩
        · rw [up1_s]
          exact (up1_s _ _ _ _).symm
        · rw [up1_s]; omega
        · rw [up1_s]; omega
      · rw [nc (12 + 3) i (by omega), nm 1 (0 + 4 * i + 2) (by omega)]
        exact gj
    · rw [if_pos (hi.mpr q)] at hM
      have hC : (r, u) = (-1, c) := by
        by_cases q1 : a1.toInt < 0
        · rw [if_pos q1] at hC; exact hC
        · rw [if_neg q1, if_pos (by omega)] at hC; exact hC
      exact ⟨by rw [(Prod.mk.inj hC).1, (Prod.mk.inj hM).1], by rw [(Prod.mk.inj hC).2, (Prod.mk.inj hM).2]; exact h⟩
  · rw [if_pos (hs.mpr p)] at hC
    rw [if_pos (hm.mpr p)] at hM
    exact ⟨by rw [(Prod.mk.inj hC).1, (Prod.mk.inj hM).1], by rw [(Prod.mk.inj hC).2, (Prod.mk.inj hM).2]; exact h⟩
theorem sim_teach {c m : St} {r r2 : Int32} {u w : St} {a0 a1 : Int32} (h : Sim c m) (hC : (r, u) = F_X7_teach 0 a0 a1 c) (hM : (r2, w) = F_X8_teach 0 a0 a1 m) : r = r2 ∧ Sim u w := by
  have g := h.1
  have hs := hasWk 12 a0 c
  rw [g.1.2.1] at hs
  have hm := isWkM (a := a0) g.1.2.2
  have hi := inI (x := a1) (b := 0) (c := 3) (lo := 0) (hi := 3) m rfl rfl
  simp only [F_X7_teach, xl_d, Nat.reduceAdd] at hC
  simp only [F_X8_teach, F_X8_becomes, xl_d, xm_d, Nat.reduceAdd] at hM
  by_cases p : 0 ≤ a0.toInt ∧ a0.toInt < (m.1 0 4).toInt
  · rw [if_neg (fun z => hs.mp z p)] at hC
    rw [if_neg (fun z => hm.mp z p)] at hM
    by_cases q : 0 ≤ a1.toInt ∧ a1.toInt ≤ 3
    · rw [if_neg (by omega), if_neg (by omega)] at hC
      rw [if_neg (fun z => hi.mp z q)] at hM
      have h5 := g.1.2.2
      have a2 : ((20 : Int32) + a0).toInt = 20 + a0.toInt := adI rfl rfl (by omega) (by omega)
      have n2 := cnI (x := (20 : Int32) + a0) (by omega)
      have n0 := cnI (x := a0) (by omega)
      obtain ⟨hr, hu⟩ := Prod.mk.inj hC
      obtain ⟨hr2, hw⟩ := Prod.mk.inj hM
      have ei : ((20 : Int32) + a0).toNatClampNeg = 0 + 20 + a0.toNatClampNeg := by omega
      rw [ei] at hr2 hw
      subst hr hr2 hu hw
      have gi := g.2.2.2.1 a0.toNatClampNeg (by omega)
      refine ⟨gi.1, ?_⟩
      have nc := nc_ (c := c) (k := 16) (j := a0.toNatClampNeg) (x := a1)
      have nm := nm_ (m := m) (b := 0 + 20 + a0.toNatClampNeg) (y := a1)
      refine h.now (fun a b z => nc _ _ (by omega)) (fun a b z => nm _ _ (by omega)) ⟨g.1.fr (nc _ _ (by omega)) (nc _ _ (by omega)) (nm _ _ (by omega)) (nm _ _ (by omega)), g.2.1.fr (fun j _ _ => nc _ _ (by omega)) (fun j _ => nc _ _ (by omega)) (nm _ _ (by omega)) (fun b _ _ => nm _ _ (by omega)), g.2.2.1.fr (nc _ _ (by omega)) (fun j => ⟨nc _ _ (by omega), nc _ _ (by omega), nc _ _ (by omega)⟩) (nm _ _ (by omega)) (g.1.1.2.2) (fun b _ _ => nm _ _ (by omega)), ?_, g.2.2.2.2.1.fr (nc _ _ (by omega)) (fun j => nc _ _ (by omega)) (nm _ _ (by omega)) (fun b _ _ => nm _ _ (by omega)), g.2.2.2.2.2.fr (nc _ _ (by omega)) (fun j => ⟨nc _ _ (by omega), nc _ _ (by omega)⟩) (fun b _ _ => nm _ _ (by omega))⟩
      intro i hi
      rw [nm 0 4 (by omega)] at hi
      have gj := g.2.2.2.1 i hi
      by_cases e : i = a0.toNatClampNeg
      · subst e
        have x3 : (up1 m 1 (0 + 20 + a0.toNatClampNeg) a1).1 1 (0 + 20 + a0.toNatClampNeg) = a1 := up1_s _ _ _ _
        have x4 : (up1 c 16 a0.toNatClampNeg a1).1 (12 + 4) a0.toNatClampNeg = a1 := up1_s _ _ _ _
        rw [x3, x4]
        exact ⟨rfl, q⟩
      · rw [nc (12 + 4) i (by omega), nm 1 (0 + 20 + i) (by omega)]
        exact gj
    · rw [if_pos (hi.mpr q)] at hM
      have hC : (r, u) = (-1, c) := by
        by_cases q1 : a1.toInt < 0
        · rw [if_pos q1] at hC; exact hC
        · rw [if_neg q1, if_pos (by omega)] at hC; exact hC
      exact ⟨by rw [(Prod.mk.inj hC).1, (Prod.mk.inj hM).1], by rw [(Prod.mk.inj hC).2, (Prod.mk.inj hM).2]; exact h⟩
  · rw [if_pos (hs.mpr p)] at hC
    rw [if_pos (hm.mpr p)] at hM
    exact ⟨by rw [(Prod.mk.inj hC).1, (Prod.mk.inj hM).1], by rw [(Prod.mk.inj hC).2, (Prod.mk.inj hM).2]; exact h⟩
theorem sim_cloud {c m : St} {r r2 : Int32} {u w : St} {a0 a1 : Int32} (h : Sim c m) (hC : (r, u) = F_X7_cloud 0 a0 a1 c) (hM : (r2, w) = F_X8_cloud 0 a0 a1 m) : r = r2 ∧ Sim u w := by
  have g := h.1
  simp only [F_X7_cloud, onCl, xl_d, Nat.reduceAdd] at hC
  simp only [F_X8_cloud, xl_d, Nat.reduceAdd, cn28] at hM
  have g28 : c.1 12 11 = m.1 1 28 := g.2.1.2.2.2.2.2.1
  by_cases p : 0 ≤ a0.toInt ∧ a0.toInt ≤ 9
  · rw [if_neg (fun z => isHrC.mp z p)] at hC
    rw [if_neg (fun z => isHrM.mp z p)] at hM
    obtain ⟨x, hx1, hx2⟩ : ∃ x : Int32, F_X7_withBit (c.1 12 11) a0 a1 c = x ∧ (r2, w) = ((m.1 1 28 >>> (a0 &&& 31)) &&& 1, up1 m 1 28 x) := by
      simp only [F_X7_withBit, xl_d]
      rw [g28]
      by_cases q : a1.toInt = 0
      · rw [if_pos q] at hM ⊢; exact ⟨_, rfl, hM⟩
      · rw [if_neg q] at hM ⊢; exact ⟨_, rfl, hM⟩
    rw [hx1, g28] at hC
    obtain ⟨hr, hu⟩ := Prod.mk.inj hC
    obtain ⟨hr2, hw⟩ := Prod.mk.inj hx2
    subst hr hr2 hu hw
    refine ⟨rfl, ?_⟩
    have nc := nc_ (c := c) (k := 12) (j := 11) (x := x)
    have nm := nm_ (m := m) (b := 28) (y := x)
    refine h.now (fun a b z => nc _ _ (by omega)) (fun a b z => nm _ _ (by omega)) ⟨g.1.fr (nc _ _ (by omega)) (nc _ _ (by omega)) (nm _ _ (by omega)) (nm _ _ (by omega)), ?_, g.2.2.1.fr (nc _ _ (by omega)) (fun j => ⟨nc _ _ (by omega), nc _ _ (by omega), nc _ _ (by omega)⟩) (nm _ _ (by omega)) (g.1.1.2.2) (fun b _ _ => nm _ _ (by omega)), g.2.2.2.1.fr (fun j => nc _ _ (by omega)) (nm _ _ (by omega)) (g.1.2.2.2) (fun b _ _ => nm _ _ (by omega)), g.2.2.2.2.1.fr (nc _ _ (by omega)) (fun j => nc _ _ (by omega)) (nm _ _ (by omega)) (fun b _ _ => nm _ _ (by omega)), g.2.2.2.2.2.fr (nc _ _ (by omega)) (fun j => ⟨nc _ _ (by omega), nc _ _ (by omega)⟩) (fun b _ _ => nm _ _ (by omega))⟩
    obtain ⟨f1, f2, f3, f4, f5, f6, f7, f8, f9⟩ := g.2.1
    refine ⟨?_, ?_, ?_, ?_, ?_, ?_, ?_, ?_, ?_⟩
    · rw [nc 12 7 (by omega), nm 0 4 (by omega), nm 1 (0 + 23) (by omega)]; exact f1
    · rw [nc 12 8 (by omega), nm 1 (0 + 24) (by omega)]; exact f2
    · rw [nc 12 9 (by omega), nm 1 (0 + 25) (by omega)]; exact f3
    · rw [nc 12 10 (by omega), nm 1 (0 + 26) (by omega)]; exact f4
    · rw [nc (12 + 5) 3 (by omega), nm 1 (0 + 27) (by omega)]; exact f5
    · rw [up1_s]; exact (up1_s _ _ _ _).symm
    · rw [nc (12 + 5) 0 (by omega), nm 1 (0 + 29) (by omega)]; exact f7
    · rw [nc (12 + 5) 1 (by omega), nm 1 (0 + 30) (by omega), nm 1 (0 + 29) (by omega)]; exact f8
    · rw [nc (12 + 5) 2 (by omega), nm 1 (0 + 31) (by omega), nm 1 (0 + 29) (by omega)]; exact f9
  · rw [if_pos (isHrC.mpr p)] at hC
    rw [if_pos (isHrM.mpr p)] at hM
    exact ⟨by rw [(Prod.mk.inj hC).1, (Prod.mk.inj hM).1], by rw [(Prod.mk.inj hC).2, (Prod.mk.inj hM).2]; exact h⟩
theorem sim_cut {c m : St} {r r2 : Int32} {u w : St} {a0 : Int32} (h : Sim c m) (hC : (r, u) = F_X7_cut 0 a0 c) (hM : (r2, w) = F_X8_cut 0 a0 m) : r = r2 ∧ Sim u w := by
  have g := h.1
  have p1 := g.2.2.2.2.1.1
  have e14 : c.1 12 14 = m.1 1 32 := p1.1
  have p2 : 0 ≤ (m.1 1 32).toInt ∧ (m.1 1 32).toInt ≤ 8 := p1.2
  have hi := inI (x := a0) (b := 0) (c := (m.1 1 32).toInt64) (lo := 0) (hi := (m.1 1 32).toInt) m rfl (i64_of _)
  simp only [F_X7_cut, xl_d, Nat.reduceAdd] at hC
  simp only [F_X8_cut, F_X8_becomes, xl_d, xm_d, Nat.reduceAdd, cn32] at hM
  rw [e14] at hC
  by_cases p : 0 ≤ a0.toInt ∧ a0.toInt ≤ (m.1 1 32).toInt
  · rw [if_neg (by omega), if_neg (by omega)] at hC
    rw [if_neg (fun z => hi.mp z p)] at hM
    obtain ⟨hr, hu⟩ := Prod.mk.inj hC
    obtain ⟨hr2, hw⟩ := Prod.mk.inj hM
    subst hr hr2 hu hw
    refine ⟨rfl, ?_⟩
    have nc := nc_ (c := c) (k := 12) (j := 14) (x := a0)
    have nm := nm_ (m := m) (b := 32) (y := a0)
    refine h.now (fun a b z => nc _ _ (by omega)) (fun a b z => nm _ _ (by omega)) ⟨g.1.fr (nc _ _ (by omega)) (nc _ _ (by omega)) (nm _ _ (by omega)) (nm _ _ (by omega)), g.2.1.fr (fun j _ _ => nc _ _ (by omega)) (fun j _ => nc _ _ (by omega)) (nm _ _ (by omega)) (fun b _ _ => nm _ _ (by omega)), g.2.2.1.fr (nc _ _ (by omega)) (fun j => ⟨nc _ _ (by omega), nc _ _ (by omega), nc _ _ (by omega)⟩) (nm _ _ (by omega)) (g.1.1.2.2) (fun b _ _ => nm _ _ (by omega)), g.2.2.2.1.fr (fun j => nc _ _ (by omega)) (nm _ _ (by omega)) (g.1.2.2.2) (fun b _ _ => nm _ _ (by omega)), ?_, g.2.2.2.2.2.fr (nc _ _ (by omega)) (fun j => ⟨nc _ _ (by omega), nc _ _ (by omega)⟩) (fun b _ _ => nm _ _ (by omega))⟩
    have s32 : (up1 m 1 32 a0).1 1 (0 + 32) = a0 := up1_s _ _ _ _
    refine ⟨⟨by rw [s32]; exact up1_s _ _ _ _, by rw [s32]; exact p.1, by rw [s32]; omega⟩, fun i hi => ?_⟩
    rw [s32] at hi
    rw [nc (12 + 6) i (by omega), nm 1 (0 + 33 + i) (by omega), nm 0 3 (by omega)]
    exact g.2.2.2.2.1.2 i (by show (i : Int) < (m.1 1 32).toInt; omega)
  · rw [if_pos (hi.mpr p)] at hM
    have hC : (r, u) = (-1, c) := by
      by_cases q1 : a0.toInt < 0
      · rw [if_pos q1] at hC; exact hC
      · rw [if_neg q1, if_pos (by omega)] at hC; exact hC
    exact ⟨by rw [(Prod.mk.inj hC).1, (Prod.mk.inj hM).1], by rw [(Prod.mk.inj hC).2, (Prod.mk.inj hM).2]; exact h⟩
theorem sim_forget {c m : St} {r r2 : Int32} {u w : St} {a0 : Int32} (h : Sim c m) (hC : (r, u) = F_X7_forget 0 a0 c) (hM : (r2, w) = F_X8_forget 0 a0 m) : r = r2 ∧ Sim u w := by
  have g := h.1
  have p1 := g.2.2.2.2.2.1
  have e17 : c.1 12 17 = m.1 1 41 := p1.1
  have p2 : 0 ≤ (m.1 1 41).toInt ∧ (m.1 1 41).toInt ≤ 6 := p1.2
  have hi := inI (x := a0) (b := 0) (c := (m.1 1 41).toInt64) (lo := 0) (hi := (m.1 1 41).toInt) m rfl (i64_of _)
  simp only [F_X7_forget, xl_d, Nat.reduceAdd] at hC
  simp only [F_X8_forget, F_X8_becomes, xl_d, xm_d, Nat.reduceAdd, cn41] at hM
  rw [e17] at hC
  by_cases p : 0 ≤ a0.toInt ∧ a0.toInt ≤ (m.1 1 41).toInt
  · rw [if_neg (by omega), if_neg (by omega)] at hC
    rw [if_neg (fun z => hi.mp z p)] at hM
    obtain ⟨hr, hu⟩ := Prod.mk.inj hC
    obtain ⟨hr2, hw⟩ := Prod.mk.inj hM
    subst hr hr2 hu hw
    refine ⟨rfl, ?_⟩
    have nc := nc_ (c := c) (k := 12) (j := 17) (x := a0)
    have nm := nm_ (m := m) (b := 41) (y := a0)
    refine h.now (fun a b z => nc _ _ (by omega)) (fun a b z => nm _ _ (by omega)) ⟨g.1.fr (nc _ _ (by omega)) (nc _ _ (by omega)) (nm _ _ (by omega)) (nm _ _ (by omega)), g.2.1.fr (fun j _ _ => nc _ _ (by omega)) (fun j _ => nc _ _ (by omega)) (nm _ _ (by omega)) (fun b _ _ => nm _ _ (by omega)), g.2.2.1.fr (nc _ _ (by omega)) (fun j => ⟨nc _ _ (by omega), nc _ _ (by omega), nc _ _ (by omega)⟩) (nm _ _ (by omega)) (g.1.1.2.2) (fun b _ _ => nm _ _ (by omega)), g.2.2.2.1.fr (fun j => nc _ _ (by omega)) (nm _ _ (by omega)) (g.1.2.2.2) (fun b _ _ => nm _ _ (by omega)), g.2.2.2.2.1.fr (nc _ _ (by omega)) (fun j => nc _ _ (by omega)) (nm _ _ (by omega)) (fun b _ _ => nm _ _ (by omega)), ?_⟩
    have s41 : (up1 m 1 41 a0).1 1 (0 + 41) = a0 := up1_s _ _ _ _
    refine ⟨⟨by rw [s41]; exact up1_s _ _ _ _, by rw [s41]; exact p.1, by rw [s41]; omega⟩, fun i hi => ?_⟩
    rw [s41] at hi
    rw [nc (12 + 7) i (by omega), nc (12 + 8) i (by omega), nm 1 (0 + 42 + 2 * i) (by omega), nm 1 (0 + 42 + 2 * i + 1) (by omega)]
    exact g.2.2.2.2.2.2 i (by show (i : Int) < (m.1 1 41).toInt; omega)
  · rw [if_pos (hi.mpr p)] at hM
    have hC : (r, u) = (-1, c) := by
      by_cases q1 : a0.toInt < 0
      · rw [if_pos q1] at hC; exact hC
      · rw [if_neg q1, if_pos (by omega)] at hC; exact hC
    exact ⟨by rw [(Prod.mk.inj hC).1, (Prod.mk.inj hM).1], by rw [(Prod.mk.inj hC).2, (Prod.mk.inj hM).2]; exact h⟩
theorem sim_see {c m : St} {r r2 : Int32} {u w : St} {a0 a1 : Int32} (h : Sim c m) (hC : (r, u) = F_X7_see 0 a0 a1 c) (hM : (r2, w) = F_X8_see 0 a0 a1 m) : r = r2 ∧ Sim u w := by
  have g := h.1
  have p1 := g.2.2.2.2.2.1
  have e17 : c.1 12 17 = m.1 1 41 := p1.1
  have p2 : 0 ≤ (m.1 1 41).toInt ∧ (m.1 1 41).toInt ≤ 6 := p1.2
  have hi := inI (x := a0) (b := 0) (c := 8) (lo := 0) (hi := 8) m rfl rfl
  have hi2 := inI (x := a1) (b := (-99)) (c := 99) (lo := (-99)) (hi := 99) m rfl rfl
  simp only [F_X7_see, xl_d, Nat.reduceAdd] at hC
  simp only [F_X8_see, xl_d, Nat.reduceAdd, cn41] at hM
  rw [e17] at hC
  by_cases p : (0 ≤ a0.toInt ∧ a0.toInt ≤ 8) ∧ (-99 ≤ a1.toInt ∧ a1.toInt ≤ 99)
  · rw [if_neg (by omega), if_neg (by omega), if_neg (by omega), if_neg (by omega)] at hC
    rw [if_neg (fun z => hi.mp z p.1), if_neg (fun z => hi2.mp z p.2)] at hM
    by_cases q : (m.1 1 41).toInt = 6
    · rw [if_neg (by omega)] at hC
      rw [if_pos q] at hM
      exact ⟨by rw [(Prod.mk.inj hC).1, (Prod.mk.inj hM).1], by rw [(Prod.mk.inj hC).2, (Prod.mk.inj hM).2]; exact h⟩
    · rw [if_pos (by omega), up1_s] at hC
      rw [if_neg q] at hM
      have n41 := cnI (x := m.1 1 41) (by omega)
      have m2 : ((2 : Int32) * m.1 1 41).toInt = 2 * (m.1 1 41).toInt := mlI rfl rfl (by omega) (by omega)
      have m42 : ((42 : Int32) + (2 : Int32) * m.1 1 41).toInt = 42 + 2 * (m.1 1 41).toInt := adI rfl m2 (by omega) (by omega)
      have m43 : ((42 : Int32) + (2 : Int32) * m.1 1 41 + 1).toInt = 42 + 2 * (m.1 1 41).toInt + 1 := adI m42 rfl (by omega) (by omega)
      have n42 := cnI (x := (42 : Int32) + (2 : Int32) * m.1 1 41) (by omega)
      have n43 := cnI (x := (42 : Int32) + (2 : Int32) * m.1 1 41 + 1) (by omega)
      have e1 : (m.1 1 41 + 1).toInt = (m.1 1 41).toInt + 1 := adI rfl rfl (by omega) (by omega)
      rw [up1_s] at hM
      obtain ⟨hr, hu⟩ := Prod.mk.inj hC
      obtain ⟨hr2, hw⟩ := Prod.mk.inj hM
      have ei : ((42 : Int32) + (2 : Int32) * m.1 1 41).toNatClampNeg = 0 + 42 + 2 * (m.1 1 41).toNatClampNeg := by omega
      have ej : ((42 : Int32) + (2 : Int32) * m.1 1 41 + 1).toNatClampNeg = 0 + 42 + 2 * (m.1 1 41).toNatClampNeg + 1 := by omega
      rw [ei, ej] at hw
      have nc : ∀ a b : Nat, (a ≠ 19 ∧ a ≠ 20 ∧ (a ≠ 12 ∨ b ≠ 17)) → u.1 a b = c.1 a b := fun a b z => by rw [hu, up1_n _ _ (by omega), up1_n _ _ (by omega), up1_n _ _ (by omega)]
      have nm : ∀ a b : Nat, (a ≠ 1 ∨ (b ≠ 41 ∧ b ≠ 0 + 42 + 2 * (m.1 1 41).toNatClampNeg ∧ b ≠ 0 + 42 + 2 * (m.1 1 41).toNatClampNeg + 1)) → w.1 a b = m.1 a b := fun a b z => by rw [hw, up1_n _ _ (by omega), up1_n _ _ (by omega), up1_n _ _ (by omega)]
      refine ⟨by rw [hr, hr2], ?_⟩
      refine h.now (fun a b z => nc _ _ (by omega)) (fun a b z => nm _ _ (by omega)) ⟨g.1.fr (nc _ _ (by omega)) (nc _ _ (by omega)) (nm _ _ (by omega)) (nm _ _ (by omega)), g.2.1.fr (fun j _ _ => nc _ _ (by omega)) (fun j _ => nc _ _ (by omega)) (nm _ _ (by omega)) (fun b _ _ => nm _ _ (by omega)), g.2.2.1.fr (nc _ _ (by omega)) (fun j => ⟨nc _ _ (by omega), nc _ _ (by omega), nc _ _ (by omega)⟩) (nm _ _ (by omega)) (g.1.1.2.2) (fun b _ _ => nm _ _ (by omega)), g.2.2.2.1.fr (fun j => nc _ _ (by omega)) (nm _ _ (by omega)) (g.1.2.2.2) (fun b _ _ => nm _ _ (by omega)), g.2.2.2.2.1.fr (nc _ _ (by omega)) (fun j => nc _ _ (by omega)) (nm _ _ (by omega)) (fun b _ _ => nm _ _ (by omega)), ?_⟩
      have s41 : w.1 1 (0 + 41) = m.1 1 41 + 1 := by rw [hw]; exact up1_s _ _ _ _
      refine ⟨⟨by rw [s41, hu]; exact up1_s _ _ _ _, by rw [s41]; omega, by rw [s41]; omega⟩, fun i hi => ?_⟩
      rw [s41] at hi
      by_cases e : i = (m.1 1 41).toNatClampNeg
      · have x1 : u.1 (12 + 7) i = a0 := by rw [hu, up1_n _ _ (by omega), up1_n _ _ (by omega), e]; exact up1_s _ _ _ _
        have x2 : u.1 (12 + 8) i = a1 := by rw [hu, up1_n _ _ (by omega), e]; exact up1_s _ _ _ _
        have x3 : w.1 1 (0 + 42 + 2 * i) = a0 := by rw [hw, up1_n _ _ (by omega), up1_n _ _ (by omega), e, up1_s]
        have x4 : w.1 1 (0 + 42 + 2 * i + 1) = a1 := by rw [hw, up1_n _ _ (by omega), e, up1_s]
        rw [x1, x2, x3, x4]
        exact ⟨rfl, rfl, p.1⟩
      · have x1 : u.1 (12 + 7) i = c.1 (12 + 7) i := by rw [hu, up1_n _ _ (by omega), up1_n _ _ (by omega), up1_n _ _ (by omega)]
        have x2 : u.1 (12 + 8) i = c.1 (12 + 8) i := by rw [hu, up1_n _ _ (by omega), up1_n _ _ (by omega), up1_n _ _ (by omega)]
        rw [x1, x2, nm 1 (0 + 42 + 2 * i) (by omega), nm 1 (0 + 42 + 2 * i + 1) (by omega)]
        exact g.2.2.2.2.2.2 i (by show (i : Int) < (m.1 1 41).toInt; omega)
  · have hC : (r, u) = (-1, c) := by
      by_cases q1 : a0.toInt < 0
      · rw [if_pos q1] at hC; exact hC
      · rw [if_neg q1] at hC
        by_cases q2 : 8 < a0.toInt
        · rw [if_pos q2] at hC; exact hC
        · rw [if_neg q2] at hC
          by_cases q3 : a1.toInt < -99
          · rw [if_pos q3] at hC; exact hC
          · rw [if_neg q3, if_pos (by omega)] at hC; exact hC
    have hM : (r2, w) = (-1, m) := by
      by_cases q1 : 0 ≤ a0.toInt ∧ a0.toInt ≤ 8
      · rw [if_neg (fun z => hi.mp z q1), if_pos (hi2.mpr (fun z => p ⟨q1, z⟩))] at hM; exact hM
      · rw [if_pos (hi.mpr q1)] at hM; exact hM
    exact ⟨by rw [(Prod.mk.inj hC).1, (Prod.mk.inj hM).1], by rw [(Prod.mk.inj hC).2, (Prod.mk.inj hM).2]; exact h⟩
theorem sim_plans {c m : St} {r r2 : Int32} {u w : St} {a0 : Int32} (h : Sim c m) (hC : (r, u) = F_X7_plans 0 a0 c) (hM : (r2, w) = F_X8_plans 0 a0 m) : r = r2 ∧ Sim u w := by
  have g := h.1
  have p1 := g.2.2.2.2.1.1
  have e14 : c.1 12 14 = m.1 1 32 := p1.1
  have p2 : 0 ≤ (m.1 1 32).toInt ∧ (m.1 1 32).toInt ≤ 8 := p1.2
  have hs := hasAm 12 a0 c
  rw [g.1.1.1] at hs
  have hm := isAmM (a := a0) g.1.1.2
  have h5 := g.1.1.2
  simp only [F_X7_plans, F_X0_addAim, xl_d, xm_d, Nat.reduceAdd] at hC
  simp only [F_X8_plans, xl_d, Nat.reduceAdd, cn32] at hM
  rw [e14] at hC
  by_cases p : a0.toInt = 5 ∨ a0.toInt = 6 ∨ (0 ≤ a0.toInt ∧ a0.toInt < (m.1 0 3).toInt)
  · rw [if_neg (fun z => hs.mp z p)] at hC
    rw [if_neg (fun z => hm.mp z p)] at hM
    by_cases q : (m.1 1 32).toInt = 8
    · rw [if_neg (show ¬ (m.1 1 32).toInt < 8 by omega), if_pos (show ((0 : Int32), c).1.toInt = 0 from rfl)] at hC
      rw [if_pos q] at hM
      exact ⟨by rw [(Prod.mk.inj hC).1, (Prod.mk.inj hM).1], by rw [(Prod.mk.inj hC).2, (Prod.mk.inj hM).2]; exact h⟩
    · rw [if_pos (show (m.1 1 32).toInt < 8 by omega), if_neg (show ¬ ((1 : Int32), up1 (up1 c 18 (m.1 1 32).toNatClampNeg a0) 12 14 (m.1 1 32 + 1)).1.toInt = 0 from (by decide : ¬ (1 : Int32).toInt = 0))] at hC
      simp only [up1_s] at hC
      rw [if_neg q, up1_s] at hM
      have n32 := cnI (x := m.1 1 32) (by omega)
      have m33 : ((33 : Int32) + m.1 1 32).toInt = 33 + (m.1 1 32).toInt := adI rfl rfl (by omega) (by omega)
      have n33 := cnI (x := (33 : Int32) + m.1 1 32) (by omega)
      have e1 : (m.1 1 32 + 1).toInt = (m.1 1 32).toInt + 1 := adI rfl rfl (by omega) (by omega)
      obtain ⟨hr, hu⟩ := Prod.mk.inj hC
      obtain ⟨hr2, hw⟩ := Prod.mk.inj hM
      have ei : ((33 : Int32) + m.1 1 32).toNatClampNeg = 0 + 33 + (m.1 1 32).toNatClampNeg := by omega
      rw [ei] at hw
      have nc : ∀ a b : Nat, (a ≠ 18 ∧ (a ≠ 12 ∨ b ≠ 14)) → u.1 a b = c.1 a b := fun a b z => by rw [hu, up1_n _ _ (by omega), up1_n _ _ (by omega)]
      have nm : ∀ a b : Nat, (a ≠ 1 ∨ (b ≠ 32 ∧ b ≠ 0 + 33 + (m.1 1 32).toNatClampNeg)) → w.1 a b = m.1 a b := fun a b z => by rw [hw, up1_n _ _ (by omega), up1_n _ _ (by omega)]
      refine ⟨by rw [hr, hr2], ?_⟩
      refine h.now (fun a b z => nc _ _ (by omega)) (fun a b z => nm _ _ (by omega)) ⟨g.1.fr (nc _ _ (by omega)) (nc _ _ (by omega)) (nm _ _ (by omega)) (nm _ _ (by omega)), g.2.1.fr (fun j _ _ => nc _ _ (by omega)) (fun j _ => nc _ _ (by omega)) (nm _ _ (by omega)) (fun b _ _ => nm _ _ (by omega)), g.2.2.1.fr (nc _ _ (by omega)) (fun j => ⟨nc _ _ (by omega), nc _ _ (by omega), nc _ _ (by omega)⟩) (nm _ _ (by omega)) (g.1.1.2.2) (fun b _ _ => nm _ _ (by omega)), g.2.2.2.1.fr (fun j => nc _ _ (by omega)) (nm _ _ (by omega)) (g.1.2.2.2) (fun b _ _ => nm _ _ (by omega)), ?_, g.2.2.2.2.2.fr (nc _ _ (by omega)) (fun j => ⟨nc _ _ (by omega), nc _ _ (by omega)⟩) (fun b _ _ => nm _ _ (by omega))⟩
      have s32 : w.1 1 (0 + 32) = m.1 1 32 + 1 := by rw [hw]; exact up1_s _ _ _ _
      refine ⟨⟨by rw [s32, hu]; exact up1_s _ _ _ _, by rw [s32]; omega, by rw [s32]; omega⟩, fun i hi => ?_⟩
      rw [s32] at hi
      rw [nm 0 3 (by omega)]
      by_cases e : i = (m.1 1 32).toNatClampNeg
      · have x1 : u.1 (12 + 6) i = a0 := by rw [hu, up1_n _ _ (by omega), e]; exact up1_s _ _ _ _
        have x3 : w.1 1 (0 + 33 + i) = a0 := by rw [hw, up1_n _ _ (by omega), e, up1_s]
        rw [x1, x3]
        exact ⟨rfl, by omega, by omega, by omega⟩
      · have x1 : u.1 (12 + 6) i = c.1 (12 + 6) i := by rw [hu, up1_n _ _ (by omega), up1_n _ _ (by omega)]
        rw [x1, nm 1 (0 + 33 + i) (by omega)]
        exact g.2.2.2.2.1.2 i (by show (i : Int) < (m.1 1 32).toInt; omega)
  · rw [if_pos (hs.mpr p)] at hC
    rw [if_pos (hm.mpr p)] at hM
    exact ⟨by rw [(Prod.mk.inj hC).1, (Prod.mk.inj hM).1], by rw [(Prod.mk.inj hC).2, (Prod.mk.inj hM).2]; exact h⟩
/-! set, know -/
/-- one plain number of the night becomes v -/
theorem set1 {c m : St} (h : Sim c m) {ka ja jb : Nat} (v : Int32) (hj : (ka = 12 ∧ ja = 7 ∧ jb = 23 ∧ 0 ≤ v.toInt ∧ (¬ (m.1 0 4).toInt = 0 → v.toInt < (m.1 0 4).toInt)) ∨ (ka = 12 ∧ ja = 8 ∧ jb = 24) ∨ (ka = 12 ∧ ja = 9 ∧ jb = 25) ∨ (ka = 12 ∧ ja = 10 ∧ jb = 26) ∨ (ka = 17 ∧ ja = 3 ∧ jb = 27 ∧ 0 ≤ v.toInt ∧ v.toInt ≤ 99)) : c.1 ka ja = m.1 1 jb ∧ Sim (up1 c ka ja v) (up1 m 1 jb v) := by
  have g := h.1
  have nc := nc_ (c := c) (k := ka) (j := ja) (x := v)
  have nm := nm_ (m := m) (b := jb) (y := v)
  obtain ⟨f1, f2, f3, f4, f5, f6, f7, f8, f9⟩ := g.2.1
  refine ⟨?_, h.now (fun a b z => nc _ _ (by omega)) (fun a b z => nm _ _ (by omega)) ⟨g.1.fr (nc _ _ (by omega)) (nc _ _ (by omega)) (nm _ _ (by omega)) (nm _ _ (by omega)), ?_, g.2.2.1.fr (nc _ _ (by omega)) (fun j => ⟨nc _ _ (by omega), nc _ _ (by omega), nc _ _ (by omega)⟩) (nm _ _ (by omega)) (g.1.1.2.2) (fun b _ _ => nm _ _ (by omega)), g.2.2.2.1.fr (fun j => nc _ _ (by omega)) (nm _ _ (by omega)) (g.1.2.2.2) (fun b _ _ => nm _ _ (by omega)), g.2.2.2.2.1.fr (nc _ _ (by omega)) (fun j => nc _ _ (by omega)) (nm _ _ (by omega)) (fun b _ _ => nm _ _ (by omega)), g.2.2.2.2.2.fr (nc _ _ (by omega)) (fun j => ⟨nc _ _ (by omega), nc _ _ (by omega)⟩) (fun b _ _ => nm _ _ (by omega))⟩⟩
  · rcases hj with ⟨rfl, rfl, rfl, -⟩ | ⟨rfl, rfl, rfl⟩ | ⟨rfl, rfl, rfl⟩ | ⟨rfl, rfl, rfl⟩ | ⟨rfl, rfl, rfl, -⟩
    · exact f1.1
    · exact f2
    · exact f3
    · exact f4
    · exact f5.1
  · have sc : (up1 c ka ja v).1 ka ja = v := up1_s _ _ _ _
    have sm : (up1 m 1 jb v).1 1 jb = v := up1_s _ _ _ _
    have n4 := nm 0 4 (by omega)
    rcases hj with ⟨rfl, rfl, rfl, hv⟩ | ⟨rfl, rfl, rfl⟩ | ⟨rfl, rfl, rfl⟩ | ⟨rfl, rfl, rfl⟩ | ⟨rfl, rfl, rfl, hv⟩
    · refine ⟨?_, ?_, ?_, ?_, ?_, ?_, ?_, ?_, ?_⟩
      · show (up1 c 12 7 v).1 12 7 = (up1 m 1 23 v).1 1 23 ∧ 0 ≤ ((up1 m 1 23 v).1 1 23).toInt ∧ (¬ ((up1 m 1 23 v).1 0 4).toInt = 0 → ((up1 m 1 23 v).1 1 23).toInt < ((up1 m 1 23 v).1 0 4).toInt)
        rw [sc, sm, n4]; exact ⟨rfl, hv⟩
      · rw [nc 12 8 (by omega), nm 1 (0 + 24) (by omega)]; exact f2
      · rw [nc 12 9 (by omega), nm 1 (0 + 25) (by omega)]; exact f3
      · rw [nc 12 10 (by omega), nm 1 (0 + 26) (by omega)]; exact f4
      · rw [nc (12 + 5) 3 (by omega), nm 1 (0 + 27) (by omega)]; exact f5
      · rw [nc 12 11 (by omega), nm 1 (0 + 28) (by omega)]; exact f6
      · rw [nc (12 + 5) 0 (by omega), nm 1 (0 + 29) (by omega)]; exact f7
      · rw [nc (12 + 5) 1 (by omega), nm 1 (0 + 30) (by omega), nm 1 (0 + 29) (by omega)]; exact f8
      · rw [nc (12 + 5) 2 (by omega), nm 1 (0 + 31) (by omega), nm 1 (0 + 29) (by omega)]; exact f9
    · refine ⟨?_, ?_, ?_, ?_, ?_, ?_, ?_, ?_, ?_⟩
      · rw [nc 12 7 (by omega), n4, nm 1 (0 + 23) (by omega)]; exact f1
      · exact sc.trans sm.symm
      · rw [nc 12 9 (by omega), nm 1 (0 + 25) (by omega)]; exact f3
      · rw [nc 12 10 (by omega), nm 1 (0 + 26) (by omega)]; exact f4
      · rw [nc (12 + 5) 3 (by omega), nm 1 (0 + 27) (by omega)]; exact f5
      · rw [nc 12 11 (by omega), nm 1 (0 + 28) (by omega)]; exact f6
      · rw [nc (12 + 5) 0 (by omega), nm 1 (0 + 29) (by omega)]; exact f7
      · rw [nc (12 + 5) 1 (by omega), nm 1 (0 + 30) (by omega), nm 1 (0 + 29) (by omega)]; exact f8
      · rw [nc (12 + 5) 2 (by omega), nm 1 (0 + 31) (by omega), nm 1 (0 + 29) (by omega)]; exact f9
    · refine ⟨?_, ?_, ?_, ?_, ?_, ?_, ?_, ?_, ?_⟩
      · rw [nc 12 7 (by omega), n4, nm 1 (0 + 23) (by omega)]; exact f1
      · rw [nc 12 8 (by omega), nm 1 (0 + 24) (by omega)]; exact f2
      · exact sc.trans sm.symm
      · rw [nc 12 10 (by omega), nm 1 (0 + 26) (by omega)]; exact f4
      · rw [nc (12 + 5) 3 (by omega), nm 1 (0 + 27) (by omega)]; exact f5
      · rw [nc 12 11 (by omega), nm 1 (0 + 28) (by omega)]; exact f6
      · rw [nc (12 + 5) 0 (by omega), nm 1 (0 + 29) (by omega)]; exact f7
      · rw [nc (12 + 5) 1 (by omega), nm 1 (0 + 30) (by omega), nm 1 (0 + 29) (by omega)]; exact f8
      · rw [nc (12 + 5) 2 (by omega), nm 1 (0 + 31) (by omega), nm 1 (0 + 29) (by omega)]; exact f9
    · refine ⟨?_, ?_, ?_, ?_, ?_, ?_, ?_, ?_, ?_⟩
      · rw [nc 12 7 (by omega), n4, nm 1 (0 + 23) (by omega)]; exact f1
      · rw [nc 12 8 (by omega), nm 1 (0 + 24) (by omega)]; exact f2
      · rw [nc 12 9 (by omega), nm 1 (0 + 25) (by omega)]; exact f3
      · exact sc.trans sm.symm
      · rw [nc (12 + 5) 3 (by omega), nm 1 (0 + 27) (by omega)]; exact f5
      · rw [nc 12 11 (by omega), nm 1 (0 + 28) (by omega)]; exact f6
      · rw [nc (12 + 5) 0 (by omega), nm 1 (0 + 29) (by omega)]; exact f7
      · rw [nc (12 + 5) 1 (by omega), nm 1 (0 + 30) (by omega), nm 1 (0 + 29) (by omega)]; exact f8
      · rw [nc (12 + 5) 2 (by omega), nm 1 (0 + 31) (by omega), nm 1 (0 + 29) (by omega)]; exact f9
    · refine ⟨?_, ?_, ?_, ?_, ?_, ?_, ?_, ?_, ?_⟩
      · rw [nc 12 7 (by omega), n4, nm 1 (0 + 23) (by omega)]; exact f1
      · rw [nc 12 8 (by omega), nm 1 (0 + 24) (by omega)]; exact f2
      · rw [nc 12 9 (by omega), nm 1 (0 + 25) (by omega)]; exact f3
      · rw [nc 12 10 (by omega), nm 1 (0 + 26) (by omega)]; exact f4
      · show (up1 c 17 3 v).1 17 3 = (up1 m 1 27 v).1 1 27 ∧ 0 ≤ ((up1 m 1 27 v).1 1 27).toInt ∧ ((up1 m 1 27 v).1 1 27).toInt ≤ 99
        rw [sc, sm]; exact ⟨rfl, hv⟩
      · rw [nc 12 11 (by omega), nm 1 (0 + 28) (by omega)]; exact f6
      · rw [nc (12 + 5) 0 (by omega), nm 1 (0 + 29) (by omega)]; exact f7
      · rw [nc (12 + 5) 1 (by omega), nm 1 (0 + 30) (by omega), nm 1 (0 + 29) (by omega)]; exact f8
      · rw [nc (12 + 5) 2 (by omega), nm 1 (0 + 31) (by omega), nm 1 (0 + 29) (by omega)]; exact f9
theorem sim_set {c m : St} {r r2 : Int32} {u w : St} {a0 a1 : Int32} (h : Sim c m) (hC : (r, u) = F_X7_set 0 a0 a1 c) (hM : (r2, w) = F_X8_set 0 a0 a1 m) : r = r2 ∧ Sim u w := by
  have g := h.1
  have hw := hasWk 12 a1 c
  rw [g.1.2.1] at hw
  have hwm := isWkM (a := a1) g.1.2.2
  have i3 := inI (x := a1) (b := 1) (c := 40) (lo := 1) (hi := 40) m rfl rfl
  have i4 := inI (x := a1) (b := 0) (c := 9) (lo := 0) (hi := 9) m rfl rfl
  have i5 := inI (x := a1) (b := 0) (c := 10) (lo := 0) (hi := 10) m rfl rfl
  have i6 := inI (x := a1) (b := 0) (c := 99) (lo := 0) (hi := 99) m rfl rfl
  have c1 : (1 : Int32).toInt = 1 := rfl
  have c0 : (0 : Int32).toInt = 0 := rfl
  simp only [F_X7_set, xl_d, Nat.reduceAdd] at hC
  simp only [F_X8_set, F_X8_becomes, xl_d, xm_d, Nat.reduceAdd] at hM
  have no : (r, u) = (-1, c) → (r2, w) = (-1, m) → r = r2 ∧ Sim u w := fun hC hM => by
    exact ⟨by rw [(Prod.mk.inj hC).1, (Prod.mk.inj hM).1], by rw [(Prod.mk.inj hC).2, (Prod.mk.inj hM).2]; exact h⟩
  by_cases p : 2 ≤ a0.toInt ∧ a0.toInt ≤ 6
  · rw [if_neg (by omega), if_neg (by omega)] at hC
    have m1 : ((23 : Int32) + a0).toInt = 23 + a0.toInt := adI rfl rfl (by omega) (by omega)
    have m2 : ((23 : Int32) + a0 - 2).toInt = 23 + a0.toInt - 2 := sbI m1 rfl (by omega) (by omega)
    have n2 := cnI (x := (23 : Int32) + a0 - 2) (by omega)
    have key : ∀ (ka ja jb : Nat), (jb : Int) = 21 + a0.toInt → F_X7_rule 0 a0 c = c.1 ka ja → (¬ (F_X7_mayBeSet 0 a0 a1 c).toInt = 0 ↔ ¬ (F_X8_canBe 0 a0 a1 m).toInt = 0) → (¬ (F_X8_canBe 0 a0 a1 m).toInt = 0 → ((ka = 12 ∧ ja = 7 ∧ jb = 23 ∧ 0 ≤ a1.toInt ∧ (¬ (m.1 0 4).toInt = 0 → a1.toInt < (m.1 0 4).toInt)) ∨ (ka = 12 ∧ ja = 8 ∧ jb = 24) ∨ (ka = 12 ∧ ja = 9 ∧ jb = 25) ∨ (ka = 12 ∧ ja = 10 ∧ jb = 26) ∨ (ka = 17 ∧ ja = 3 ∧ jb = 27 ∧ 0 ≤ a1.toInt ∧ a1.toInt ≤ 99))) → (¬ (F_X7_mayBeSet 0 a0 a1 c).toInt = 0 → (r, u) = (F_X7_rule 0 a0 c, up1 c ka ja a1)) → r = r2 ∧ Sim u w := by
      intro ka ja jb hjb hru hmb hj hcc
      by_cases q : (F_X8_canBe 0 a0 a1 m).toInt = 0
      · have q2 : (F_X7_mayBeSet 0 a0 a1 c).toInt = 0 := Decidable.byContradiction (fun z => (hmb.mp z) q)
        rw [if_pos q2] at hC
        rw [if_pos q] at hM
        exact no hC hM
      · rw [if_neg q] at hM
        have hC2 := hcc (hmb.mpr q)
        rw [show ((23 : Int32) + a0 - 2).toNatClampNeg = jb by omega] at hM
        rw [hru] at hC2
        obtain ⟨hr, hu⟩ := Prod.mk.inj hC2
        obtain ⟨hr2, hw⟩ := Prod.mk.inj hM
        have := set1 h a1 (hj q)
        rw [hr, hr2, hu, hw]
        exact this
    have cb : F_X8_canBe 0 a0 a1 m = F_X8_canBe 0 a0 a1 m := rfl
    by_cases e2 : a0.toInt = 2
    · have ec : F_X8_canBe 0 a0 a1 m = F_X8_isWalker 0 a1 m := by simp only [F_X8_canBe, xl_d]; rw [if_pos e2]
      have em : F_X7_mayBeSet 0 a0 a1 c = F_X0_hasWalker 12 a1 c := by simp only [F_X7_mayBeSet, xl_d, Nat.reduceAdd]; rw [if_pos e2]
      refine key 12 7 23 (by omega) ?_ ?_ (fun q => ?_) (fun q => ?_)
      · simp only [F_X7_rule, xl_d, Nat.reduceAdd]; rw [if_neg (by omega), if_neg (by omega), if_pos e2]
      · rw [ec, em, hw, hwm]
      · rw [ec, hwm] at q; omega
      · rw [if_neg q, if_pos e2] at hC; exact hC
    · by_cases e3 : a0.toInt = 3
      · have ec : (F_X8_canBe 0 a0 a1 m).toInt = 0 ↔ ¬ (1 ≤ a1.toInt ∧ a1.toInt ≤ 40) := by simp only [F_X8_canBe, xl_d]; rw [if_neg e2, if_pos e3]; exact i3
        have em : (F_X7_mayBeSet 0 a0 a1 c).toInt = 0 ↔ ¬ (1 ≤ a1.toInt ∧ a1.toInt ≤ 40) := by
          simp only [F_X7_mayBeSet, xl_d, Nat.reduceAdd]; rw [if_neg e2, if_pos e3]
          repeat' split
          all_goals omega
        refine key 12 8 24 (by omega) ?_ (by rw [ec, em]) (fun q => by omega) (fun q => ?_)
        · simp only [F_X7_rule, xl_d, Nat.reduceAdd]; rw [if_neg (by omega), if_neg (by omega), if_neg e2, if_pos e3]
        · rw [if_neg q, if_neg e2, if_pos e3] at hC; exact hC
      · by_cases e4 : a0.toInt = 4
        · have ec : (F_X8_canBe 0 a0 a1 m).toInt = 0 ↔ ¬ (0 ≤ a1.toInt ∧ a1.toInt ≤ 9) := by simp only [F_X8_canBe, xl_d]; rw [if_neg e2, if_neg e3, if_pos e4]; exact i4
          have em : (F_X7_mayBeSet 0 a0 a1 c).toInt = 0 ↔ ¬ (0 ≤ a1.toInt ∧ a1.toInt ≤ 9) := by
            simp only [F_X7_mayBeSet, xl_d, Nat.reduceAdd]; rw [if_neg e2, if_neg e3, if_pos e4]
            repeat' split
            all_goals omega
          refine key 12 9 25 (by omega) ?_ (by rw [ec, em]) (fun q => by omega) (fun q => ?_)
          · simp only [F_X7_rule, xl_d, Nat.reduceAdd]; rw [if_neg (by omega), if_neg (by omega), if_neg e2, if_neg e3, if_pos e4]
          · rw [if_neg q, if_neg e2, if_neg e3, if_pos e4] at hC; exact hC
        · by_cases e5 : a0.toInt = 5
          · have ec : (F_X8_canBe 0 a0 a1 m).toInt = 0 ↔ ¬ (0 ≤ a1.toInt ∧ a1.toInt ≤ 10) := by simp only [F_X8_canBe, xl_d]; rw [if_neg e2, if_neg e3, if_neg e4, if_pos e5]; exact i5
            have em : (F_X7_mayBeSet 0 a0 a1 c).toInt = 0 ↔ ¬ (0 ≤ a1.toInt ∧ a1.toInt ≤ 10) := by
              simp only [F_X7_mayBeSet, xl_d, Nat.reduceAdd]; rw [if_neg e2, if_neg e3, if_neg e4, if_pos e5]
              repeat' split
              all_goals omega
            refine key 12 10 26 (by omega) ?_ (by rw [ec, em]) (fun q => by omega) (fun q => ?_)
            · simp only [F_X7_rule, xl_d, Nat.reduceAdd]; rw [if_neg (by omega), if_neg (by omega), if_neg e2, if_neg e3, if_neg e4, if_pos e5]
            · rw [if_neg q, if_neg e2, if_neg e3, if_neg e4, if_pos e5] at hC; exact hC
          · have e6 : a0.toInt = 6 := by omega
            have ec : (F_X8_canBe 0 a0 a1 m).toInt = 0 ↔ ¬ (0 ≤ a1.toInt ∧ a1.toInt ≤ 99) := by simp only [F_X8_canBe, xl_d]; rw [if_neg e2, if_neg e3, if_neg e4, if_neg e5, if_pos e6]; exact i6
            have em : (F_X7_mayBeSet 0 a0 a1 c).toInt = 0 ↔ ¬ (0 ≤ a1.toInt ∧ a1.toInt ≤ 99) := by
              simp only [F_X7_mayBeSet, xl_d, Nat.reduceAdd]; rw [if_neg e2, if_neg e3, if_neg e4, if_neg e5]
              repeat' split
              all_goals omega
            refine key 17 3 27 (by omega) ?_ (by rw [ec, em]) (fun q => ?_) (fun q => ?_)
            · simp only [F_X7_rule, xl_d, Nat.reduceAdd]; rw [if_neg (by omega), if_neg (by omega), if_neg e2, if_neg e3, if_neg e4, if_neg e5, if_pos e6]
            · rw [ec] at q; omega
            · rw [if_neg q, if_neg e2, if_neg e3, if_neg e4, if_neg e5] at hC; exact hC
  · have hc : (r, u) = (-1, c) := by
      by_cases q1 : a0.toInt < 2
      · rw [if_pos q1] at hC; exact hC
      · rw [if_neg q1, if_pos (by omega)] at hC; exact hC
    have hm : (F_X8_canBe 0 a0 a1 m).toInt = 0 := by
      simp only [F_X8_canBe, xl_d]
      rw [if_neg (by omega), if_neg (by omega), if_neg (by omega), if_neg (by omega), if_neg (by omega)]
      rfl
    rw [if_pos hm] at hM
    exact no hc hM
def wb (x s b : Int32) : Int32 := if b.toInt = 0 then x &&& (((1 : Int32) <<< (s &&& 31)) ^^^ (-1)) else x ||| ((1 : Int32) <<< (s &&& 31))
theorem wbC (x s b : Int32) (v : St) : F_X7_withBit x s b v = wb x s b := by
  simp only [F_X7_withBit, xl_d, wb]
theorem wb_a : ∀ k : Nat, k < 32 → ∀ s : Nat, s < 5 → ∀ b : Nat, b < 2 → 0 ≤ (wb (Int32.ofNat k) (Int32.ofNat s) (Int32.ofNat b)).toInt ∧ (wb (Int32.ofNat k) (Int32.ofNat s) (Int32.ofNat b)).toInt ≤ 31 := by decide +kernel
theorem wb_b : ∀ t : Nat, t < 6 → ∀ s : Nat, s < t → ∀ k : Nat, k < 2 ^ t → ∀ b : Nat, b < 2 → (wb (Int32.ofNat k) (Int32.ofNat s) (Int32.ofNat b)).toInt < ((2 ^ t : Nat) : Int) := by decide +kernel
theorem wb_c : ∀ k : Nat, k < 32 → ∀ s : Nat, s < 5 → ∀ b : Nat, b < 2 → ∀ i : Nat, i < 5 → ((wb (Int32.ofNat k) (Int32.ofNat s) (Int32.ofNat b)) >>> (Int32.ofNat i &&& 31)) &&& 1 = if i = s then Int32.ofNat b else (Int32.ofNat k >>> (Int32.ofNat i &&& 31)) &&& 1 := by decide +kernel
theorem wb_t (k : Nat) (hk : k < 32) (s : Nat) (hs : s < 5) (b : Nat) (hb : b < 2) : (0 ≤ (wb (Int32.ofNat k) (Int32.ofNat s) (Int32.ofNat b)).toInt ∧ (wb (Int32.ofNat k) (Int32.ofNat s) (Int32.ofNat b)).toInt ≤ 31) ∧ (∀ t : Nat, t < 6 → s < t → k < 2 ^ t → (wb (Int32.ofNat k) (Int32.ofNat s) (Int32.ofNat b)).toInt < ((2 ^ t : Nat) : Int)) ∧ ∀ i : Nat, i < 5 → ((wb (Int32.ofNat k) (Int32.ofNat s) (Int32.ofNat b)) >>> (Int32.ofNat i &&& 31)) &&& 1 = if i = s then Int32.ofNat b else (Int32.ofNat k >>> (Int32.ofNat i &&& 31)) &&& 1 := ⟨wb_a k hk s hs b hb, fun t ht h1 h2 => wb_b t ht s h1 k h2 b hb, fun i hi => wb_c k hk s hs b hb i hi⟩
theorem sim_know {c m : St} {r r2 : Int32} {u w : St} {a0 a1 : Int32} (h : Sim c m) (hC : (r, u) = F_X7_know 0 a0 a1 c) (hM : (r2, w) = F_X8_know 0 a0 a1 m) : r = r2 ∧ Sim u w := by
  have g := h.1
  have hs := hasSt 12 a0 c
  rw [g.1.1.1] at hs
  have hm := isStM (a := a0) g.1.1.2
  simp only [F_X7_know, onKn, wbC, xl_d, Nat.reduceAdd] at hC
  simp only [F_X8_know, F_X8_becomes, F_X8_flag, xl_d, xm_d, Nat.reduceAdd] at hM
  by_cases p : 0 ≤ a0.toInt ∧ a0.toInt < (m.1 0 3).toInt
  · rw [if_neg (fun z => hs.mp z p)] at hC
    rw [if_neg (fun z => hm.mp z p)] at hM
    have h5 := g.1.1.2
    have m4 : ((4 : Int32) * a0).toInt = 4 * a0.toInt := mlI rfl rfl (by omega) (by omega)
    have a3 : ((4 : Int32) * a0 + 3).toInt = 4 * a0.toInt + 3 := adI m4 rfl (by omega) (by omega)
    have n3 := cnI (x := (4 : Int32) * a0 + 3) (by omega)
    have n0 := cnI (x := a0) (by omega)
    obtain ⟨hr, hu⟩ := Prod.mk.inj hC
    obtain ⟨hr2, hw⟩ := Prod.mk.inj hM
    have ei : ((4 : Int32) * a0 + 3).toNatClampNeg = 0 + 4 * a0.toNatClampNeg + 3 := by omega
    rw [ei] at hr2 hw
    have ea : a0 = Int32.ofNat a0.toNatClampNeg := i32_of n0.symm (by omega)
    have gi := g.2.2.1.2 a0.toNatClampNeg (by omega)
    rw [← ea] at gi
    obtain ⟨b, hb, eb⟩ : ∃ b : Nat, b < 2 ∧ ∀ x s : Int32, wb x s a1 = wb x s (Int32.ofNat b) ∧ (if a1.toInt = 0 then (0 : Int32) else 1) = Int32.ofNat b := by
      by_cases z : a1.toInt = 0
      · exact ⟨0, by decide, fun x s => by unfold wb; rw [if_pos z, if_pos z, if_pos (by decide)]; exact ⟨rfl, rfl⟩⟩
      · exact ⟨1, by decide, fun x s => by unfold wb; rw [if_neg z, if_neg z, if_neg (by decide)]; exact ⟨rfl, rfl⟩⟩
    rw [(eb (c.1 12 4) a0).1] at hu
    rw [(eb 0 0).2] at hw
    obtain ⟨s1, s2⟩ := g.2.2.1
    obtain ⟨kn, hkn⟩ := Int.eq_ofNat_of_zero_le s1.1
    have t := wb_t kn (by omega) a0.toNatClampNeg (by omega) b hb
    rw [← ea, ← i32_of (x := c.1 12 4) hkn (by omega)] at t
    subst hr hr2 hu hw
    refine ⟨gi.2.2.2, ?_⟩
    have nc := nc_ (c := c) (k := 12) (j := 4) (x := wb (c.1 12 4) a0 (Int32.ofNat b))
    have nm := nm_ (m := m) (b := 0 + 4 * a0.toNatClampNeg + 3) (y := Int32.ofNat b)
    refine h.now (fun a b z => nc _ _ (by omega)) (fun a b z => nm _ _ (by omega)) ⟨g.1.fr (nc _ _ (by omega)) (nc _ _ (by omega)) (nm _ _ (by omega)) (nm _ _ (by omega)), g.2.1.fr (fun j _ _ => nc _ _ (by omega)) (fun j _ => nc _ _ (by omega)) (nm _ _ (by omega)) (fun b _ _ => nm _ _ (by omega)), ?_, g.2.2.2.1.fr (fun j => nc _ _ (by omega)) (nm _ _ (by omega)) (g.1.2.2.2) (fun b _ _ => nm _ _ (by omega)), g.2.2.2.2.1.fr (nc _ _ (by omega)) (fun j => nc _ _ (by omega)) (nm _ _ (by omega)) (fun b _ _ => nm _ _ (by omega)), g.2.2.2.2.2.fr (nc _ _ (by omega)) (fun j => ⟨nc _ _ (by omega), nc _ _ (by omega)⟩) (fun b _ _ => nm _ _ (by omega))⟩
    refine ⟨⟨by rw [up1_s]; exact t.1.1, by rw [up1_s]; exact t.1.2, fun s hs5 es => ?_⟩, fun i hi => ?_⟩
    · rw [nm 0 3 (by omega)] at es
      rw [up1_s]
      have := s1.2.2 s hs5 es
      exact t.2.1 s (by omega) (by omega) (by omega)
    · rw [nm 0 3 (by omega)] at hi
      have gj := s2 i hi
      rw [nc (12 + 1) i (by omega), nc (12 + 2) i (by omega), nc (12 + 3) i (by omega), nm 1 (0 + 4 * i) (by omega), nm 1 (0 + 4 * i + 1) (by omega), nm 1 (0 + 4 * i + 2) (by omega), up1_s, t.2.2 i (by omega)]
      refine ⟨gj.1, gj.2.1, gj.2.2.1, ?_⟩
      by_cases e : i = a0.toNatClampNeg
      · rw [if_pos e, e]
        exact (up1_s _ _ _ _).symm
      · rw [if_neg e, nm 1 (0 + 4 * i + 3) (by omega)]
        exact gj.2.2.2
  · rw [if_pos (hs.mpr p)] at hC
    rw [if_pos (hm.mpr p)] at hM
    exact ⟨by rw [(Prod.mk.inj hC).1, (Prod.mk.inj hM).1], by rw [(Prod.mk.inj hC).2, (Prod.mk.inj hM).2]; exact h⟩
/-! the tape -/
theorem by_t : ∀ n : Nat, n < 128 → vp_nar .byte (Int32.ofNat n).toInt8.toInt32 = Int32.ofNat n := by decide +kernel
theorem Sim.tape {c m c2 m2 : St} (h : Sim c m) (hc : ∀ a b : Nat, (a ≠ 1 ∧ a ≠ 2) → c2.1 a b = c.1 a b) (hm : ∀ a b : Nat, (a ≠ 5 ∧ (a ≠ 0 ∨ b ≠ 12)) → m2.1 a b = m.1 a b) (ht : Tp c2 m2) : Sim c2 m2 :=
  ⟨h.1.fr (hm _ _ (by omega)) (hm _ _ (by omega)) (fun b _ _ => hm _ _ (by omega)) (fun a b _ _ => hc _ _ (by omega)), h.2.1.fr (hm _ _ (by omega)) (hm _ _ (by omega)) (fun b _ => hm _ _ (by omega)) (fun b => hm _ _ (by omega)) (fun a b _ _ => hc _ _ (by omega)), ht, h.2.2.2.1.fr (fun a b _ _ => hc _ _ (by omega)) (fun a b _ => hm _ _ (by omega)), by rw [hc 0 10 (by omega), hm 0 29 (by omega)]; exact h.2.2.2.2⟩
theorem sim_feed {c m : St} {r r2 : Int32} {u w : St} {a0 : Int32} (h : Sim c m) (hC : (r, u) = F_X7_feed 0 a0 c) (hM : (r2, w) = F_X8_feed 0 a0 m) : r = r2 ∧ Sim u w := by
  have g := h.1
  have t := h.2.2.1
  have hi := inI (x := a0) (b := 0) (c := 127) (lo := 0) (hi := 127) m rfl rfl
  have c1 : (1 : Int32).toInt = 1 := rfl
  have c0 : (0 : Int32).toInt = 0 := rfl
  simp only [F_X7_feed, F_X5_addByte, xl_d, xm_d, Nat.reduceAdd] at hC
  simp only [F_X8_feed, xl_d, xm_d, Nat.reduceAdd] at hM
  rw [t.1.1] at hC
  by_cases p : 0 ≤ a0.toInt ∧ a0.toInt ≤ 127
  · rw [if_neg (by omega), if_neg (by omega)] at hC
    rw [if_neg (fun z => hi.mp z p)] at hM
    have tl := t.1.2
    by_cases q : (m.1 0 12).toInt = 160
    · rw [if_neg (show ¬ (m.1 0 12).toInt < 160 by omega), if_pos (show ((0 : Int32), c).1.toInt = 0 from rfl)] at hC
      rw [if_pos q] at hM
      exact ⟨by rw [(Prod.mk.inj hC).1, (Prod.mk.inj hM).1], by rw [(Prod.mk.inj hC).2, (Prod.mk.inj hM).2]; exact h⟩
    · obtain ⟨n, hn⟩ := Int.eq_ofNat_of_zero_le p.1
      have eb : vp_nar .byte a0.toInt8.toInt32 = a0 := by
        have := by_t n (by omega)
        rw [← i32_of (x := a0) hn (by omega)] at this
        exact this
      rw [if_pos (show (m.1 0 12).toInt < 160 by omega), eb, if_neg (show ¬ ((1 : Int32), up1 (up1 c 2 (m.1 0 12).toNatClampNeg a0) 1 1 (m.1 0 12 + 1)).1.toInt = 0 from (by decide : ¬ (1 : Int32).toInt = 0))] at hC
      simp only [up1_s] at hC
      rw [if_neg q, up1_s] at hM
      have n12 := cnI (x := m.1 0 12) (by omega)
      have e1 : (m.1 0 12 + 1).toInt = (m.1 0 12).toInt + 1 := adI rfl rfl (by omega) (by omega)
      obtain ⟨hr, hu⟩ := Prod.mk.inj hC
      obtain ⟨hr2, hw⟩ := Prod.mk.inj hM
      subst hr hr2 hu hw
      refine ⟨rfl, h.tape (fun a b z => by rw [up1_n _ _ (by omega), up1_n _ _ (by omega)]) (fun a b z => by rw [up1_n _ _ (by omega), up1_n _ _ (by omega)]) ⟨⟨by rw [up1_s, up1_s], by rw [up1_s]; omega, by rw [up1_s]; omega⟩, fun i hi => ?_⟩⟩
      rw [up1_s] at hi
      rw [up1_n (v := up1 c 2 (m.1 0 12).toNatClampNeg a0) _ (by omega), up1_n (v := up1 m 5 (m.1 0 12).toNatClampNeg a0) _ (by omega)]
      by_cases e : i = (m.1 0 12).toNatClampNeg
      · rw [e, up1_s, up1_s]
        exact ⟨rfl, p⟩
      · rw [up1_n _ _ (by omega), up1_n _ _ (by omega)]
        exact t.2 i (by omega)
  · rw [if_pos (hi.mpr p)] at hM
    have hC : (r, u) = (-1, c) := by
      by_cases q1 : a0.toInt < 0
      · rw [if_pos q1] at hC; exact hC
      · rw [if_neg q1, if_pos (by omega)] at hC; exact hC
    exact ⟨by rw [(Prod.mk.inj hC).1, (Prod.mk.inj hM).1], by rw [(Prod.mk.inj hC).2, (Prod.mk.inj hM).2]; exact h⟩
theorem sim_end {c m : St} {r r2 : Int32} {u w : St} {a0 : Int32} (h : Sim c m) (hC : (r, u) = F_X7_end 0 a0 c) (hM : (r2, w) = F_X8_end 0 a0 m) : r = r2 ∧ Sim u w := by
  have g := h.1
  have t := h.2.2.1
  have hi := inI (x := a0) (b := 0) (c := (m.1 0 12).toInt64) (lo := 0) (hi := (m.1 0 12).toInt) m rfl (i64_of _)
  simp only [F_X7_end, xl_d, Nat.reduceAdd] at hC
  simp only [F_X8_end, xl_d, Nat.reduceAdd] at hM
  rw [t.1.1] at hC
  by_cases p : 0 ≤ a0.toInt ∧ a0.toInt ≤ (m.1 0 12).toInt
  · rw [if_neg (by omega), if_neg (by omega)] at hC
    rw [if_neg (fun z => hi.mp z p)] at hM
    have tl := t.1.2
    obtain ⟨hr, hu⟩ := Prod.mk.inj hC
    obtain ⟨hr2, hw⟩ := Prod.mk.inj hM
    subst hr hr2 hu hw
    refine ⟨rfl, h.tape (fun a b z => up1_n _ _ (by omega)) (fun a b z => up1_n _ _ (by omega)) ⟨⟨by rw [up1_s, up1_s], by rw [up1_s]; omega, by rw [up1_s]; omega⟩, fun i hi => ?_⟩⟩
    rw [up1_s] at hi
    rw [up1_n _ _ (by omega), up1_n _ _ (by omega)]
    exact t.2 i (by omega)
  · rw [if_pos (hi.mpr p)] at hM
    have hC : (r, u) = (-1, c) := by
      by_cases q1 : a0.toInt < 0
      · rw [if_pos q1] at hC; exact hC
      · rw [if_neg q1, if_pos (by omega)] at hC; exact hC
    exact ⟨by rw [(Prod.mk.inj hC).1, (Prod.mk.inj hM).1], by rw [(Prod.mk.inj hC).2, (Prod.mk.inj hM).2]; exact h⟩
/-! images -/
theorem cpM {a b : Int32} {o p : Nat} (m : St) (ha : a.toInt = (o : Int)) (hb : b.toInt = (p : Int)) (h : o + 54 ≤ p ∨ p + 54 ≤ o) (ho : o ≤ 108) (hp : p ≤ 108) : (∀ j : Nat, j < 54 → (F_X8_copies 0 a b m).1 1 (o + j) = m.1 1 (p + j)) ∧ ∀ x y : Nat, (x ≠ 1 ∨ y < o ∨ o + 54 ≤ y) → (F_X8_copies 0 a b m).1 x y = m.1 x y := by
  have c0 : (0 : Int32).toInt = 0 := rfl
  generalize hu : F_X8_copies 0 a b m = u
  unfold F_X8_copies at hu
  obtain ⟨N, hN⟩ : ∃ N : Nat, N = (2147483647 - (0 : Int32).toInt).toNat := ⟨_, rfl⟩
  rw [← hN] at hu
  obtain ⟨P2, e2, hu⟩ := xl_e hu
  have Lp : ∀ (n : Nat) (y : Int32) (x : St), (2147483647 - y.toInt).toNat < n → 0 ≤ y.toInt → y.toInt ≤ 54 → (∀ j : Nat, (j : Int) < y.toInt → x.1 1 (o + j) = m.1 1 (p + j)) → (∀ s t : Nat, (s ≠ 1 ∨ t < o ∨ o + 54 ≤ t) → x.1 s t = m.1 s t) → (∀ j : Nat, j < 54 → (lp P2 (fun _ _ => m) n y x).1 1 (o + j) = m.1 1 (p + j)) ∧ ∀ s t : Nat, (s ≠ 1 ∨ t < o ∨ o + 54 ≤ t) → (lp P2 (fun _ _ => m) n y x).1 s t = m.1 s t := by
    intro n
    induction n with
    | zero => intro y x hm; exact absurd hm (Nat.not_lt_zero _)
    | succ n ih =>
      intro y x hm h0 h1 hz hf
      rw [lp_s]
      by_cases d : y.toInt < 54
      · have ey : (y + 1).toInt = y.toInt + 1 := adI rfl rfl (by omega) (by omega)
        have hcn := cnI (x := y) h0
        have ea : (a + y).toInt = (o : Int) + y.toInt := adI ha rfl (by omega) (by omega)
        have eb : (b + y).toInt = (p : Int) + y.toInt := adI hb rfl (by omega) (by omega)
        have na := cnI (x := a + y) (by omega)
        have nb := cnI (x := b + y) (by omega)
        have ep : P2 (lp P2 (fun _ _ => m) n) y x = lp P2 (fun _ _ => m) n (y + 1) (up1 x 1 (o + y.toNatClampNeg) (m.1 1 (p + y.toNatClampNeg))) := by
          generalize lp P2 (fun _ _ => m) n = sf
          rw [e2]
          simp only [xl_d, Nat.reduceAdd]
          rw [if_pos d, show (a + y).toNatClampNeg = o + y.toNatClampNeg by omega, show (b + y).toNatClampNeg = p + y.toNatClampNeg by omega, hf 1 (p + y.toNatClampNeg) (by omega)]
        rw [ep]
        refine ih (y + 1) _ (by omega) (by omega) (by omega) (fun j hj => ?_) (fun s t z => by rw [up1_n _ _ (by omega)]; exact hf s t z)
        by_cases e : j = y.toNatClampNeg
        · rw [e, up1_s]
        · rw [up1_n _ _ (by omega)]; exact hz j (by omega)
      · generalize lp P2 (fun _ _ => m) n = sf
        have ep : P2 sf y x = x := by
          rw [e2]
          simp only [xl_d, Nat.reduceAdd]
          rw [if_neg d]
        rw [ep]
        exact ⟨fun j hj => hz j (by omega), hf⟩
  rw [← hu]
  exact Lp (N + 1) 0 m (by rw [← hN]; exact Nat.lt_succ_self N) (by omega) (by omega) (fun j hj => by omega) (fun _ _ _ => rfl)
theorem sim_keep {c m : St} {r r2 : Int32} {u w : St} {a0 : Int32} (h : Sim c m) (hC : (r, u) = F_X7_keep 0 a0 c) (hM : (r2, w) = F_X8_keep 0 a0 m) : r = r2 ∧ Sim u w := by
  have g := h.1
  have hi := inI (x := a0) (b := 0) (c := 1) (lo := 0) (hi := 1) m rfl rfl
  have c1 : (1 : Int32).toInt = 1 := rfl
  have c0 : (0 : Int32).toInt = 0 := rfl
  simp only [F_X7_keep, F_X7_oneIf, xl_d, Nat.reduceAdd, nb1] at hC
  simp only [F_X8_keep, F_X8_flag, xl_d, Nat.reduceAdd, nb1] at hM
  by_cases p : 0 ≤ a0.toInt ∧ a0.toInt ≤ 1
  · rw [if_neg (by omega), if_pos (by omega)] at hC
    rw [if_neg (fun z => hi.mp z p)] at hM
    have n0 := cnI (x := a0) (by omega)
    have im := h.2.1 a0.toNatClampNeg (by omega)
    have e1 : (a0 + 1).toInt = a0.toInt + 1 := adI rfl rfl (by omega) (by omega)
    have e2 : ((54 : Int32) * (a0 + 1)).toInt = 54 * (a0.toInt + 1) := mlI rfl e1 (by omega) (by omega)
    have be := beN (62 + (3 + 9 * a0.toNatClampNeg)) 12 (by omega) c
    have cp := cpM (a := (54 : Int32) * (a0 + 1)) (b := 0) (o := 54 * (a0.toNatClampNeg + 1)) (p := 0) (up1 m 3 a0.toNatClampNeg 1) (by omega) rfl (by omega) (by omega) (by omega)
    generalize F_X0_become (62 + (3 + 9 * a0.toNatClampNeg)) 12 c = u7 at be hC
    generalize F_X8_copies 0 ((54 : Int32) * (a0 + 1)) 0 (up1 m 3 a0.toNatClampNeg 1) = u16 at cp hM
    obtain ⟨be1, be2, be3, be4, be5, be6, be7⟩ := be
    obtain ⟨cp1, cp2⟩ := cp
    obtain ⟨hr, hu⟩ := Prod.mk.inj hC
    obtain ⟨hr2, hw⟩ := Prod.mk.inj hM
    have nu : ∀ a b : Nat, (a ≠ 63 ∨ b ≠ a0.toNatClampNeg) → u.1 a b = u7.1 a b := fun a b z => by rw [hu, up1_n _ _ (by omega)]
    have fc : ∀ a b : Nat, (a < 62 + (3 + 9 * a0.toNatClampNeg) ∨ 62 + (3 + 9 * a0.toNatClampNeg) + 9 ≤ a) → (a ≠ 63 ∨ b ≠ a0.toNatClampNeg) → u.1 a b = c.1 a b := fun a b z1 z2 => by rw [nu a b z2, be7 a b z1]
    have fm : ∀ a b : Nat, (a ≠ 1 ∨ b < 54 * (a0.toNatClampNeg + 1) ∨ 54 * (a0.toNatClampNeg + 1) + 54 ≤ b) → (a ≠ 3 ∨ b ≠ a0.toNatClampNeg) → w.1 a b = m.1 a b := fun a b z1 z2 => by rw [hw, cp2 a b z1, up1_n _ _ (by omega)]
    have w1 : ∀ j : Nat, j < 54 → w.1 1 (54 * (a0.toNatClampNeg + 1) + j) = m.1 1 (0 + j) := fun j hj => by rw [hw, cp1 j hj, up1_n _ _ (by omega)]
    have w3 : w.1 3 a0.toNatClampNeg = 1 := by rw [hw, cp2 3 _ (by omega), up1_s]
    have u63 : u.1 63 a0.toNatClampNeg = 1 := by rw [hu, up1_s]
    refine ⟨by rw [hr, hr2, im.1], ?_, ?_, ?_, ?_, ?_⟩
    · exact g.fr (fm _ _ (by omega) (by omega)) (fm _ _ (by omega) (by omega)) (fun b _ _ => fm _ _ (by omega) (by omega)) (fun a b _ _ => fc _ _ (by omega) (by omega))
    · intro i hi2
      by_cases e : i = a0.toNatClampNeg
      · subst e
        rw [u63, w3]
        refine ⟨rfl, Or.inr c1, fun _ => ?_⟩
        have ek : 62 + (3 + 9 * a0.toNatClampNeg) = 65 + 9 * a0.toNatClampNeg := by omega
        rw [ek] at be1 be2 be3 be4 be5 be6
        exact g.mv (fm _ _ (by omega) (by omega)) (fm _ _ (by omega) (by omega)) w1 (fun j z => by rw [nu _ _ (by omega)]; exact be1 j z) (fun j z => by rw [nu _ _ (by omega)]; exact be2 j z) (fun j z => by rw [nu _ _ (by omega), nu _ _ (by omega), nu _ _ (by omega)]; exact be3 j z) (fun j z => by rw [nu _ _ (by omega)]; exact be4 j z) (fun j z => by rw [nu _ _ (by omega)]; exact be5 j z) (fun j z => by rw [nu _ _ (by omega), nu _ _ (by omega)]; exact be6 j z)
      · have im2 := h.2.1 i hi2
        rw [fc 63 i (by omega) (by omega), fm 3 i (by omega) (by omega)]
        exact ⟨im2.1, im2.2.1, fun z => (im2.2.2 z).fr (fm _ _ (by omega) (by omega)) (fm _ _ (by omega) (by omega)) (fun b _ _ => fm _ _ (by omega) (by omega)) (fun a b _ _ => fc _ _ (by omega) (by omega))⟩
    · exact h.2.2.1.fr (fc _ _ (by omega) (by omega)) (fun b => fc _ _ (by omega) (by omega)) (fm _ _ (by omega) (by omega)) (fun b => fm _ _ (by omega) (by omega))
    · exact h.2.2.2.1.fr (fun a b _ _ => fc _ _ (by omega) (by omega)) (fun a b _ => fm _ _ (by omega) (by omega))
    · rw [fc 0 10 (by omega) (by omega), fm 0 29 (by omega) (by omega)]; exact h.2.2.2.2
  · rw [if_pos (hi.mpr p)] at hM
    have hC : (r, u) = (-1, c) := by
      by_cases q1 : a0.toInt < 0
      · rw [if_pos q1] at hC; exact hC
      · rw [if_neg q1, if_neg (by omega)] at hC; exact hC
    exact ⟨by rw [(Prod.mk.inj hC).1, (Prod.mk.inj hM).1], by rw [(Prod.mk.inj hC).2, (Prod.mk.inj hM).2]; exact h⟩
theorem sim_back {c m : St} {r r2 : Int32} {u w : St} {a0 : Int32} (h : Sim c m) (hC : (r, u) = F_X7_back 0 a0 c) (hM : (r2, w) = F_X8_back 0 a0 m) : r = r2 ∧ Sim u w := by
  have g := h.1
  have hi := inI (x := a0) (b := 0) (c := 1) (lo := 0) (hi := 1) m rfl rfl
  have c1 : (1 : Int32).toInt = 1 := rfl
  have c0 : (0 : Int32).toInt = 0 := rfl
  simp only [F_X7_back, xl_d, Nat.reduceAdd] at hC
  simp only [F_X8_back, xl_d, Nat.reduceAdd, cn29] at hM
  by_cases p : 0 ≤ a0.toInt ∧ a0.toInt ≤ 1
  · rw [if_neg (by omega), if_pos (by omega)] at hC
    rw [if_neg (fun z => hi.mp z p)] at hM
    have n0 := cnI (x := a0) (by omega)
    have im := h.2.1 a0.toNatClampNeg (by omega)
    rw [im.1] at hC
    by_cases q : (m.1 3 a0.toNatClampNeg).toInt = 0
    · rw [if_pos q] at hC hM
      exact ⟨by rw [(Prod.mk.inj hC).1, (Prod.mk.inj hM).1], by rw [(Prod.mk.inj hC).2, (Prod.mk.inj hM).2]; exact h⟩
    · rw [if_neg q] at hC hM
      have gI := im.2.2 (by omega)
      have e1 : (a0 + 1).toInt = a0.toInt + 1 := adI rfl rfl (by omega) (by omega)
      have e2 : ((54 : Int32) * (a0 + 1)).toInt = 54 * (a0.toInt + 1) := mlI rfl e1 (by omega) (by omega)
      have be := beN 12 (62 + (3 + 9 * a0.toNatClampNeg)) (by omega) c
      have cp := cpM (a := 0) (b := (54 : Int32) * (a0 + 1)) (o := 0) (p := 54 * (a0.toNatClampNeg + 1)) m rfl (by omega) (by omega) (by omega) (by omega)
      generalize F_X0_become 12 (62 + (3 + 9 * a0.toNatClampNeg)) c = u7 at be hC
      generalize F_X8_copies 0 0 ((54 : Int32) * (a0 + 1)) m = u16 at cp hM
      obtain ⟨be1, be2, be3, be4, be5, be6, be7⟩ := be
      obtain ⟨cp1, cp2⟩ := cp
      obtain ⟨hr, hu⟩ := Prod.mk.inj hC
      obtain ⟨hr2, hw⟩ := Prod.mk.inj hM
      have ek : 62 + (3 + 9 * a0.toNatClampNeg) = 65 + 9 * a0.toNatClampNeg := by omega
      rw [ek] at be1 be2 be3 be4 be5 be6
      have nN : NR 12 0 u7 u16 := gI.mv (cp2 _ _ (by omega)) (cp2 _ _ (by omega)) cp1 be1 be2 be3 be4 be5 be6
      refine ⟨?_, ?_⟩
      · rw [hr, hr2]; exact nN.2.1.2.2.2.2.2.2.1.1
      · rw [hu, hw]
        exact h.now (fun a b z => be7 a b (by omega)) (fun a b z => cp2 a b (by omega)) nN
  · rw [if_pos (hi.mpr p)] at hM
    have hC : (r, u) = (-1, c) := by
      by_cases q1 : a0.toInt < 0
      · rw [if_pos q1] at hC; exact hC
      · rw [if_neg q1, if_neg (by omega)] at hC; exact hC
    exact ⟨by rw [(Prod.mk.inj hC).1, (Prod.mk.inj hM).1], by rw [(Prod.mk.inj hC).2, (Prod.mk.inj hM).2]; exact h⟩
/-! sheets -/
theorem Sim.shts {c m c2 m2 : St} (h : Sim c m) (hc : ∀ a b : Nat, (a < 83 ∨ 91 ≤ a) → c2.1 a b = c.1 a b) (hm : ∀ a b : Nat, (a < 6 ∨ 8 < a) → m2.1 a b = m.1 a b) (hs : Sh c2 m2) : Sim c2 m2 :=
  ⟨h.1.fr (hm _ _ (by omega)) (hm _ _ (by omega)) (fun b _ _ => hm _ _ (by omega)) (fun a b _ _ => hc _ _ (by omega)), h.2.1.fr (hm _ _ (by omega)) (hm _ _ (by omega)) (fun b _ => hm _ _ (by omega)) (fun b => hm _ _ (by omega)) (fun a b _ _ => hc _ _ (by omega)), h.2.2.1.fr (hc _ _ (by omega)) (fun b => hc _ _ (by omega)) (hm _ _ (by omega)) (fun b => hm _ _ (by omega)), hs, by rw [hc 0 10 (by omega), hm 0 29 (by omega)]; exact h.2.2.2.2⟩
theorem rnC (k : Nat) (a b : Int32) (c : St) : (F_X4_renew k a b c).1 k 0 = a ∧ (F_X4_renew k a b c).1 k 1 = b ∧ (∀ j : Nat, j < 40 → (F_X4_renew k a b c).1 (k + 1) j = 0) ∧ ∀ s t : Nat, (s ≠ k + 1 ∧ (s ≠ k ∨ 2 ≤ t)) → (F_X4_renew k a b c).1 s t = c.1 s t := by
  have c0 : (0 : Int32).toInt = 0 := rfl
  generalize hu : F_X4_renew k a b c = u
  unfold F_X4_renew at hu
  obtain ⟨N, hN⟩ : ∃ N : Nat, N = (2147483647 - (0 : Int32).toInt).toNat := ⟨_, rfl⟩
  rw [← hN] at hu
  obtain ⟨P, eP, hu⟩ := xl_e hu
  simp only [xl_d] at hu
  have Lp : ∀ (n : Nat) (y : Int32) (x : St), (2147483647 - y.toInt).toNat < n → 0 ≤ y.toInt → y.toInt ≤ 40 → (∀ j : Nat, (j : Int) < y.toInt → x.1 (k + 1) j = 0) → (∀ j : Nat, j < 40 → (lp P (fun _ _ => c) n y x).1 (k + 1) j = 0) ∧ ∀ s t : Nat, s ≠ k + 1 → (lp P (fun _ _ => c) n y x).1 s t = x.1 s t := by
    intro n
    induction n with
    | zero => intro y x hm; exact absurd hm (Nat.not_lt_zero _)
    | succ n ih =>
      intro y x hm h0 h1 hz
      rw [lp_s]
      by_cases d : y.toInt < 40
      · have ey : (y + 1).toInt = y.toInt + 1 := adI rfl rfl (by omega) (by omega)
        have hcn := cnI (x := y) h0
        have ep : P (lp P (fun _ _ => c) n) y x = lp P (fun _ _ => c) n (y + 1) (up1 x (k + 1) y.toNatClampNeg 0) := by
          generalize lp P (fun _ _ => c) n = sf
          rw [eP]
          simp only [xl_d]
          rw [if_pos d]
        rw [ep]
        have q := ih (y + 1) (up1 x (k + 1) y.toNatClampNeg 0) (by omega) (by omega) (by omega) (fun j hj => by
          by_cases e : j = y.toNatClampNeg
          · rw [e, up1_s]
          · rw [up1_n _ _ (by omega)]; exact hz j (by omega))
        exact ⟨q.1, fun s t z => by rw [q.2 s t z, up1_n _ _ (by omega)]⟩
      · generalize lp P (fun _ _ => c) n = sf
        have ep : P sf y x = x := by
          rw [eP]
          simp only [xl_d]
          rw [if_neg d]
        rw [ep]
        exact ⟨fun j hj => hz j (by omega), fun _ _ _ => rfl⟩
  have q := Lp (N + 1) 0 (up1 (up1 c k 0 a) k 1 b) (by rw [← hN]; exact Nat.lt_succ_self N) (by omega) (by omega) (fun j hj => by omega)
  rw [hu] at q
  refine ⟨?_, ?_, q.1, fun s t z => ?_⟩
  · rw [q.2 k 0 (by omega), up1_n _ _ (by omega), up1_s]
  · rw [q.2 k 1 (by omega), up1_s]
  · rw [q.2 s t z.1, up1_n _ _ (by omega), up1_n _ _ (by omega)]
theorem sim_sheet {c m : St} {r r2 : Int32} {u w : St} {a0 a1 a2 : Int32} (h : Sim c m) (hC : (r, u) = F_X7_sheet 0 a0 a1 a2 c) (hM : (r2, w) = F_X8_sheet 0 a0 a1 a2 m) : r = r2 ∧ Sim u w := by
  have g := h.1
  have c1 : (1 : Int32).toInt = 1 := rfl
  have c0 : (0 : Int32).toInt = 0 := rfl
  simp only [F_X7_sheet, xl_d, Nat.reduceAdd] at hC
  generalize hmm : F_X8_sheet 0 a0 a1 a2 m = mm at hM
  unfold F_X8_sheet at hmm
  obtain ⟨N, hN⟩ : ∃ N : Nat, N = (2147483647 - (0 : Int32).toInt).toNat := ⟨_, rfl⟩
  rw [← hN] at hmm
  obtain ⟨P, eP, hmm⟩ := xl_e hmm
  simp only [xl_d, Nat.reduceAdd] at hmm
  by_cases p : (0 ≤ a0.toInt ∧ a0.toInt ≤ 3) ∧ (0 ≤ a1.toInt ∧ a1.toInt ≤ 2)
  · rw [if_neg (fun z => isShC.mp z p.1), if_neg (fun z => isLaC.mp z p.2)] at hC
    rw [if_neg (fun z => isShM.mp z p)] at hmm
    by_cases q1 : 40 < a2.toInt
    · rw [if_pos q1] at hC hmm
      rw [← hmm] at hM
      exact ⟨by rw [(Prod.mk.inj hC).1, (Prod.mk.inj hM).1], by rw [(Prod.mk.inj hC).2, (Prod.mk.inj hM).2]; exact h⟩
    · rw [if_neg q1] at hC hmm
      by_cases q2 : a2.toInt < 0
      · rw [if_pos q2] at hC hmm
        rw [← hmm] at hM
        exact ⟨by rw [(Prod.mk.inj hC).1, (Prod.mk.inj hM).1], by rw [(Prod.mk.inj hC).2, (Prod.mk.inj hM).2]; exact h⟩
      · rw [if_neg q2] at hC hmm
        have n0 := cnI (x := a0) (by omega)
        have rn := rnC (64 + (19 + 2 * a0.toNatClampNeg)) a1 a2 c
        generalize F_X4_renew (64 + (19 + 2 * a0.toNatClampNeg)) a1 a2 c = u11 at rn hC
        obtain ⟨rn1, rn2, rn3, rn4⟩ := rn
        have Lp : ∀ (n : Nat) (y : Int32) (x : St), (2147483647 - y.toInt).toNat < n → 0 ≤ y.toInt → y.toInt ≤ 40 → (∀ j : Nat, (j : Int) < y.toInt → x.1 8 (40 * a0.toNatClampNeg + j) = 0) → (lp P (fun _ _ => ((0 : Int32), m)) n y x).1 = 1 ∧ (∀ j : Nat, j < 40 → (lp P (fun _ _ => ((0 : Int32), m)) n y x).2.1 8 (40 * a0.toNatClampNeg + j) = 0) ∧ ∀ s t : Nat, (s ≠ 8 ∨ t < 40 * a0.toNatClampNeg ∨ 40 * a0.toNatClampNeg + 40 ≤ t) → (lp P (fun _ _ => ((0 : Int32), m)) n y x).2.1 s t = x.1 s t := by
          intro n
          induction n with
          | zero => intro y x hm; exact absurd hm (Nat.not_lt_zero _)
          | succ n ih =>
            intro y x hm h0 h1 hz
            rw [lp_s]
            by_cases d : y.toInt < 40
            · have ey : (y + 1).toInt = y.toInt + 1 := adI rfl rfl (by omega) (by omega)
              have hcn := cnI (x := y) h0
              have m40 : ((40 : Int32) * a0).toInt = 40 * a0.toInt := mlI rfl rfl (by omega) (by omega)
              have a40 : ((40 : Int32) * a0 + y).toInt = 40 * a0.toInt + y.toInt := adI m40 rfl (by omega) (by omega)
              have n40 := cnI (x := (40 : Int32) * a0 + y) (by omega)
              have ep : P (lp P (fun _ _ => ((0 : Int32), m)) n) y x = lp P (fun _ _ => ((0 : Int32), m)) n (y + 1) (up1 x 8 (40 * a0.toNatClampNeg + y.toNatClampNeg) 0) := by
                generalize lp P (fun _ _ => ((0 : Int32), m)) n = sf
                rw [eP]
                simp only [xl_d, Nat.reduceAdd]
                rw [if_pos d, show ((40 : Int32) * a0 + y).toNatClampNeg = 40 * a0.toNatClampNeg + y.toNatClampNeg by omega]
              rw [ep]
              have q := ih (y + 1) (up1 x 8 (40 * a0.toNatClampNeg + y.toNatClampNeg) 0) (by omega) (by omega) (by omega) (fun j hj => by
                by_cases e : j = y.toNatClampNeg
                · rw [e, up1_s]
                · rw [up1_n _ _ (by omega)]; exact hz j (by omega))
              exact ⟨q.1, q.2.1, fun s t z => by rw [q.2.2 s t z, up1_n _ _ (by omega)]⟩
            · generalize lp P (fun _ _ => ((0 : Int32), m)) n = sf
              have ep : P sf y x = (1, x) := by
                rw [eP]
                simp only [xl_d, Nat.reduceAdd]
                rw [if_neg d]
              rw [ep]
              exact ⟨rfl, fun j hj => hz j (by omega), fun _ _ _ => rfl⟩
        have q := Lp (N + 1) 0 (up1 (up1 m 6 a0.toNatClampNeg a1) 7 a0.toNatClampNeg a2) (by rw [← hN]; exact Nat.lt_succ_self N) (by omega) (by omega) (fun j hj => by omega)
        rw [hmm, ← hM] at q
        obtain ⟨qr, qz, qf⟩ := q
        simp only at qr qz qf
        obtain ⟨hr, hu⟩ := Prod.mk.inj hC
        rw [hr, qr]
        refine ⟨rfl, ?_⟩
        rw [hu]
        refine h.shts (fun a b z => rn4 a b (by omega)) (fun a b z => by rw [qf a b (by omega), up1_n _ _ (by omega), up1_n _ _ (by omega)]) (fun s hs => ?_)
        by_cases e : s = a0.toNatClampNeg
        · subst e
          have e83 : 64 + (19 + 2 * a0.toNatClampNeg) = 83 + 2 * a0.toNatClampNeg := by omega
          rw [e83] at rn1 rn2 rn3
          have w6 : w.1 6 a0.toNatClampNeg = a1 := by rw [qf 6 _ (by omega), up1_n _ _ (by omega), up1_s]
          have w7 : w.1 7 a0.toNatClampNeg = a2 := by rw [qf 7 _ (by omega), up1_s]
          rw [rn1, rn2, w6, w7]
          refine ⟨Or.inr ⟨rfl, p.2⟩, ⟨rfl, by omega, by omega⟩, fun i hi => ?_⟩
          rw [show 84 + 2 * a0.toNatClampNeg = 83 + 2 * a0.toNatClampNeg + 1 by omega, rn3 i hi, qz i hi]
        · have hh := h.2.2.2.1 s hs
          rw [rn4 (83 + 2 * s) 0 (by omega), rn4 (83 + 2 * s) 1 (by omega), qf 6 s (by omega), qf 7 s (by omega), up1_n _ _ (by omega), up1_n _ _ (by omega), up1_n _ _ (by omega), up1_n _ _ (by omega)]
          refine ⟨hh.1, hh.2.1, fun i hi => ?_⟩
          rw [rn4 (84 + 2 * s) i (by omega), qf 8 _ (by omega), up1_n _ _ (by omega), up1_n _ _ (by omega)]
          exact hh.2.2 i hi
  · rw [if_pos (isShM.mpr p)] at hmm
    rw [← hmm] at hM
    have hC : (r, u) = (-1, c) := by
      by_cases q1 : 0 ≤ a0.toInt ∧ a0.toInt ≤ 3
      · rw [if_neg (fun z => isShC.mp z q1), if_pos (isLaC.mpr (fun z => p ⟨q1, z⟩))] at hC; exact hC
      · rw [if_pos (isShC.mpr q1)] at hC; exact hC
    exact ⟨by rw [(Prod.mk.inj hC).1, (Prod.mk.inj hM).1], by rw [(Prod.mk.inj hC).2, (Prod.mk.inj hM).2]; exact h⟩
theorem sim_lay {c m : St} {r r2 : Int32} {u w : St} {a0 a1 a2 : Int32} (h : Sim c m) (hC : (r, u) = F_X7_lay 0 a0 a1 a2 c) (hM : (r2, w) = F_X8_lay 0 a0 a1 a2 m) : r = r2 ∧ Sim u w := by
  have g := h.1
  have c1 : (1 : Int32).toInt = 1 := rfl
  have c0 : (0 : Int32).toInt = 0 := rfl
  simp only [F_X7_lay, F_X4_tearAt, F_X4_lowest, xl_d, Nat.reduceAdd] at hC
  simp only [F_X8_lay, xl_d, Nat.reduceAdd] at hM
  by_cases p : 0 ≤ a0.toInt ∧ a0.toInt ≤ 3
  · rw [if_neg (fun z => isShC.mp z p)] at hC
    rw [if_neg (fun z => isShM.mp z ⟨p, by omega⟩)] at hM
    have n0 := cnI (x := a0) (by omega)
    have hh := h.2.2.2.1 a0.toNatClampNeg (by omega)
    have e83 : 64 + (19 + 2 * a0.toNatClampNeg) = 83 + 2 * a0.toNatClampNeg := by omega
    rw [e83] at hC
    rcases hh.1 with hx | hx
    · rw [if_pos (show (c.1 (83 + 2 * a0.toNatClampNeg) 0).toInt = -1 from hx.1), if_neg (by decide)] at hC
      rw [if_pos hx.2] at hM
      exact ⟨by rw [(Prod.mk.inj hC).1, (Prod.mk.inj hM).1]; rfl, by rw [(Prod.mk.inj hC).2, (Prod.mk.inj hM).2]; exact h⟩
    · have hs := hh.2.1
      rw [hx.1, hs.1] at hC
      rw [if_neg (show ¬ (m.1 6 a0.toNatClampNeg).toInt = -1 by omega), if_pos trivial] at hC
      rw [if_neg (show ¬ (m.1 6 a0.toNatClampNeg).toInt = -4 by omega)] at hM
      have e1 : (m.1 7 a0.toNatClampNeg - 1).toInt = (m.1 7 a0.toNatClampNeg).toInt - 1 := sbI rfl rfl (by omega) (by omega)
      have hi := inI (x := a1) (b := 0) (c := (m.1 7 a0.toNatClampNeg - 1).toInt64) (lo := 0) (hi := (m.1 7 a0.toNatClampNeg).toInt - 1) m rfl (by rw [i64_of, e1])
      by_cases q : 0 ≤ a1.toInt ∧ a1.toInt < (m.1 7 a0.toNatClampNeg).toInt
      · rw [if_neg (show ¬ a1.toInt < 0 by omega), if_pos q.2, if_pos c0] at hC
        rw [if_neg (fun z => hi.mp z (by omega))] at hM
        have n1 := cnI (x := a1) (by omega)
        have m40 : ((40 : Int32) * a0).toInt = 40 * a0.toInt := mlI rfl rfl (by omega) (by omega)
        have a40 : ((40 : Int32) * a0 + a1).toInt = 40 * a0.toInt + a1.toInt := adI m40 rfl (by omega) (by omega)
        have n40 := cnI (x := (40 : Int32) * a0 + a1) (by omega)
        rw [show ((40 : Int32) * a0 + a1).toNatClampNeg = 40 * a0.toNatClampNeg + a1.toNatClampNeg by omega] at hM
        obtain ⟨v, hv1, hv2⟩ : ∃ v : Int32, (r, u) = (1, up1 c (83 + 2 * a0.toNatClampNeg + 1) a1.toNatClampNeg v) ∧ (r2, w) = (1, up1 m 8 (40 * a0.toNatClampNeg + a1.toNatClampNeg) v) := by
          by_cases z0 : (m.1 6 a0.toNatClampNeg).toInt = 0
          · rw [if_pos z0] at hC hM; exact ⟨_, hC, hM⟩
          · rw [if_neg z0] at hC hM
            by_cases z1 : (m.1 6 a0.toNatClampNeg).toInt = 1
            · rw [if_pos z1] at hC hM; exact ⟨_, hC, hM⟩
            · rw [if_neg z1] at hC hM; exact ⟨_, hC, hM⟩
        obtain ⟨hr, hu⟩ := Prod.mk.inj hv1
        obtain ⟨hr2, hw⟩ := Prod.mk.inj hv2
        subst hr hr2 hu hw
        refine ⟨rfl, h.shts (fun a b z => up1_n _ _ (by omega)) (fun a b z => up1_n _ _ (by omega)) (fun s hs2 => ?_)⟩
        have hj := h.2.2.2.1 s hs2
        rw [up1_n _ _ (by omega), up1_n _ _ (by omega), up1_n _ _ (by omega), up1_n _ _ (by omega)]
        refine ⟨hj.1, hj.2.1, fun i hi2 => ?_⟩
        by_cases e : s = a0.toNatClampNeg ∧ i = a1.toNatClampNeg
        · obtain ⟨rfl, rfl⟩ := e
          rw [show 84 + 2 * a0.toNatClampNeg = 83 + 2 * a0.toNatClampNeg + 1 by omega, up1_s, up1_s]
        · rw [up1_n _ _ (by omega), up1_n _ _ (by omega)]
          exact hj.2.2 i hi2
      · rw [if_pos (hi.mpr (by omega))] at hM
        have hC : (r, u) = ((-10 : Int32) - 2, c) := by
          by_cases z : a1.toInt < 0
          · rw [if_pos z, if_neg (by decide)] at hC; exact hC
          · rw [if_neg z, if_neg (show ¬ a1.toInt < (m.1 7 a0.toNatClampNeg).toInt by omega), if_neg (by decide)] at hC; exact hC
        exact ⟨by rw [(Prod.mk.inj hC).1, (Prod.mk.inj hM).1]; rfl, by rw [(Prod.mk.inj hC).2, (Prod.mk.inj hM).2]; exact h⟩
  · rw [if_pos (isShC.mpr p)] at hC
    rw [if_pos (isShM.mpr (fun z => p z.1))] at hM
    exact ⟨by rw [(Prod.mk.inj hC).1, (Prod.mk.inj hM).1], by rw [(Prod.mk.inj hC).2, (Prod.mk.inj hM).2]; exact h⟩
/-! a step -/
def v0 : St := (fun _ _ => 0, fun _ _ => 0)
theorem pk_v (a b : Int32) (v : St) : F_X0_pullOfKind a b v = F_X0_pullOfKind a b v0 := by simp only [F_X0_pullOfKind, xl_d]
theorem pm_v (a b : Int32) (v : St) : F_X8_pullOf a b v = F_X8_pullOf a b v0 := by simp only [F_X8_pullOf, xl_d]
theorem pk_t : ∀ k : Nat, k < 4 → ∀ h : Nat, h < 11 → F_X0_pullOfKind (Int32.ofNat k) (Int32.ofNat h) v0 = F_X8_pullOf (Int32.ofNat k) (Int32.ofNat h) v0 ∧ 0 ≤ (F_X8_pullOf (Int32.ofNat k) (Int32.ofNat h) v0).toInt ∧ (F_X8_pullOf (Int32.ofNat k) (Int32.ofNat h) v0).toInt ≤ 10 := by decide +kernel
/-- a night of the class, a place of it, and the row `at` of the reference -/
def AtR (k p : Nat) (c m : St) : Prop := ((c.1 k 3 = m.1 0 3 ∧ 0 ≤ (m.1 0 3).toInt ∧ (m.1 0 3).toInt ≤ 5) ∧ (c.1 k 6 = m.1 0 4 ∧ 0 ≤ (m.1 0 4).toInt ∧ (m.1 0 4).toInt ≤ 3)) ∧ ((c.1 k 7 = m.1 2 23 ∧ 0 ≤ (m.1 2 23).toInt ∧ (¬ (m.1 0 4).toInt = 0 → (m.1 2 23).toInt < (m.1 0 4).toInt)) ∧ c.1 k 10 = m.1 2 26 ∧ c.1 k 11 = m.1 2 28) ∧ (∀ i : Nat, (i : Int) < (m.1 0 3).toInt → c.1 (k + 1) i = m.1 2 (4 * i) ∧ c.1 (k + 2) i = m.1 2 (4 * i + 1) ∧ (c.1 (k + 3) i = m.1 2 (4 * i + 2) ∧ 0 ≤ (m.1 2 (4 * i + 2)).toInt ∧ (m.1 2 (4 * i + 2)).toInt ≤ 6) ∧ (c.1 k 4 >>> (Int32.ofNat i &&& 31)) &&& 1 = m.1 2 (4 * i + 3)) ∧ (∀ i : Nat, (i : Int) < (m.1 0 4).toInt → c.1 (k + 4) i = m.1 2 (20 + i) ∧ 0 ≤ (m.1 2 (20 + i)).toInt ∧ (m.1 2 (20 + i)).toInt ≤ 3) ∧ ((c.1 p 3 = m.1 2 27 ∧ 0 ≤ (m.1 2 27).toInt ∧ (m.1 2 27).toInt ≤ 99) ∧ (c.1 p 0 = m.1 2 29 ∧ 0 ≤ (m.1 2 29).toInt ∧ (m.1 2 29).toInt ≤ 10) ∧ (c.1 p 1 = m.1 2 30 ∧ 0 ≤ (m.1 2 30).toInt ∧ (m.1 2 30).toInt ≤ 3 * (m.1 2 29).toInt) ∧ c.1 p 2 = m.1 2 31 ∧ -30 * (m.1 2 29).toInt ≤ (m.1 2 31).toInt ∧ (m.1 2 31).toInt ≤ 30 * (m.1 2 29).toInt)
theorem AtR.pull {k p : Nat} {c m : St} (h : AtR k p c m) {a : Int32} (ha : 0 ≤ a.toInt ∧ a.toInt ≤ 10) : F_X0_pullOfRow k a c = F_X8_pullNow 0 a m ∧ 0 ≤ (F_X8_pullNow 0 a m).toInt ∧ (F_X8_pullNow 0 a m).toInt ≤ 10 := by
  obtain ⟨⟨-, w1⟩, ⟨f1, -⟩, -, hw, -⟩ := h
  have c0 : (0 : Int32).toInt = 0 := rfl
  have hk := hasWk k (c.1 k 7) c
  rw [w1.1, f1.1] at hk
  simp only [F_X0_pullOfRow, F_X8_pullNow, xl_d, Nat.reduceAdd, cn23]
  rw [w1.1, f1.1]
  by_cases z : (m.1 0 4).toInt = 0
  · rw [if_pos (hk.mpr (by omega)), if_pos z]
    exact ⟨rfl, by omega, by omega⟩
  · have f2 := f1.2.2 z
    rw [if_neg (fun y => hk.mp y ⟨f1.2.1, f2⟩), if_neg z]
    have n23 := cnI (x := m.1 2 23) f1.2.1
    have e20 : ((20 : Int32) + m.1 2 23).toInt = 20 + (m.1 2 23).toInt := adI rfl rfl (by omega) (by omega)
    have n20 := cnI (x := (20 : Int32) + m.1 2 23) (by omega)
    have q := hw (m.1 2 23).toNatClampNeg (by omega)
    rw [q.1, show ((20 : Int32) + m.1 2 23).toNatClampNeg = 20 + (m.1 2 23).toNatClampNeg by omega, pk_v, pm_v]
    obtain ⟨kn, hkn⟩ := Int.eq_ofNat_of_zero_le q.2.1
    obtain ⟨hn, hhn⟩ := Int.eq_ofNat_of_zero_le ha.1
    have t := pk_t kn (by omega) hn (by omega)
    rw [← i32_of (x := m.1 2 (20 + (m.1 2 23).toNatClampNeg)) hkn (by omega), ← i32_of (x := a) hhn (by omega)] at t
    rw [t.1]
    generalize F_X8_pullOf (m.1 2 (20 + (m.1 2 23).toNatClampNeg)) a v0 = x at t ⊢
    by_cases z3 : (m.1 0 4).toInt = 3
    · rw [if_pos z3, if_pos z3]
      have e1 : (x - 1).toInt = x.toInt - 1 := sbI rfl rfl (by omega) (by omega)
      by_cases zp : 0 < x.toInt
      · rw [if_pos zp]
        refine ⟨?_, by omega, by omega⟩
        by_cases z1 : (0 : Int32) < x - 1
        · rw [if_pos z1]
        · rw [if_neg z1]
          rw [Int32.lt_iff_toInt_lt] at z1
          exact Int32.toInt_inj.mp (by omega)
      · rw [if_neg zp]
        refine ⟨?_, by omega, by omega⟩
        rw [if_neg (by rw [Int32.lt_iff_toInt_lt]; omega)]
        exact Int32.toInt_inj.mp (by omega)
    · rw [if_neg z3, if_neg z3]
      exact ⟨rfl, t.2.1, t.2.2⟩
theorem AtR.up {k p : Nat} {c m : St} (h : AtR k p c m) {a b : Int32} (ha : 0 ≤ a.toInt ∧ a.toInt < (m.1 0 3).toInt) : (F_X0_isStarUp k a b c).toInt = 0 ↔ (F_X8_isUp 0 a b m).toInt = 0 := by
  obtain ⟨⟨s1, -⟩, ⟨-, -, f28⟩, hs, -, -⟩ := h
  have c0 : (0 : Int32).toInt = 0 := rfl
  have c1 : (1 : Int32).toInt = 1 := rfl
  have hst := hasSt k a c
  rw [s1.1] at hst
  have n0 := cnI (x := a) ha.1
  have m4 : ((4 : Int32) * a).toInt = 4 * a.toInt := mlI rfl rfl (by omega) (by omega)
  have m40 : ((4 : Int32) * a + 0).toInt = 4 * a.toInt + 0 := adI m4 rfl (by omega) (by omega)
  have m41 : ((4 : Int32) * a + 1).toInt = 4 * a.toInt + 1 := adI m4 rfl (by omega) (by omega)
  have n40 := cnI (x := (4 : Int32) * a + 0) (by omega)
  have n41 := cnI (x := (4 : Int32) * a + 1) (by omega)
  have q := hs a.toNatClampNeg (by omega)
  have hcl := isCl k b c
  rw [f28] at hcl
  simp only [F_X0_isStarUp, F_X8_isUp, xl_d, Nat.reduceAdd, cn28]
  rw [show ((4 : Int32) * a + 0).toNatClampNeg = 4 * a.toNatClampNeg by omega, show ((4 : Int32) * a + 1).toNatClampNeg = 4 * a.toNatClampNeg + 1 by omega, if_neg (fun z => hst.mp z ha), q.1, q.2.1]
  have hi := inI (x := b) (b := (m.1 2 (4 * a.toNatClampNeg)).toInt64) (c := (m.1 2 (4 * a.toNatClampNeg + 1)).toInt64) (lo := (m.1 2 (4 * a.toNatClampNeg)).toInt) (hi := (m.1 2 (4 * a.toNatClampNeg + 1)).toInt) m (i64_of _) (i64_of _)
  repeat' split
  all_goals omega
theorem isUp01 {k : Nat} {a b : Int32} {c : St} (h : ¬ (0 ≤ a.toInt ∧ a.toInt < (c.1 k 3).toInt)) : F_X0_isStarUp k a b c = 0 := by
  simp only [F_X0_isStarUp, xl_d]
  rw [if_pos ((hasSt k a c).mpr h)]
/-- pass -/
theorem psC (p : Nat) (x y z : Int32) (c : St) : (F_X2_pass p x y z c).1 p 0 = c.1 p 0 + 1 ∧ (F_X2_pass p x y z c).1 p 1 = c.1 p 1 + x ∧ (F_X2_pass p x y z c).1 p 2 = c.1 p 2 + y ∧ (F_X2_pass p x y z c).1 p 3 = (if (0 : Int32) < c.1 p 3 - z then c.1 p 3 - z else 0) ∧ ∀ a b : Nat, (a ≠ p ∨ 4 ≤ b) → (F_X2_pass p x y z c).1 a b = c.1 a b := by
  simp only [F_X2_pass, xl_d]
  have a1 : ∀ v : Int32, (up1 c p 0 v).1 p 1 = c.1 p 1 := fun v => up1_n _ _ (by omega)
  have a2 : ∀ v w : Int32, (up1 (up1 c p 0 v) p 1 w).1 p 2 = c.1 p 2 := fun v w => by rw [up1_n _ _ (by omega), up1_n _ _ (by omega)]
  have a3 : ∀ v w x : Int32, (up1 (up1 (up1 c p 0 v) p 1 w) p 2 x).1 p 3 = c.1 p 3 := fun v w x => by rw [up1_n _ _ (by omega), up1_n _ _ (by omega), up1_n _ _ (by omega)]
  rw [a1, a2, a3]
  refine ⟨?_, ?_, ?_, ?_, fun a b z => ?_⟩
  · rw [up1_n _ _ (by omega), up1_n _ _ (by omega), up1_n _ _ (by omega), up1_s]
  · rw [up1_n _ _ (by omega), up1_n _ _ (by omega), up1_s]
  · rw [up1_n _ _ (by omega), up1_s]
  · rw [up1_s]
  · rw [up1_n _ _ (by omega), up1_n _ _ (by omega), up1_n _ _ (by omega), up1_n _ _ (by omega)]
theorem cnS {p : Nat} {c : St} : (F_X2_canStep p c).toInt = 0 ↔ ¬ (0 < (c.1 p 3).toInt ∧ (c.1 p 0).toInt < 10) := by
  have c0 : (0 : Int32).toInt = 0 := rfl
  have c1 : (1 : Int32).toInt = 1 := rfl
  simp only [F_X2_canStep, xl_d]
  repeat' split
  all_goals omega
theorem cwM {m : St} : (F_X8_canWalk 0 m).toInt = 0 ↔ ¬ (0 < (m.1 2 27).toInt ∧ (m.1 2 29).toInt < 10) := by
  have c0 : (0 : Int32).toInt = 0 := rfl
  have c1 : (1 : Int32).toInt = 1 := rfl
  simp only [F_X8_canWalk, xl_d, Nat.reduceAdd, cn27, cn29]
  repeat' split
  all_goals omega
/-- what a step does: more miles, more to the side, water drunk, whether it was blind -/
def SO (m u : St) (x y z : Int32) (b : Int) : Prop := u.1 2 29 = m.1 2 29 + 1 ∧ u.1 2 30 = m.1 2 30 + x ∧ u.1 2 31 = m.1 2 31 + y ∧ u.1 2 27 = (if z.toInt < (m.1 2 27).toInt then m.1 2 27 - z else 0) ∧ u.1 0 19 = (if b = 0 then m.1 0 19 else m.1 0 19 + 1) ∧ ∀ s t : Nat, ((s ≠ 2 ∨ (t ≠ 27 ∧ t ≠ 29 ∧ t ≠ 30 ∧ t ≠ 31)) ∧ (s ≠ 0 ∨ t ≠ 19)) → u.1 s t = m.1 s t
theorem AtR.st {k p : Nat} {c m u : St} {x y z : Int32} {b : Int} (h : AtR k p c m) (hp : p < k ∨ k + 5 ≤ p) (hw : 0 < (m.1 2 27).toInt ∧ (m.1 2 29).toInt < 10) (hz : 0 ≤ z.toInt ∧ z.toInt ≤ 2) (hxx : 0 ≤ x.toInt ∧ x.toInt ≤ 3) (hyy : -30 ≤ y.toInt ∧ y.toInt ≤ 30) (hu : SO m u x y z b) : AtR k p (F_X2_pass p x y z c) u := by
  obtain ⟨u29, u30, u31, u27, u19, uf⟩ := hu
  obtain ⟨p0, p1, p2, p3, pf⟩ := psC p x y z c
  obtain ⟨⟨s1, w1⟩, ⟨f1, f2, f3⟩, hs, hwk, ⟨q1, q2, q3, q4⟩⟩ := h
  have e29 : (m.1 2 29 + 1).toInt = (m.1 2 29).toInt + 1 := adI rfl rfl (by omega) (by omega)
  have ez : (m.1 2 27 - z).toInt = (m.1 2 27).toInt - z.toInt := sbI rfl rfl (by omega) (by omega)
  have c0 : (0 : Int32).toInt = 0 := rfl
  have e27 : (if (0 : Int32) < m.1 2 27 - z then m.1 2 27 - z else 0) = (if z.toInt < (m.1 2 27).toInt then m.1 2 27 - z else (0 : Int32)) := by
    by_cases g : z.toInt < (m.1 2 27).toInt
    · rw [if_pos g, if_pos (by rw [Int32.lt_iff_toInt_lt]; omega)]
    · rw [if_neg g, if_neg (by rw [Int32.lt_iff_toInt_lt]; omega)]
  refine ⟨⟨?_, ?_⟩, ⟨?_, ?_, ?_⟩, fun i hi => ?_, fun i hi => ?_, ⟨?_, ?_, ?_, ?_⟩⟩
  · rw [pf k 3 (by omega), uf 0 3 (by omega)]; exact s1
  · rw [pf k 6 (by omega), uf 0 4 (by omega)]; exact w1
  · rw [pf k 7 (by omega), uf 0 4 (by omega), uf 2 23 (by omega)]; exact f1
  · rw [pf k 10 (by omega), uf 2 26 (by omega)]; exact f2
  · rw [pf k 11 (by omega), uf 2 28 (by omega)]; exact f3
  · rw [uf 0 3 (by omega)] at hi
    rw [pf (k + 1) i (by omega), pf (k + 2) i (by omega), pf (k + 3) i (by omega), pf k 4 (by omega), uf 2 (4 * i) (by omega), uf 2 (4 * i + 1) (by omega), uf 2 (4 * i + 2) (by omega), uf 2 (4 * i + 3) (by omega)]
    exact hs i hi
  · rw [uf 0 4 (by omega)] at hi
    rw [pf (k + 4) i (by omega), uf 2 (20 + i) (by omega)]
    exact hwk i hi
  · rw [p3, u27, q1.1, e27]
    refine ⟨rfl, ?_, ?_⟩
    · split <;> omega
    · split <;> omega
  · rw [p0, u29, q2.1]
    exact ⟨rfl, by omega, by omega⟩
  · rw [p1, u30, u29, q3.1]
    have e30 : (m.1 2 30 + x).toInt = (m.1 2 30).toInt + x.toInt := adI rfl rfl (by omega) (by omega)
    exact ⟨rfl, by omega, by omega⟩
  · rw [p2, u31, u29, q4.1]
    have e31 : (m.1 2 31 + y).toInt = (m.1 2 31).toInt + y.toInt := adI rfl rfl (by omega) (by omega)
    exact ⟨rfl, by omega, by omega⟩
/-! a step of both -/
theorem AtR.step {k p : Nat} {c m : St} (h : AtR k p c m) (hp : p < k ∨ k + 5 ≤ p) {a : Int32} (ha : a.toInt = 5 ∨ a.toInt = 6 ∨ (0 ≤ a.toInt ∧ a.toInt < (m.1 0 3).toInt)) : (F_X0_step k p a c).1 = (F_X8_steps 0 a m).1 ∧ AtR k p (F_X0_step k p a c).2 (F_X8_steps 0 a m).2 ∧ (∀ s t : Nat, (s ≠ p ∨ 4 ≤ t) → (F_X0_step k p a c).2.1 s t = c.1 s t) ∧ (∀ s t : Nat, ((s ≠ 2 ∨ (t ≠ 27 ∧ t ≠ 29 ∧ t ≠ 30 ∧ t ≠ 31)) ∧ (s ≠ 0 ∨ t ≠ 19)) → (F_X8_steps 0 a m).2.1 s t = m.1 s t) ∧ (((0 < (m.1 2 27).toInt ∧ (m.1 2 29).toInt < 10) ∧ (F_X8_steps 0 a m).1 = 1 ∧ (F_X8_steps 0 a m).2.1 0 19 = (if (F_X0_isBlind k a (c.1 p 0) c).toInt = 0 then m.1 0 19 else m.1 0 19 + 1)) ∨ (¬ (0 < (m.1 2 27).toInt ∧ (m.1 2 29).toInt < 10) ∧ (F_X8_steps 0 a m).1 = 0 ∧ (F_X8_steps 0 a m).2 = m ∧ (F_X0_step k p a c).2 = c)) := by
  have c0 : (0 : Int32).toInt = 0 := rfl
  have c1 : (1 : Int32).toInt = 1 := rfl
  have c2 : (2 : Int32).toInt = 2 := rfl
  have hA := h
  obtain ⟨⟨s1, w1⟩, ⟨f1, f2, f3⟩, hs, hwk, ⟨q1, q2, q3, q4⟩⟩ := h
  have ham := hasAm k a c
  rw [s1.1] at ham
  have hcs := cnS (p := p) (c := c)
  rw [q1.1, q2.1] at hcs
  have hcw := cwM (m := m)
  generalize hst : F_X0_step k p a c = S
  unfold F_X0_step at hst
  obtain ⟨J103, e103, hst⟩ := xl_e hst
  simp only [xl_d] at hst
  rw [if_neg (fun z => ham.mp z ha)] at hst
  generalize hsm : F_X8_steps 0 a m = T
  unfold F_X8_steps at hsm
  rw [cn27, cn29] at hsm
  obtain ⟨J52, e52, hsm⟩ := xl_e hsm
  simp only [xl_d, xm_d, Nat.reduceAdd] at hsm
  by_cases g : 0 < (m.1 2 27).toInt ∧ (m.1 2 29).toInt < 10
  · rw [if_neg (fun z => hcs.mp z g)] at hst
    rw [if_neg (fun z => hcw.mp z g)] at hsm
    have E103 : ∀ x y z : Int32, J103 x y z = (1, F_X2_pass p x (y + z) 1 c) := fun x y z => by rw [e103]; simp only [xl_d]
    have E52 : ∀ (z : Int32) (x : St), J52 27 z x = (1, up1 (up1 x 2 27 z) 2 29 ((up1 x 2 27 z).1 2 29 + 1)) := fun z x => by rw [e52]; simp only [xl_d, Nat.reduceAdd, cn27]
    -- what is left behind the reference's own step
    have fin : ∀ (x y z : Int32) (b : Int) (u : St), (z.toInt = 1 ∨ z.toInt = 2) → (0 ≤ x.toInt ∧ x.toInt ≤ 3) → (-30 ≤ y.toInt ∧ y.toInt ≤ 30) → F_X8_stepsOn 0 a (m.1 2 29) m = (z, u) → u.1 2 30 = m.1 2 30 + x → u.1 2 31 = m.1 2 31 + y → u.1 0 19 = (if b = 0 then m.1 0 19 else m.1 0 19 + 1) → (∀ s t : Nat, ((s ≠ 2 ∨ (t ≠ 30 ∧ t ≠ 31)) ∧ (s ≠ 0 ∨ t ≠ 19)) → u.1 s t = m.1 s t) → S = (1, F_X2_pass p x y z c) → (b = 0 ↔ (F_X0_isBlind k a (c.1 p 0) c).toInt = 0) → S.1 = T.1 ∧ AtR k p S.2 T.2 ∧ (∀ s t : Nat, (s ≠ p ∨ 4 ≤ t) → S.2.1 s t = c.1 s t) ∧ (∀ s t : Nat, ((s ≠ 2 ∨ (t ≠ 27 ∧ t ≠ 29 ∧ t ≠ 30 ∧ t ≠ 31)) ∧ (s ≠ 0 ∨ t ≠ 19)) → T.2.1 s t = m.1 s t) ∧ (((0 < (m.1 2 27).toInt ∧ (m.1 2 29).toInt < 10) ∧ T.1 = 1 ∧ T.2.1 0 19 = (if (F_X0_isBlind k a (c.1 p 0) c).toInt = 0 then m.1 0 19 else m.1 0 19 + 1)) ∨ (¬ (0 < (m.1 2 27).toInt ∧ (m.1 2 29).toInt < 10) ∧ T.1 = 0 ∧ T.2 = m ∧ S.2 = c)) := by
      intro x y z b u hz hxx hyy hso h30 h31 h19 huf hS hb
      rw [hso] at hsm
      simp only at hsm
      rw [huf 2 27 (by omega), E52, E52] at hsm
      have hT : T = (1, up1 (up1 u 2 27 (if z.toInt < (m.1 2 27).toInt then m.1 2 27 - z else 0)) 2 29 (m.1 2 29 + 1)) := by
        rw [← hsm]
        by_cases e : z.toInt < (m.1 2 27).toInt
        · rw [if_pos e, if_pos e, up1_n _ _ (by omega), huf 2 29 (by omega)]
        · rw [if_neg e, if_neg e, up1_n _ _ (by omega), huf 2 29 (by omega)]
      have hSO : SO m T.2 x y z b := by
        rw [hT]
        refine ⟨?_, ?_, ?_, ?_, ?_, fun s t w => ?_⟩
        · exact up1_s _ _ _ _
        · show (up1 (up1 u 2 27 _) 2 29 _).1 2 30 = _
          rw [up1_n _ _ (by omega), up1_n _ _ (by omega)]; exact h30
        · show (up1 (up1 u 2 27 _) 2 29 _).1 2 31 = _
          rw [up1_n _ _ (by omega), up1_n _ _ (by omega)]; exact h31
        · show (up1 (up1 u 2 27 _) 2 29 _).1 2 27 = _
          rw [up1_n _ _ (by omega), up1_s]
        · show (up1 (up1 u 2 27 _) 2 29 _).1 0 19 = _
          rw [up1_n _ _ (by omega), up1_n _ _ (by omega)]; exact h19
        · show (up1 (up1 u 2 27 _) 2 29 _).1 s t = _
          rw [up1_n _ _ (by omega), up1_n _ _ (by omega)]; exact huf s t (by omega)
      have hst2 := hA.st hp g (by omega) hxx hyy hSO
      have T1 : T.1 = 1 := by rw [hT]
      rw [hS]
      refine ⟨T1.symm, hst2, fun s t w => (psC p x y z c).2.2.2.2 s t w, fun s t w => hSO.2.2.2.2.2 s t w, Or.inl ⟨g, T1, ?_⟩⟩
      rw [hSO.2.2.2.2.1]
      by_cases e : b = 0
      · rw [if_pos e, if_pos (hb.mp e)]
      · rw [if_neg e, if_neg (fun w => e (hb.mpr w))]
    -- the reference's step
    have hpl := hA.pull (a := m.1 2 29) (by omega)
    rw [q2.1, hpl.1] at hst
    obtain ⟨so, hso0⟩ : ∃ z, F_X8_stepsOn 0 a (m.1 2 29) m = z := ⟨_, rfl⟩
    have hso := hso0
    unfold F_X8_stepsOn at hso
    rw [cn26, cn30, cn31] at hso
    obtain ⟨J83, e83, hso⟩ := xl_e hso
    simp only [xl_d, Nat.reduceAdd] at hso
    generalize F_X8_pullNow 0 (m.1 2 29) m = pl at hst hso hpl
    have pl1 : (pl + 1).toInt = pl.toInt + 1 := adI rfl rfl (by omega) (by omega)
    have pl2 : ((2 : Int32) * pl).toInt = 2 * pl.toInt := mlI rfl rfl (by omega) (by omega)
    have pl3 : ((2 : Int32) * pl + 1).toInt = 2 * pl.toInt + 1 := adI pl2 rfl (by omega) (by omega)
    have E83 : ∀ y : Int32, J83 y = if (m.1 2 29).toInt < (m.1 2 26).toInt then (1, up1 (up1 m 2 30 (m.1 2 30 + 3)) 2 31 (m.1 2 31 + (y + 1))) else (2, up1 (up1 (up1 m 2 30 (m.1 2 30 + 2)) 2 31 (m.1 2 31 + (2 * y + 1))) 0 19 (m.1 0 19 + 1)) := fun y => by
      rw [e83]
      simp only [xl_d, Nat.reduceAdd]
      rw [up1_n _ _ (by omega), up1_n _ _ (by omega), up1_n _ _ (by omega), up1_n _ _ (by omega)]
    have bl : (F_X0_isBlind k a (c.1 p 0) c) = (F_X0_isBlind k a (m.1 2 29) c) := by rw [q2.1]
    by_cases e6 : a.toInt = 6
    · rw [if_pos e6] at hst hso
      refine fin 0 0 1 0 m (Or.inl c1) (by decide) (by decide) (hso0.trans hso.symm) (Int32.add_zero _).symm (Int32.add_zero _).symm (by rw [if_pos rfl]) (fun _ _ _ => rfl) hst.symm ?_
      rw [bl]
      simp only [F_X0_isBlind, xl_d]
      rw [if_pos e6]
      exact ⟨fun _ => rfl, fun _ => trivial⟩
    · rw [if_neg e6] at hst hso
      have hbl : F_X0_isBlind k a (m.1 2 29) c = if (F_X0_isStarUp k a (m.1 2 29) c).toInt = 0 then (if (m.1 2 29).toInt < (m.1 2 26).toInt then 0 else 1) else 0 := by
        simp only [F_X0_isBlind, xl_d]
        rw [if_neg e6, f2]
      rw [hbl] at hst bl
      -- by wind, or the star isn't up
      have wind : (F_X0_isStarUp k a (m.1 2 29) c).toInt = 0 → so = J83 pl → S.1 = T.1 ∧ AtR k p S.2 T.2 ∧ (∀ s t : Nat, (s ≠ p ∨ 4 ≤ t) → S.2.1 s t = c.1 s t) ∧ (∀ s t : Nat, ((s ≠ 2 ∨ (t ≠ 27 ∧ t ≠ 29 ∧ t ≠ 30 ∧ t ≠ 31)) ∧ (s ≠ 0 ∨ t ≠ 19)) → T.2.1 s t = m.1 s t) ∧ (((0 < (m.1 2 27).toInt ∧ (m.1 2 29).toInt < 10) ∧ T.1 = 1 ∧ T.2.1 0 19 = (if (F_X0_isBlind k a (c.1 p 0) c).toInt = 0 then m.1 0 19 else m.1 0 19 + 1)) ∨ (¬ (0 < (m.1 2 27).toInt ∧ (m.1 2 29).toInt < 10) ∧ T.1 = 0 ∧ T.2 = m ∧ S.2 = c)) := by
        intro up0 hso2
        rw [E83] at hso2
        rw [if_pos up0] at hst bl
        by_cases ht : (m.1 2 29).toInt < (m.1 2 26).toInt
        · rw [if_pos ht] at hso2 bl
          rw [if_pos ht, if_pos c0, if_pos up0] at hst
          refine fin 3 (pl + 1) 1 0 _ (Or.inl c1) (by decide) (by omega) (hso0.trans hso2) ?_ ?_ ?_ (fun s t w => ?_) hst.symm (by rw [bl]; exact ⟨fun _ => rfl, fun _ => rfl⟩)
          · rw [up1_n _ _ (by omega), up1_s]
          · rw [up1_s]
          · rw [if_pos rfl, up1_n _ _ (by omega), up1_n _ _ (by omega)]
          · rw [up1_n _ _ (by omega), up1_n _ _ (by omega)]
        · rw [if_neg ht] at hso2 bl
          rw [if_neg ht, if_neg (by omega)] at hst
          refine fin 2 (2 * pl + 1) 2 1 _ (Or.inr c2) (by decide) (by omega) (hso0.trans hso2) ?_ ?_ ?_ (fun s t w => ?_) hst.symm (by rw [bl]; omega)
          · rw [up1_n _ _ (by omega), up1_n _ _ (by omega), up1_s]
          · rw [up1_n _ _ (by omega), up1_s]
          · rw [if_neg (by decide), up1_s]
          · rw [up1_n _ _ (by omega), up1_n _ _ (by omega), up1_n _ _ (by omega)]
      by_cases e5 : a.toInt < 5
      · rw [if_pos e5] at hso
        have has : 0 ≤ a.toInt ∧ a.toInt < (m.1 0 3).toInt := by omega
        have hup := hA.up (a := a) (b := m.1 2 29) has
        by_cases u0 : (F_X8_isUp 0 a (m.1 2 29) m).toInt = 0
        · rw [if_pos u0] at hso
          exact wind (hup.mpr u0) hso.symm
        · rw [if_neg u0] at hso
          have uc : ¬ (F_X0_isStarUp k a (m.1 2 29) c).toInt = 0 := fun z => u0 (hup.mp z)
          rw [if_neg uc] at hst bl
          rw [if_pos c0, if_neg uc] at hst
          have n0 := cnI (x := a) has.1
          have m4 : ((4 : Int32) * a).toInt = 4 * a.toInt := mlI rfl rfl (by omega) (by omega)
          have m43 : ((4 : Int32) * a + 3).toInt = 4 * a.toInt + 3 := adI m4 rfl (by omega) (by omega)
          have m42 : ((4 : Int32) * a + 2).toInt = 4 * a.toInt + 2 := adI m4 rfl (by omega) (by omega)
          have n43 := cnI (x := (4 : Int32) * a + 3) (by omega)
          have n42 := cnI (x := (4 : Int32) * a + 2) (by omega)
          have ea : a = Int32.ofNat a.toNatClampNeg := i32_of n0.symm (by omega)
          have q := hs a.toNatClampNeg (by omega)
          rw [← ea] at q
          rw [show ((4 : Int32) * a + 3).toNatClampNeg = 4 * a.toNatClampNeg + 3 by omega, show ((4 : Int32) * a + 2).toNatClampNeg = 4 * a.toNatClampNeg + 2 by omega, up1_n _ _ (by omega), up1_n _ _ (by omega), up1_n _ _ (by omega)] at hso
          have hkn := isKn k a c
          have b01 := bit01 (c.1 k 4 >>> (a &&& 31))
          rw [q.2.2.2] at hkn b01
          rw [E103, E103, q.2.2.1.1] at hst
          by_cases k1 : (m.1 2 (4 * a.toNatClampNeg + 3)).toInt = 1
          · rw [if_pos k1] at hso
            rw [if_neg (fun z => by have := hkn.mp z; omega)] at hst
            refine fin 3 (pl + 0) 1 0 _ (Or.inl c1) (by decide) (by rw [Int32.add_zero]; omega) (hso0.trans hso.symm) ?_ ?_ ?_ (fun s t w => ?_) hst.symm (by rw [bl]; exact ⟨fun _ => rfl, fun _ => rfl⟩)
            · rw [up1_n _ _ (by omega), up1_s]
            · rw [up1_s]
            · rw [if_pos rfl, up1_n _ _ (by omega), up1_n _ _ (by omega)]
            · rw [up1_n _ _ (by omega), up1_n _ _ (by omega)]
          · rw [if_neg k1] at hso
            rw [if_pos (hkn.mpr (by omega))] at hst
            have of3 : (m.1 2 (4 * a.toNatClampNeg + 2) - 3).toInt = (m.1 2 (4 * a.toNatClampNeg + 2)).toInt - 3 := sbI rfl rfl (by omega) (by omega)
            have of4 : (pl + (m.1 2 (4 * a.toNatClampNeg + 2) - 3)).toInt = pl.toInt + ((m.1 2 (4 * a.toNatClampNeg + 2)).toInt - 3) := adI rfl of3 (by omega) (by omega)
            refine fin 3 (pl + (m.1 2 (4 * a.toNatClampNeg + 2) - 3)) 1 0 _ (Or.inl c1) (by decide) (by omega) (hso0.trans hso.symm) ?_ ?_ ?_ (fun s t w => ?_) hst.symm (by rw [bl]; exact ⟨fun _ => rfl, fun _ => rfl⟩)
            · rw [up1_n _ _ (by omega), up1_s]
            · rw [up1_s]
            · rw [if_pos rfl, up1_n _ _ (by omega), up1_n _ _ (by omega)]
            · rw [up1_n _ _ (by omega), up1_n _ _ (by omega)]
      · rw [if_neg e5] at hso
        refine wind ?_ hso.symm
        rw [isUp01 (by rw [s1.1]; omega)]
        exact c0
  · rw [if_pos (hcs.mpr g)] at hst
    rw [if_pos (hcw.mpr g)] at hsm
    subst hst hsm
    exact ⟨rfl, hA, fun _ _ _ => rfl, fun _ _ _ => rfl, Or.inr ⟨g, rfl, rfl, rfl⟩⟩
/-! go, read -/
theorem stM1 (m : St) : (∀ b : Nat, b < 54 → (F_X8_starts 0 m).1 2 b = m.1 1 b) ∧ ∀ a b : Nat, a ≠ 2 → (F_X8_starts 0 m).1 a b = m.1 a b := by
  have c0 : (0 : Int32).toInt = 0 := rfl
  generalize hu : F_X8_starts 0 m = u
  unfold F_X8_starts at hu
  obtain ⟨N, hN⟩ : ∃ N : Nat, N = (2147483647 - (0 : Int32).toInt).toNat := ⟨_, rfl⟩
  rw [← hN] at hu
  obtain ⟨P, eP, hu⟩ := xl_e hu
  have Lp : ∀ (n : Nat) (y : Int32) (x : St), (2147483647 - y.toInt).toNat < n → 0 ≤ y.toInt → y.toInt ≤ 54 → (∀ b : Nat, (b : Int) < y.toInt → x.1 2 b = m.1 1 b) → (∀ a b : Nat, a ≠ 2 → x.1 a b = m.1 a b) → (∀ b : Nat, b < 54 → (lp P (fun _ _ => m) n y x).1 2 b = m.1 1 b) ∧ ∀ a b : Nat, a ≠ 2 → (lp P (fun _ _ => m) n y x).1 a b = m.1 a b := by
    intro n
    induction n with
    | zero => intro y x hm; exact absurd hm (Nat.not_lt_zero _)
    | succ n ih =>
      intro y x hm h0 h1 hz hf
      rw [lp_s]
      by_cases d : y.toInt < 54
      · have ey : (y + 1).toInt = y.toInt + 1 := adI rfl rfl (by omega) (by omega)
        have hcn := cnI (x := y) h0
        have ep : P (lp P (fun _ _ => m) n) y x = lp P (fun _ _ => m) n (y + 1) (up1 x 2 y.toNatClampNeg (m.1 1 y.toNatClampNeg)) := by
          generalize lp P (fun _ _ => m) n = sf
          rw [eP]
          simp only [xl_d, Nat.reduceAdd]
          rw [if_pos d, hf 1 _ (by omega)]
        rw [ep]
        refine ih (y + 1) _ (by omega) (by omega) (by omega) (fun b hb => ?_) (fun a b z => by rw [up1_n _ _ (by omega)]; exact hf a b z)
        by_cases e : b = y.toNatClampNeg
        · rw [e, up1_s]
        · rw [up1_n _ _ (by omega)]; exact hz b (by omega)
      · generalize lp P (fun _ _ => m) n = sf
        have ep : P sf y x = x := by
          rw [eP]
          simp only [xl_d, Nat.reduceAdd]
          rw [if_neg d]
        rw [ep]
        exact ⟨fun b hb => hz b (by omega), hf⟩
  rw [← hu]
  exact Lp (N + 1) 0 m (by rw [← hN]; exact Nat.lt_succ_self N) (by omega) (by omega) (fun j hj => by omega) (fun _ _ _ => rfl)
theorem seM1 (m : St) : (∀ b : Nat, b < 54 → (F_X8_settles 0 m).1 1 b = m.1 2 b) ∧ ∀ a b : Nat, (a ≠ 1 ∨ 54 ≤ b) → (F_X8_settles 0 m).1 a b = m.1 a b := by
  have c0 : (0 : Int32).toInt = 0 := rfl
  generalize hu : F_X8_settles 0 m = u
  unfold F_X8_settles at hu
  obtain ⟨N, hN⟩ : ∃ N : Nat, N = (2147483647 - (0 : Int32).toInt).toNat := ⟨_, rfl⟩
  rw [← hN] at hu
  obtain ⟨P, eP, hu⟩ := xl_e hu
  have Lp : ∀ (n : Nat) (y : Int32) (x : St), (2147483647 - y.toInt).toNat < n → 0 ≤ y.toInt → y.toInt ≤ 54 → (∀ b : Nat, (b : Int) < y.toInt → x.1 1 b = m.1 2 b) → (∀ a b : Nat, (a ≠ 1 ∨ 54 ≤ b) → x.1 a b = m.1 a b) → (∀ b : Nat, b < 54 → (lp P (fun _ _ => m) n y x).1 1 b = m.1 2 b) ∧ ∀ a b : Nat, (a ≠ 1 ∨ 54 ≤ b) → (lp P (fun _ _ => m) n y x).1 a b = m.1 a b := by
    intro n
    induction n with
    | zero => intro y x hm; exact absurd hm (Nat.not_lt_zero _)
    | succ n ih =>
      intro y x hm h0 h1 hz hf
      rw [lp_s]
      by_cases d : y.toInt < 54
      · have ey : (y + 1).toInt = y.toInt + 1 := adI rfl rfl (by omega) (by omega)
        have hcn := cnI (x := y) h0
        have ep : P (lp P (fun _ _ => m) n) y x = lp P (fun _ _ => m) n (y + 1) (up1 x 1 y.toNatClampNeg (m.1 2 y.toNatClampNeg)) := by
          generalize lp P (fun _ _ => m) n = sf
          rw [eP]
          simp only [xl_d, Nat.reduceAdd]
          rw [if_pos d, hf 2 _ (by omega)]
        rw [ep]
        refine ih (y + 1) _ (by omega) (by omega) (by omega) (fun b hb => ?_) (fun a b z => by rw [up1_n _ _ (by omega)]; exact hf a b z)
        by_cases e : b = y.toNatClampNeg
        · rw [e, up1_s]
        · rw [up1_n _ _ (by omega)]; exact hz b (by omega)
      · generalize lp P (fun _ _ => m) n = sf
        have ep : P sf y x = x := by
          rw [eP]
          simp only [xl_d, Nat.reduceAdd]
          rw [if_neg d]
        rw [ep]
        exact ⟨fun b hb => hz b (by omega), hf⟩
  rw [← hu]
  exact Lp (N + 1) 0 m (by rw [← hN]; exact Nat.lt_succ_self N) (by omega) (by omega) (fun j hj => by omega) (fun _ _ _ => rfl)
/-- the row `at` as it begins; the place may lie elsewhere -/
theorem NR.at {k p : Nat} {c m u : St} (h : NR k 0 c m) (hu : ∀ b : Nat, b < 54 → u.1 2 b = m.1 1 b) (h3 : u.1 0 3 = m.1 0 3) (h4 : u.1 0 4 = m.1 0 4) (hp : ∀ j : Nat, j < 4 → c.1 p j = c.1 (k + 5) j) : AtR k p c u := by
  obtain ⟨⟨a1, a2⟩, ⟨f1, f2, f3, f4, f5, f6, f7, f8, f9⟩, ⟨s1, s2⟩, w, -, -⟩ := h
  simp only [Nat.zero_add] at f1 f2 f3 f4 f5 f6 f7 f8 f9 s2 w
  refine ⟨⟨by rw [h3]; exact a1, by rw [h4]; exact a2⟩, ⟨by rw [h4, hu 23 (by omega)]; exact f1, by rw [hu 26 (by omega)]; exact f4, by rw [hu 28 (by omega)]; exact f6⟩, fun i hi => ?_, fun i hi => ?_, ⟨by rw [hp 3 (by omega), hu 27 (by omega)]; exact f5, by rw [hp 0 (by omega), hu 29 (by omega)]; exact f7, by rw [hp 1 (by omega), hu 30 (by omega), hu 29 (by omega)]; exact f8, by rw [hp 2 (by omega), hu 31 (by omega), hu 29 (by omega)]; exact f9⟩⟩
  · rw [h3] at hi
    rw [hu (4 * i) (by omega), hu (4 * i + 1) (by omega), hu (4 * i + 2) (by omega), hu (4 * i + 3) (by omega)]
    exact s2 i hi
  · rw [h4] at hi
    rw [hu (20 + i) (by omega)]
    exact w i hi
/-- and as it ends -/
theorem NR.to {c m c2 m2 w : St} {p : Nat} (h : NR 12 0 c m) (hA : AtR 12 p c2 m2) (hc : ∀ a b : Nat, 12 ≤ a → a < 21 → a ≠ 17 → w.1 a b = c.1 a b) (hcp : ∀ j : Nat, j < 4 → w.1 17 j = c2.1 p j) {x : St} (hx : ∀ b : Nat, b < 54 → b ≠ 27 → b ≠ 29 → b ≠ 30 → b ≠ 31 → x.1 1 b = m.1 1 b) (h27 : x.1 1 27 = m2.1 2 27 ∧ x.1 1 29 = m2.1 2 29 ∧ x.1 1 30 = m2.1 2 30 ∧ x.1 1 31 = m2.1 2 31) (h3 : x.1 0 3 = m.1 0 3) (h4 : x.1 0 4 = m.1 0 4) : NR 12 0 w x := by
  obtain ⟨⟨a1, a2⟩, ⟨f1, f2, f3, f4, f5, f6, f7, f8, f9⟩, s, wk, pl, q⟩ := h
  obtain ⟨-, -, -, -, ⟨q1, q2, q3, q4⟩⟩ := hA
  have x5 := a1.2.2
  refine ⟨⟨by rw [hc 12 3 (by omega) (by omega) (by omega), h3]; exact a1, by rw [hc 12 6 (by omega) (by omega) (by omega), h4]; exact a2⟩, ⟨?_, ?_, ?_, ?_, ?_, ?_, ?_, ?_, ?_⟩, ?_, ?_, ?_, ?_⟩
  · rw [hc 12 7 (by omega) (by omega) (by omega), h4, hx (0 + 23) (by omega) (by omega) (by omega) (by omega) (by omega)]; exact f1
  · rw [hc 12 8 (by omega) (by omega) (by omega), hx (0 + 24) (by omega) (by omega) (by omega) (by omega) (by omega)]; exact f2
  · rw [hc 12 9 (by omega) (by omega) (by omega), hx (0 + 25) (by omega) (by omega) (by omega) (by omega) (by omega)]; exact f3
  · rw [hc 12 10 (by omega) (by omega) (by omega), hx (0 + 26) (by omega) (by omega) (by omega) (by omega) (by omega)]; exact f4
  · simp only [Nat.zero_add, Nat.reduceAdd]
    rw [hcp 3 (by omega), h27.1]; exact q1
  · rw [hc 12 11 (by omega) (by omega) (by omega), hx (0 + 28) (by omega) (by omega) (by omega) (by omega) (by omega)]; exact f6
  · simp only [Nat.zero_add, Nat.reduceAdd]
    rw [hcp 0 (by omega), h27.2.1]; exact q2
  · simp only [Nat.zero_add, Nat.reduceAdd]
    rw [hcp 1 (by omega), h27.2.2.1, h27.2.1]; exact q3
  · simp only [Nat.zero_add, Nat.reduceAdd]
    rw [hcp 2 (by omega), h27.2.2.2, h27.2.1]; exact q4
  · exact s.fr (hc _ _ (by omega) (by omega) (by omega)) (fun j => ⟨hc _ _ (by omega) (by omega) (by omega), hc _ _ (by omega) (by omega) (by omega), hc _ _ (by omega) (by omega) (by omega)⟩) h3 x5 (fun b _ _ => hx _ (by omega) (by omega) (by omega) (by omega) (by omega))
  · exact wk.fr (fun j => hc _ _ (by omega) (by omega) (by omega)) h4 a2.2.2 (fun b _ _ => hx _ (by omega) (by omega) (by omega) (by omega) (by omega))
  · exact pl.fr (hc _ _ (by omega) (by omega) (by omega)) (fun j => hc _ _ (by omega) (by omega) (by omega)) h3 (fun b _ _ => hx _ (by omega) (by omega) (by omega) (by omega) (by omega))
  · exact q.fr (hc _ _ (by omega) (by omega) (by omega)) (fun j => ⟨hc _ _ (by omega) (by omega) (by omega), hc _ _ (by omega) (by omega) (by omega)⟩) (fun b _ _ => hx _ (by omega) (by omega) (by omega) (by omega) (by omega))
theorem sim_go {c m : St} {r r2 : Int32} {u w : St} {a0 : Int32} (h : Sim c m) (hC : (r, u) = F_X7_go 0 a0 c) (hM : (r2, w) = F_X8_go 0 a0 m) : r = r2 ∧ Sim u w := by
  have g := h.1
  have c0 : (0 : Int32).toInt = 0 := rfl
  have c1 : (1 : Int32).toInt = 1 := rfl
  have hs := hasAm 12 a0 c
  rw [g.1.1.1] at hs
  have hm := isAmM (a := a0) g.1.1.2
  simp only [F_X7_go, xl_d, xm_d, Nat.reduceAdd] at hC
  simp only [F_X8_go, xl_d, xm_d, Nat.reduceAdd, cn30] at hM
  by_cases p : a0.toInt = 5 ∨ a0.toInt = 6 ∨ (0 ≤ a0.toInt ∧ a0.toInt < (m.1 0 3).toInt)
  · rw [if_neg (fun z => hs.mp z p)] at hC
    rw [if_neg (fun z => hm.mp z p)] at hM
    have hst := stM1 m
    generalize F_X8_starts 0 m = ms at hst hM
    have hA : AtR 12 17 c ms := g.at hst.1 (hst.2 0 3 (by omega)) (hst.2 0 4 (by omega)) (fun j _ => rfl)
    have hS := hA.step (by omega) (a := a0) (by rw [hst.2 0 3 (by omega)]; exact p)
    generalize F_X0_step 12 17 a0 c = S at hS hC
    generalize F_X8_steps 0 a0 ms = T at hS hM
    obtain ⟨e1, hA2, fC, fM, hb⟩ := hS
    rw [e1] at hC
    rcases hb with ⟨-, t1, -⟩ | ⟨-, t1, t2, s2⟩
    · rw [t1, if_neg (by decide)] at hC hM
      have hse := seM1 T.2
      generalize F_X8_settles 0 T.2 = X at hse hM
      obtain ⟨hr, hu⟩ := Prod.mk.inj hC
      obtain ⟨hr2, hw⟩ := Prod.mk.inj hM
      rw [hr, hr2, hu, hw, hse.1 30 (by omega)]
      refine ⟨hA2.2.2.2.2.2.2.1.1, ?_⟩
      have hx : ∀ a b : Nat, (a ≠ 1 ∨ 54 ≤ b) → (a ≠ 2 ∧ (a ≠ 0 ∨ b ≠ 19)) → X.1 a b = m.1 a b := fun a b z1 z2 => by rw [hse.2 a b z1, fM a b (by omega), hst.2 a b (by omega)]
      refine h.now (fun a b z => fC a b (by omega)) (fun a b z => hx a b (by omega) (by omega)) ?_
      refine g.to hA2 (fun a b z1 z2 z3 => fC a b (by omega)) (fun j _ => rfl) (fun b hb n1 n2 n3 n4 => ?_) ⟨hse.1 27 (by omega), hse.1 29 (by omega), hse.1 30 (by omega), hse.1 31 (by omega)⟩ (hx 0 3 (by omega) (by omega)) (hx 0 4 (by omega) (by omega))
      rw [hse.1 b hb, fM 2 b (by omega), hst.1 b hb]
    · rw [t1, if_pos c0] at hC hM
      obtain ⟨hr, hu⟩ := Prod.mk.inj hC
      obtain ⟨hr2, hw⟩ := Prod.mk.inj hM
      rw [hr, hr2, hu, hw, t2, s2]
      exact ⟨rfl, h.fr (fun _ _ _ => rfl) (fun a b z => hst.2 a b (by omega))⟩
  · rw [if_pos (hs.mpr p)] at hC
    rw [if_pos (hm.mpr p)] at hM
    exact ⟨by rw [(Prod.mk.inj hC).1, (Prod.mk.inj hM).1], by rw [(Prod.mk.inj hC).2, (Prod.mk.inj hM).2]; exact h⟩
/-! read -/
def RI (c0 m0 c m : St) : Prop := (∀ a b : Nat, a ≠ 61 → c.1 a b = c0.1 a b) ∧ (∀ a b : Nat, ((a ≠ 1 ∨ (b ≠ 27 ∧ b ≠ 29 ∧ b ≠ 30 ∧ b ≠ 31)) ∧ a ≠ 2 ∧ a ≠ 9 ∧ (a ≠ 0 ∨ b ≠ 19)) → m.1 a b = m0.1 a b) ∧ ((c.1 61 3 = m.1 1 27 ∧ 0 ≤ (m.1 1 27).toInt ∧ (m.1 1 27).toInt ≤ 99) ∧ (c.1 61 0 = m.1 1 29 ∧ 0 ≤ (m.1 1 29).toInt ∧ (m.1 1 29).toInt ≤ 10) ∧ (c.1 61 1 = m.1 1 30 ∧ 0 ≤ (m.1 1 30).toInt ∧ (m.1 1 30).toInt ≤ 3 * (m.1 1 29).toInt) ∧ c.1 61 2 = m.1 1 31 ∧ -30 * (m.1 1 29).toInt ≤ (m.1 1 31).toInt ∧ (m.1 1 31).toInt ≤ 30 * (m.1 1 29).toInt) ∧ ∀ b : Nat, b < 54 → m.1 9 b = m0.1 1 b
theorem RI.go {c0 m0 c m : St} (g : NR 12 0 c0 m0) (h : RI c0 m0 c m) (a : Int32) : ((F_X0_step 12 61 a c).1.toInt = 0 ∧ (F_X8_go 0 a m).1.toInt < 0 ∧ (∀ s t : Nat, s ≠ 61 → (F_X0_step 12 61 a c).2.1 s t = c.1 s t) ∧ ∀ s t : Nat, (s ≠ 2 ∧ (s ≠ 0 ∨ t ≠ 19)) → (F_X8_go 0 a m).2.1 s t = m.1 s t) ∨ (¬ (F_X0_step 12 61 a c).1.toInt = 0 ∧ ¬ (F_X8_go 0 a m).1.toInt < 0 ∧ RI c0 m0 (F_X0_step 12 61 a c).2 (F_X8_go 0 a m).2) := by
  have z0 : (0 : Int32).toInt = 0 := rfl
  have z1 : (1 : Int32).toInt = 1 := rfl
  have zm : (-1 : Int32).toInt = -1 := rfl
  have zn : (-2 : Int32).toInt = -2 := rfl
  obtain ⟨hc, hm, ⟨q1, q2, q3, q4⟩, hh⟩ := h
  have e3 := hm 0 3 (by omega)
  have e4 := hm 0 4 (by omega)
  have hs := hasAm 12 a c
  rw [hc 12 3 (by omega), g.1.1.1] at hs
  have hmA := isAmM (a := a) (m := m) (by rw [e3]; exact g.1.1.2)
  rw [e3] at hmA
  by_cases p : a.toInt = 5 ∨ a.toInt = 6 ∨ (0 ≤ a.toInt ∧ a.toInt < (m0.1 0 3).toInt)
  · have hst := stM1 m
    have ego : F_X8_go 0 a m = if (F_X8_steps 0 a (F_X8_starts 0 m)).1.toInt = 0 then (-2, (F_X8_steps 0 a (F_X8_starts 0 m)).2) else ((F_X8_settles 0 (F_X8_steps 0 a (F_X8_starts 0 m)).2).1 1 30, F_X8_settles 0 (F_X8_steps 0 a (F_X8_starts 0 m)).2) := by
      simp only [F_X8_go, xl_d, xm_d, Nat.reduceAdd, cn30]
      rw [if_neg (fun z => hmA.mp z p)]
    rw [ego]
    generalize F_X8_starts 0 m = ms at hst
    have hA : AtR 12 61 c ms := by
      obtain ⟨⟨a1, a2⟩, ⟨f1, f2, f3, f4, f5, f6, f7, f8, f9⟩, ⟨s1, s2⟩, w, -, -⟩ := g
      simp only [Nat.zero_add] at f1 f2 f3 f4 f5 f6 f7 f8 f9 s2 w
      have m3 : ms.1 0 3 = m0.1 0 3 := by rw [hst.2 0 3 (by omega)]; exact e3
      have m4 : ms.1 0 4 = m0.1 0 4 := by rw [hst.2 0 4 (by omega)]; exact e4
      have mb : ∀ b : Nat, b < 54 → b ≠ 27 → b ≠ 29 → b ≠ 30 → b ≠ 31 → ms.1 2 b = m0.1 1 b := fun b h1 h2 h3 h4 h5 => by rw [hst.1 b h1, hm 1 b (by omega)]
      refine ⟨⟨by rw [hc 12 3 (by omega), m3]; exact a1, by rw [hc 12 6 (by omega), m4]; exact a2⟩, ⟨by rw [hc 12 7 (by omega), m4, mb 23 (by omega) (by omega) (by omega) (by omega) (by omega)]; exact f1, by rw [hc 12 10 (by omega), mb 26 (by omega) (by omega) (by omega) (by omega) (by omega)]; exact f4, by rw [hc 12 11 (by omega), mb 28 (by omega) (by omega) (by omega) (by omega) (by omega)]; exact f6⟩, fun i hi => ?_, fun i hi => ?_, ⟨by rw [hst.1 27 (by omega)]; exact q1, by rw [hst.1 29 (by omega)]; exact q2, by rw [hst.1 30 (by omega), hst.1 29 (by omega)]; exact q3, by rw [hst.1 31 (by omega), hst.1 29 (by omega)]; exact q4⟩⟩
      · rw [m3] at hi
        rw [hc (12 + 1) i (by omega), hc (12 + 2) i (by omega), hc (12 + 3) i (by omega), hc 12 4 (by omega), mb (4 * i) (by omega) (by omega) (by omega) (by omega) (by omega), mb (4 * i + 1) (by omega) (by omega) (by omega) (by omega) (by omega), mb (4 * i + 2) (by omega) (by omega) (by omega) (by omega) (by omega), mb (4 * i + 3) (by omega) (by omega) (by omega) (by omega) (by omega)]
        exact s2 i hi
      · rw [m4] at hi
        rw [hc (12 + 4) i (by omega), mb (20 + i) (by omega) (by omega) (by omega) (by omega) (by omega)]
        exact w i hi
    have hS := hA.step (by omega) (a := a) (by rw [hst.2 0 3 (by omega), e3]; exact p)
    generalize F_X0_step 12 61 a c = S at hS ⊢
    generalize F_X8_steps 0 a ms = T at hS ⊢
    obtain ⟨e1, hA2, fC, fM, hb⟩ := hS
    rcases hb with ⟨-, t1, -⟩ | ⟨-, t1, t2, s2⟩
    · have hse := seM1 T.2
      rw [e1, t1, if_neg (by decide)]
      generalize F_X8_settles 0 T.2 = X at hse ⊢
      obtain ⟨-, -, -, -, ⟨b1, b2, b3, b4⟩⟩ := hA2
      refine Or.inr ⟨by decide, ?_, fun s t z => by rw [fC s t (by omega)]; exact hc s t z, fun s t z => ?_, ⟨?_, ?_, ?_, ?_⟩, fun b hb => ?_⟩
      · show ¬ (X.1 1 30).toInt < 0
        rw [hse.1 30 (by omega)]; omega
      · show X.1 s t = m0.1 s t
        by_cases es : s = 1 ∧ t < 54
        · obtain ⟨rfl, ht⟩ := es
          rw [hse.1 t ht, fM 2 t (by omega), hst.1 t ht]
          exact hm 1 t z
        · rw [hse.2 s t (by omega), fM s t (by omega), hst.2 s t (by omega)]
          exact hm s t z
      · show S.2.1 61 3 = X.1 1 27 ∧ 0 ≤ (X.1 1 27).toInt ∧ (X.1 1 27).toInt ≤ 99
        rw [hse.1 27 (by omega)]; exact b1
      · show S.2.1 61 0 = X.1 1 29 ∧ 0 ≤ (X.1 1 29).toInt ∧ (X.1 1 29).toInt ≤ 10
        rw [hse.1 29 (by omega)]; exact b2
      · show S.2.1 61 1 = X.1 1 30 ∧ 0 ≤ (X.1 1 30).toInt ∧ (X.1 1 30).toInt ≤ 3 * (X.1 1 29).toInt
        rw [hse.1 30 (by omega), hse.1 29 (by omega)]; exact b3
      · show S.2.1 61 2 = X.1 1 31 ∧ -30 * (X.1 1 29).toInt ≤ (X.1 1 31).toInt ∧ (X.1 1 31).toInt ≤ 30 * (X.1 1 29).toInt
        rw [hse.1 31 (by omega), hse.1 29 (by omega)]; exact b4
      · show X.1 9 b = m0.1 1 b
        rw [hse.2 9 b (by omega), fM 9 b (by omega), hst.2 9 b (by omega)]
        exact hh b hb
    · rw [e1, t1, if_pos z0, s2]
      refine Or.inl ⟨z0, by show (-2 : Int32).toInt < 0; omega, fun _ _ _ => rfl, fun s t z => ?_⟩
      show T.2.1 s t = m.1 s t
      rw [t2]
      exact hst.2 s t (by omega)
  · have ec : F_X0_step 12 61 a c = (0, c) := by
      simp only [F_X0_step, xl_d]
      rw [if_pos (hs.mpr p)]
    have em : F_X8_go 0 a m = (-1, m) := by
      simp only [F_X8_go, xl_d]
      rw [if_pos (hmA.mpr p)]
    rw [ec, em]
    exact Or.inl ⟨z0, by show (-1 : Int32).toInt < 0; omega, fun _ _ _ => rfl, fun _ _ _ => rfl⟩
theorem sim_read {c m : St} {r r2 : Int32} {u w : St} {a0 a1 a2 a3 : Int32} (h : Sim c m) (hC : (r, u) = F_X7_read 0 a0 a1 a2 a3 c) (hM : (r2, w) = F_X8_read 0 a0 a1 a2 a3 m) : r = r2 ∧ Sim u w := by
  have g := h.1
  have z0 : (0 : Int32).toInt = 0 := rfl
  have z1 : (1 : Int32).toInt = 1 := rfl
  have z2 : (2 : Int32).toInt = 2 := rfl
  have z3 : (3 : Int32).toInt = 3 := rfl
  have i10 := inI (x := a3) (b := 0) (c := 10) (lo := 0) (hi := 10) m rfl rfl
  obtain ⟨N, hN⟩ : ∃ N : Nat, N = (2147483647 - (0 : Int32).toInt).toNat := ⟨_, rfl⟩
  obtain ⟨P53, e53, hC⟩ := xl_e (show _ = (r, u) from hC.symm)
  obtain ⟨P62, e62, hM⟩ := xl_e (show _ = (r2, w) from hM.symm)
  obtain ⟨P26, e26, hM⟩ := xl_e hM
  rw [← hN] at hC hM e26 e62
  simp only [xl_d, Nat.reduceAdd] at hC hM
  have no : (-1, c) = (r, u) → (-1, m) = (r2, w) → r = r2 ∧ Sim u w := fun hC hM => by
    exact ⟨by rw [← (Prod.mk.inj hC).1, ← (Prod.mk.inj hM).1], by rw [← (Prod.mk.inj hC).2, ← (Prod.mk.inj hM).2]; exact h⟩
  by_cases p : (0 ≤ a0.toInt ∧ a0.toInt ≤ 3) ∧ (0 ≤ a1.toInt ∧ a1.toInt ≤ 2)
  · rw [if_neg (fun z => isShC.mp z p.1), if_neg (fun z => isLaC.mp z p.2)] at hC
    rw [if_neg (fun z => isShM.mp z p)] at hM
    by_cases q : 0 ≤ a3.toInt ∧ a3.toInt ≤ 10
    · rw [if_neg (by omega), if_neg (by omega)] at hC
      rw [if_neg (fun z => i10.mp z q)] at hM
      have n0 := cnI (x := a0) (by omega)
      have sh := h.2.2.2.1 a0.toNatClampNeg (by omega)
      have e83 : 64 + (19 + 2 * a0.toNatClampNeg) = 83 + 2 * a0.toNatClampNeg := by omega
      -- the end of a reading
      have fin : ∀ (x y : St) (t : Int32), RI c m x y → ∃ x2 : St, F_X7_endRead 0 0 t x = (0, x2) ∧ (∀ s : Int32, F_X7_endRead 0 s t x = (s, x2)) ∧ Sim x2 (up1 y 0 29 t) := by
        intro x y t hI
        have hb := beP 17 61 (by omega) x
        refine ⟨up1 (F_X2_become 17 61 x) 0 10 t, by simp only [F_X7_endRead, xl_d, Nat.reduceAdd], fun s => by simp only [F_X7_endRead, xl_d, Nat.reduceAdd], ?_⟩
        generalize F_X2_become 17 61 x = xb at hb
        obtain ⟨b0, b1, b2, b3, bf⟩ := hb
        obtain ⟨hc, hm, ⟨q1, q2, q3, q4⟩, hh⟩ := hI
        have fc : ∀ s v : Nat, s ≠ 61 → s ≠ 17 → (s ≠ 0 ∨ v ≠ 10) → (up1 xb 0 10 t).1 s v = c.1 s v := fun s v h1 h2 h3 => by rw [up1_n _ _ (by omega), bf s v (by omega), hc s v h1]
        have fm : ∀ s v : Nat, ((s ≠ 1 ∨ (v ≠ 27 ∧ v ≠ 29 ∧ v ≠ 30 ∧ v ≠ 31)) ∧ s ≠ 2 ∧ s ≠ 9 ∧ (s ≠ 0 ∨ (v ≠ 19 ∧ v ≠ 29))) → (up1 y 0 29 t).1 s v = m.1 s v := fun s v h1 => by rw [up1_n _ _ (by omega), hm s v (by omega)]
        have p17 : ∀ v : Nat, v < 4 → (up1 xb 0 10 t).1 17 v = xb.1 17 v := fun v _ => up1_n _ _ (by omega)
        have y1 : ∀ v : Nat, (up1 y 0 29 t).1 1 v = y.1 1 v := fun v => up1_n _ _ (by omega)
        refine ⟨?_, ?_, ?_, ?_, ?_⟩
        · obtain ⟨⟨a1, a2⟩, ⟨f1, f2, f3, f4, f5, f6, f7, f8, f9⟩, s, wk, pl, qq⟩ := g
          have x5 := a1.2.2
          refine ⟨⟨by rw [fc 12 3 (by omega) (by omega) (by omega), fm 0 3 (by omega)]; exact a1, by rw [fc 12 6 (by omega) (by omega) (by omega), fm 0 4 (by omega)]; exact a2⟩, ⟨?_, ?_, ?_, ?_, ?_, ?_, ?_, ?_, ?_⟩, ?_, ?_, ?_, ?_⟩
          · rw [fc 12 7 (by omega) (by omega) (by omega), fm 0 4 (by omega), fm 1 (0 + 23) (by omega)]; exact f1
          · rw [fc 12 8 (by omega) (by omega) (by omega), fm 1 (0 + 24) (by omega)]; exact f2
          · rw [fc 12 9 (by omega) (by omega) (by omega), fm 1 (0 + 25) (by omega)]; exact f3
          · rw [fc 12 10 (by omega) (by omega) (by omega), fm 1 (0 + 26) (by omega)]; exact f4
          · simp only [Nat.zero_add, Nat.reduceAdd]
            rw [p17 3 (by omega), b3, y1]; exact q1
          · rw [fc 12 11 (by omega) (by omega) (by omega), fm 1 (0 + 28) (by omega)]; exact f6
          · simp only [Nat.zero_add, Nat.reduceAdd]
            rw [p17 0 (by omega), b0, y1]; exact q2
          · simp only [Nat.zero_add, Nat.reduceAdd]
            rw [p17 1 (by omega), b1, y1, y1]; exact q3
          · simp only [Nat.zero_add, Nat.reduceAdd]
            rw [p17 2 (by omega), b2, y1, y1]; exact q4
          · exact s.fr (fc _ _ (by omega) (by omega) (by omega)) (fun j => ⟨fc _ _ (by omega) (by omega) (by omega), fc _ _ (by omega) (by omega) (by omega), fc _ _ (by omega) (by omega) (by omega)⟩) (fm _ _ (by omega)) x5 (fun b _ _ => fm _ _ (by omega))
          · exact wk.fr (fun j => fc _ _ (by omega) (by omega) (by omega)) (fm _ _ (by omega)) a2.2.2 (fun b _ _ => fm _ _ (by omega))
          · exact pl.fr (fc _ _ (by omega) (by omega) (by omega)) (fun j => fc _ _ (by omega) (by omega) (by omega)) (fm _ _ (by omega)) (fun b _ _ => fm _ _ (by omega))
          · exact qq.fr (fc _ _ (by omega) (by omega) (by omega)) (fun j => ⟨fc _ _ (by omega) (by omega) (by omega), fc _ _ (by omega) (by omega) (by omega)⟩) (fun b _ _ => fm _ _ (by omega))
        · exact h.2.1.fr (fm _ _ (by omega)) (fm _ _ (by omega)) (fun b _ => fm _ _ (by omega)) (fun b => fm _ _ (by omega)) (fun a b _ _ => fc _ _ (by omega) (by omega) (by omega))
        · exact h.2.2.1.fr (fc _ _ (by omega) (by omega) (by omega)) (fun b => fc _ _ (by omega) (by omega) (by omega)) (fm _ _ (by omega)) (fun b => fm _ _ (by omega))
        · exact h.2.2.2.1.fr (fun a b _ _ => fc _ _ (by omega) (by omega) (by omega)) (fun a b _ => fm _ _ (by omega))
        · rw [up1_s, up1_s]
      -- the steps
      have Lp : ∀ (n : Nat) (y : Int32) (x z : St) (a b : Nat), (a3.toInt - y.toInt).toNat < n → RI c m x z → 0 ≤ y.toInt → y.toInt ≤ a3.toInt → (2147483647 - y.toInt).toNat < a → (2147483647 - y.toInt).toNat < b → (lp P53 (fun _ _ => ((0 : Int32), c)) a y x).1 = (lp P62 (fun _ _ _ _ => ((0 : Int32), m)) b 0 y y z).1 ∧ Sim (lp P53 (fun _ _ => ((0 : Int32), c)) a y x).2 (lp P62 (fun _ _ _ _ => ((0 : Int32), m)) b 0 y y z).2 := by
        intro n
        induction n with
        | zero => intro y x z a b hn; exact absurd hn (Nat.not_lt_zero _)
        | succ n ih =>
          intro y x z a b hn hI y0 y1 ha hb
          obtain ⟨a, rfl⟩ : ∃ k, a = k + 1 := ⟨a - 1, by omega⟩
          obtain ⟨b, rfl⟩ : ∃ k, b = k + 2 := ⟨b - 2, by omega⟩
          have fx := hI.1
          have fz := hI.2.1
          have ey : (y + 1).toInt = y.toInt + 1 := adI rfl rfl (by omega) (by omega)
          -- a reason ends it
          have stop : ∀ (t s i : Int32), ¬ t.toInt = 0 → lp P62 (fun _ _ _ _ => ((0 : Int32), m)) (b + 1) t s i z = (s, up1 z 0 29 t) := fun t s i ht => by
            rw [lp_s]
            generalize lp P62 (fun _ _ _ _ => ((0 : Int32), m)) b = sf
            rw [e62]
            simp only [xl_d]
            by_cases e : i.toInt < a3.toInt
            · rw [if_pos e, if_neg ht]
            · rw [if_neg e]
          by_cases d : y.toInt < a3.toInt
          · rw [lp_s (n := a), lp_s (n := b + 1)]
            generalize hsc : lp P53 (fun _ _ => ((0 : Int32), c)) a = sc
            have EC : P53 sc y x = if (F_X4_tearAt (83 + 2 * a0.toNatClampNeg) a1 (a2 + y) x).toInt = 0 then (if (F_X0_step 12 61 (x.1 (83 + 2 * a0.toNatClampNeg + 1) (a2 + y).toNatClampNeg) x).1.toInt = 0 then ((-20 : Int32) - y, (F_X0_step 12 61 (x.1 (83 + 2 * a0.toNatClampNeg + 1) (a2 + y).toNatClampNeg) x).2) else sc (y + 1) (F_X0_step 12 61 (x.1 (83 + 2 * a0.toNatClampNeg + 1) (a2 + y).toNatClampNeg) x).2) else F_X7_endRead 0 y (F_X4_tearAt (83 + 2 * a0.toNatClampNeg) a1 (a2 + y) x) x := by
              rw [e53]
              simp only [xl_d, xm_d, Nat.reduceAdd]
              rw [if_pos d, e83]
            rw [EC]
            have lane : x.1 (83 + 2 * a0.toNatClampNeg) 0 = c.1 (83 + 2 * a0.toNatClampNeg) 0 := fx _ _ (by omega)
            have size : x.1 (83 + 2 * a0.toNatClampNeg) 1 = c.1 (83 + 2 * a0.toNatClampNeg) 1 := fx _ _ (by omega)
            have lanem : z.1 6 a0.toNatClampNeg = m.1 6 a0.toNatClampNeg := fz _ _ (by omega)
            have sizem : z.1 7 a0.toNatClampNeg = m.1 7 a0.toNatClampNeg := fz _ _ (by omega)
            have ET : F_X4_tearAt (83 + 2 * a0.toNatClampNeg) a1 (a2 + y) x = if (c.1 (83 + 2 * a0.toNatClampNeg) 0).toInt = -1 then 1 else (if (c.1 (83 + 2 * a0.toNatClampNeg) 0).toInt = a1.toInt then (if (a2 + y).toInt < 0 then 2 else (if (a2 + y).toInt < (c.1 (83 + 2 * a0.toNatClampNeg) 1).toInt then 0 else 2)) else 3) := by
              simp only [F_X4_tearAt, xl_d]
              rw [lane, size]
            -- the reference's turn
            generalize hsm : lp P62 (fun _ _ _ _ => ((0 : Int32), m)) (b + 1) = sm
            rw [hsm] at stop
            generalize hres : P62 sm 0 y y z = res
            rw [e62] at hres
            obtain ⟨J203, e203, hres⟩ := xl_e hres
            obtain ⟨P167, e167, hres⟩ := xl_e hres
            obtain ⟨J136, e136, hres⟩ := xl_e hres
            obtain ⟨J131, e131, hres⟩ := xl_e hres
            simp only [xl_d, Nat.reduceAdd] at hres
            rw [if_pos d, if_pos z0, lanem, sizem] at hres
            have E203 : ∀ (p q : Int32) (v : St), J203 p q v = sm p q (y + 1) v := fun p q v => by rw [e203]; simp only [xl_d]
            have E136 : ∀ t : Int32, ¬ t.toInt = 0 → J136 t = (y, up1 z 0 29 t) := fun t ht => by
              rw [e136]
              simp only [xl_d]
              rw [if_neg ht, E203]
              exact stop t y (y + 1) ht
            have torn : ∀ t : Int32, ¬ t.toInt = 0 → F_X4_tearAt (83 + 2 * a0.toNatClampNeg) a1 (a2 + y) x = t → res = J136 t → (if (F_X4_tearAt (83 + 2 * a0.toNatClampNeg) a1 (a2 + y) x).toInt = 0 then (if (F_X0_step 12 61 (x.1 (83 + 2 * a0.toNatClampNeg + 1) (a2 + y).toNatClampNeg) x).1.toInt = 0 then ((-20 : Int32) - y, (F_X0_step 12 61 (x.1 (83 + 2 * a0.toNatClampNeg + 1) (a2 + y).toNatClampNeg) x).2) else sc (y + 1) (F_X0_step 12 61 (x.1 (83 + 2 * a0.toNatClampNeg + 1) (a2 + y).toNatClampNeg) x).2) else F_X7_endRead 0 y (F_X4_tearAt (83 + 2 * a0.toNatClampNeg) a1 (a2 + y) x) x).1 = res.1 ∧ Sim (if (F_X4_tearAt (83 + 2 * a0.toNatClampNeg) a1 (a2 + y) x).toInt = 0 then (if (F_X0_step 12 61 (x.1 (83 + 2 * a0.toNatClampNeg + 1) (a2 + y).toNatClampNeg) x).1.toInt = 0 then ((-20 : Int32) - y, (F_X0_step 12 61 (x.1 (83 + 2 * a0.toNatClampNeg + 1) (a2 + y).toNatClampNeg) x).2) else sc (y + 1) (F_X0_step 12 61 (x.1 (83 + 2 * a0.toNatClampNeg + 1) (a2 + y).toNatClampNeg) x).2) else F_X7_endRead 0 y (F_X4_tearAt (83 + 2 * a0.toNatClampNeg) a1 (a2 + y) x) x).2 res.2 := fun t ht et er => by
              obtain ⟨x2, -, f2, f3⟩ := fin x z t hI
              rw [et, if_neg ht, f2, er, E136 t ht]
              exact ⟨rfl, f3⟩
            rcases sh.1 with hx | hx
            · rw [if_pos hx.2] at hres
              exact torn 1 (by decide) (by rw [ET, if_pos hx.1]) hres.symm
            · rw [if_neg (by omega)] at hres
              rw [hx.1] at ET
              rw [if_neg (show ¬ (m.1 6 a0.toNatClampNeg).toInt = -1 by omega)] at ET
              by_cases ea : (m.1 6 a0.toNatClampNeg).toInt = a1.toInt
              · rw [if_pos ea] at hres ET
                have sz := sh.2.1
                rw [sz.1] at ET
                have l1 := lcB (a2.toInt64 + y.toInt64) 0
                have l2 := lcB (a2.toInt64 + y.toInt64) (m.1 7 a0.toNatClampNeg).toInt64
                have ra := i32_rng a2
                have q64 : (a2.toInt64 + y.toInt64).toInt = a2.toInt + y.toInt := adL (i64_of a2) (i64_of y) (by omega) (by omega)
                have z64 : (0 : Int64).toInt = 0 := rfl
                rw [q64, z64] at l1
                rw [q64, i64_of] at l2
                have hX : (0 ≤ (a2 + y).toInt ∧ (a2 + y).toInt < 40) → (a2 + y).toInt = a2.toInt + y.toInt := fun hh => by
                  have e := Int32.add_sub_cancel a2 y
                  have t := sbI (x := a2 + y) (y := y) rfl rfl (by omega) (by omega)
                  rw [e] at t
                  omega
                have hQ : (0 ≤ a2.toInt + y.toInt ∧ a2.toInt + y.toInt < 40) → (a2 + y).toInt = a2.toInt + y.toInt := fun hh => adI rfl rfl (by omega) (by omega)
                rw [e131] at hres
                by_cases hin : 0 ≤ a2.toInt + y.toInt ∧ a2.toInt + y.toInt < (m.1 7 a0.toNatClampNeg).toInt
                · have hq2 := hQ (by omega)
                  rw [if_neg (by omega), if_pos (by omega)] at hres
                  rw [if_neg (by omega), if_pos (by omega)] at ET
                  rw [ET, if_pos z0]
                  have nq := cnI (x := a2 + y) (by omega)
                  have m40 : ((40 : Int32) * a0).toInt = 40 * a0.toInt := mlI rfl rfl (by omega) (by omega)
                  have m41 : ((40 : Int32) * a0 + a2).toInt = 40 * a0.toInt + a2.toInt := adI m40 rfl (by omega) (by omega)
                  have m42 : ((40 : Int32) * a0 + a2 + y).toInt = 40 * a0.toInt + a2.toInt + y.toInt := adI m41 rfl (by omega) (by omega)
                  have n42 := cnI (x := (40 : Int32) * a0 + a2 + y) (by omega)
                  have ecell : x.1 (83 + 2 * a0.toNatClampNeg + 1) (a2 + y).toNatClampNeg = z.1 8 ((40 : Int32) * a0 + a2 + y).toNatClampNeg := by
                    rw [fx _ _ (by omega), fz 8 _ (by omega), show ((40 : Int32) * a0 + a2 + y).toNatClampNeg = 40 * a0.toNatClampNeg + (a2 + y).toNatClampNeg by omega, ← sh.2.2 (a2 + y).toNatClampNeg (by omega), show 83 + 2 * a0.toNatClampNeg + 1 = 84 + 2 * a0.toNatClampNeg by omega]
                  rw [e136] at hres
                  simp only [xl_d, xm_d, Nat.reduceAdd] at hres
                  rw [if_pos z0, ← ecell] at hres
                  rw [E203] at hres
                  have hg := RI.go g hI (x.1 (83 + 2 * a0.toNatClampNeg + 1) (a2 + y).toNatClampNeg)
                  generalize F_X0_step 12 61 (x.1 (83 + 2 * a0.toNatClampNeg + 1) (a2 + y).toNatClampNeg) x = S at hg ⊢
                  generalize F_X8_go 0 (x.1 (83 + 2 * a0.toNatClampNeg + 1) (a2 + y).toNatClampNeg) z = T at hg hres
                  rcases hg with ⟨g1, g2, g3, g4⟩ | ⟨g1, g2, g3⟩
                  · rw [if_pos g1]
                    rw [if_pos g2] at hres
                    have R : ∀ (n : Nat) (t : Int32) (v : St), (2147483647 - t.toInt).toNat < n → 0 ≤ t.toInt → t.toInt ≤ 54 → (∀ k : Nat, (k : Int) < t.toInt → v.1 1 k = T.2.1 9 k) → (∀ s k : Nat, (s ≠ 1 ∨ 54 ≤ k) → v.1 s k = T.2.1 s k) → (lp P167 (fun _ _ => ((0 : Int32), m)) n t v).1 = (-20 : Int32) - y ∧ (∀ k : Nat, k < 54 → (lp P167 (fun _ _ => ((0 : Int32), m)) n t v).2.1 1 k = T.2.1 9 k) ∧ ∀ s k : Nat, (s ≠ 1 ∨ 54 ≤ k) → (lp P167 (fun _ _ => ((0 : Int32), m)) n t v).2.1 s k = T.2.1 s k := by
                      intro n
                      induction n with
                      | zero => intro t v hn; exact absurd hn (Nat.not_lt_zero _)
                      | succ n ih2 =>
                        intro t v hn t0 t1 hz hf
                        rw [lp_s]
                        by_cases dt : t.toInt < 54
                        · have et : (t + 1).toInt = t.toInt + 1 := adI rfl rfl (by omega) (by omega)
                          have hcn := cnI (x := t) t0
                          have ep : P167 (lp P167 (fun _ _ => ((0 : Int32), m)) n) t v = lp P167 (fun _ _ => ((0 : Int32), m)) n (t + 1) (up1 v 1 t.toNatClampNeg (T.2.1 9 t.toNatClampNeg)) := by
                            generalize lp P167 (fun _ _ => ((0 : Int32), m)) n = sf
                            rw [e167]
                            simp only [xl_d, Nat.reduceAdd]
                            rw [if_pos dt, hf 9 _ (by omega)]
                          rw [ep]
                          refine ih2 (t + 1) _ (by omega) (by omega) (by omega) (fun k hk => ?_) (fun s k w => by rw [up1_n _ _ (by omega)]; exact hf s k w)
                          by_cases e : k = t.toNatClampNeg
                          · rw [e, up1_s]
                          · rw [up1_n _ _ (by omega)]; exact hz k (by omega)
                        · generalize lp P167 (fun _ _ => ((0 : Int32), m)) n = sf
                          have ep : P167 sf t v = ((-20 : Int32) - y, v) := by
                            rw [e167]
                            simp only [xl_d, Nat.reduceAdd]
                            rw [if_neg dt]
                          rw [ep]
                          exact ⟨rfl, fun k hk => hz k (by omega), hf⟩
                    have q := R (N + 1) 0 T.2 (by rw [← hN]; exact Nat.lt_succ_self N) (by omega) (by omega) (fun k hk => by omega) (fun _ _ _ => rfl)
                    rw [hres] at q
                    obtain ⟨r1, r2, r3⟩ := q
                    rw [r1]
                    refine ⟨rfl, h.fr (fun s k w => by rw [g3 s k (by omega)]; exact fx s k (by omega)) (fun s k w => ?_)⟩
                    by_cases es : s = 1 ∧ k < 54
                    · obtain ⟨rfl, hk⟩ := es
                      rw [r2 k hk, g4 9 k (by omega)]
                      exact hI.2.2.2 k hk
                    · rw [r3 s k (by omega), g4 s k (by omega)]
                      exact fz s k (by omega)
                  · rw [if_neg g1]
                    rw [if_neg g2] at hres
                    rw [← hres, ← hsc, ← hsm]
                    exact ih (y + 1) S.2 T.2 a (b + 1) (ms_s hn ey (by omega)) g3 (by omega) (by omega) (ms_s ha ey (by omega)) (ms_s hb ey (by omega))
                · have nz2 : (if (a2 + y).toInt < 0 then (2 : Int32) else (if (a2 + y).toInt < (m.1 7 a0.toNatClampNeg).toInt then 0 else 2)) = 2 := by
                    by_cases w1 : (a2 + y).toInt < 0
                    · rw [if_pos w1]
                    · rw [if_neg w1, if_neg (fun w2 => by have := hX (by omega); omega)]
                  rw [nz2] at ET
                  refine torn 2 (by decide) ET ?_
                  rw [← hres]
                  by_cases w1 : (lg_cmp (a2.toInt64 + y.toInt64) 0).toInt < 0
                  · rw [if_pos w1]
                  · rw [if_neg w1, if_neg (by omega)]
              · rw [if_neg ea] at hres ET
                exact torn 3 (by decide) ET hres.symm
          · have e3 : a3 = y := Int32.toInt_inj.mp (by omega)
            obtain ⟨x2, -, f2, f3⟩ := fin x z 0 hI
            have EC : lp P53 (fun _ _ => ((0 : Int32), c)) (a + 1) y x = (a3, x2) := by
              rw [lp_s]
              generalize lp P53 (fun _ _ => ((0 : Int32), c)) a = sf
              rw [e53]
              simp only [xl_d, xm_d, Nat.reduceAdd]
              rw [if_neg d, f2]
            have EM : lp P62 (fun _ _ _ _ => ((0 : Int32), m)) (b + 2) 0 y y z = (y, up1 z 0 29 0) := by
              rw [lp_s]
              generalize lp P62 (fun _ _ _ _ => ((0 : Int32), m)) (b + 1) = sf
              rw [e62]
              simp only [xl_d]
              rw [if_neg d]
            rw [EC, EM, e3]
            exact ⟨rfl, f3⟩
      -- how it begins
      have L26 : ∀ (n : Nat) (t : Int32) (v : St), (2147483647 - t.toInt).toNat < n → 0 ≤ t.toInt → t.toInt ≤ 54 → (∀ k : Nat, (k : Int) < t.toInt → v.1 9 k = m.1 1 k) → (∀ s k : Nat, s ≠ 9 → v.1 s k = m.1 s k) → ∃ v2 : St, lp P26 (fun _ _ => ((0 : Int32), m)) n t v = lp P62 (fun _ _ _ _ => ((0 : Int32), m)) (N + 1) 0 0 0 v2 ∧ (∀ k : Nat, k < 54 → v2.1 9 k = m.1 1 k) ∧ ∀ s k : Nat, s ≠ 9 → v2.1 s k = m.1 s k := by
        intro n
        induction n with
        | zero => intro t v hn; exact absurd hn (Nat.not_lt_zero _)
        | succ n ih2 =>
          intro t v hn t0 t1 hz hf
          rw [lp_s]
          by_cases dt : t.toInt < 54
          · have et : (t + 1).toInt = t.toInt + 1 := adI rfl rfl (by omega) (by omega)
            have hcn := cnI (x := t) t0
            have ep : P26 (lp P26 (fun _ _ => ((0 : Int32), m)) n) t v = lp P26 (fun _ _ => ((0 : Int32), m)) n (t + 1) (up1 v 9 t.toNatClampNeg (m.1 1 t.toNatClampNeg)) := by
              generalize lp P26 (fun _ _ => ((0 : Int32), m)) n = sf
              rw [e26]
              simp only [xl_d, Nat.reduceAdd]
              rw [if_pos dt, hf 1 _ (by omega)]
            rw [ep]
            refine ih2 (t + 1) _ (by omega) (by omega) (by omega) (fun k hk => ?_) (fun s k w => by rw [up1_n _ _ (by omega)]; exact hf s k w)
            by_cases e : k = t.toNatClampNeg
            · rw [e, up1_s]
            · rw [up1_n _ _ (by omega)]; exact hz k (by omega)
          · generalize lp P26 (fun _ _ => ((0 : Int32), m)) n = sf
            refine ⟨v, ?_, fun k hk => hz k (by omega), hf⟩
            rw [e26]
            simp only [xl_d, Nat.reduceAdd]
            rw [if_neg dt]
      obtain ⟨v2, k1, k2, k3⟩ := L26 (N + 1) 0 m (by rw [← hN]; exact Nat.lt_succ_self N) (by omega) (by omega) (fun k hk => by omega) (fun _ _ _ => rfl)
      rw [k1] at hM
      have hb := beP 61 17 (by omega) c
      generalize F_X2_become 61 17 c = u31 at hb hC
      obtain ⟨b0, b1, b2, b3, bf⟩ := hb
      have hI : RI c m u31 v2 := by
        obtain ⟨-, ⟨f1, f2, f3, f4, f5, f6, f7, f8, f9⟩, -⟩ := g
        simp only [Nat.zero_add, Nat.reduceAdd] at f5 f7 f8 f9
        refine ⟨fun a b w => bf a b (by omega), fun a b w => k3 a b (by omega), ⟨?_, ?_, ?_, ?_⟩, k2⟩
        · rw [b3, k3 1 27 (by omega)]; exact f5
        · rw [b0, k3 1 29 (by omega)]; exact f7
        · rw [b1, k3 1 30 (by omega), k3 1 29 (by omega)]; exact f8
        · rw [b2, k3 1 31 (by omega), k3 1 29 (by omega)]; exact f9
      have res := Lp 20 0 u31 v2 (N + 1) (N + 1) (by omega) hI (by omega) (by omega) (by rw [← hN]; exact Nat.lt_succ_self N) (by rw [← hN]; exact Nat.lt_succ_self N)
      rw [hC, hM] at res
      exact res
    · refine no ?_ ?_
      · by_cases q1 : a3.toInt < 0
        · rw [if_pos q1] at hC; exact hC
        · rw [if_neg q1, if_pos (by omega)] at hC; exact hC
      · rw [if_pos (i10.mpr q)] at hM; exact hM
  · refine no ?_ ?_
    · by_cases q1 : 0 ≤ a0.toInt ∧ a0.toInt ≤ 3
      · rw [if_neg (fun z => isShC.mp z q1), if_pos (isLaC.mpr (fun z => p ⟨q1, z⟩))] at hC; exact hC
      · rw [if_pos (isShC.mpr q1)] at hC; exact hC
    · rw [if_pos (isShM.mpr p)] at hM; exact hM
/-! how both begin -/
theorem Sim.start : Sim Z_7 Z_8 := by
  have c0 : (0 : Int32).toInt = 0 := rfl
  have c20 : (20 : Int32).toInt = 20 := rfl
  have cm1 : (-1 : Int32).toInt = -1 := rfl
  have cm4 : (-4 : Int32).toInt = -4 := rfl
  obtain ⟨z, hz⟩ : ∃ z : St, z = vz [(fun _ => 0), (fun _ => 0), (fun _ => 0), (fun _ => 0), (fun _ => 0), (fun _ => 0), (upd (upd (upd (upd (fun _ => 0) 0 (-4)) 1 (-4)) 2 (-4)) 3 (-4)), (fun _ => 0), (fun _ => 0), (fun _ => 0)] := ⟨_, rfl⟩
  have e8 : Z_8 = F_X8_keepDraft 0 (F_X8_firstDraft 0 z) := by rw [hz]; rfl
  have zr : ∀ a b : Nat, a ≠ 6 → z.1 a b = 0 := fun a b h => by
    rw [hz]
    match a, h with
    | 0, _ => rfl
    | 1, _ => rfl
    | 2, _ => rfl
    | 3, _ => rfl
    | 4, _ => rfl
    | 5, _ => rfl
    | 7, _ => rfl
    | 8, _ => rfl
    | 9, _ => rfl
    | a + 10, _ => simp [vz]
  have z6 : ∀ s : Nat, s < 4 → z.1 6 s = -4 := fun s h => by
    rw [hz]
    rcases (show s = 0 ∨ s = 1 ∨ s = 2 ∨ s = 3 by omega) with rfl | rfl | rfl | rfl <;> rfl
  obtain ⟨d1, ⟨d6, d7, d8, d9, d10⟩, df⟩ := fdM z
  generalize F_X8_firstDraft 0 z = d at d1 d6 d7 d8 d9 d10 df e8
  obtain ⟨k1, ⟨k2, k3, k4, k5⟩, kf⟩ := kdM d (by rw [d6]; decide)
  rw [← e8] at k1 k2 k3 k4 k5 kf
  have w1 : ∀ b : Nat, b < 54 → Z_8.1 1 b = fd b := fun b hb => by rw [(k1 b hb).1 (fun s hs => by rw [d6] at hs; omega)]; exact d1 b hb
  have w3 : Z_8.1 0 3 = 0 := by rw [k2]; exact d6
  have w4 : Z_8.1 0 4 = 0 := by rw [k3]; exact d7
  have n9 : ∀ a b : Nat, (a = 5 ∨ a = 7 ∨ a = 8 ∨ (a = 0 ∧ (b = 12 ∨ b = 29))) → Z_8.1 a b = 0 := fun a b h => by rw [kf a b (by omega), df a b (by omega)]; exact zr a b (by omega)
  have n6 : ∀ s : Nat, s < 4 → Z_8.1 6 s = -4 := fun s h => by rw [kf 6 s (by omega), df 6 s (by omega)]; exact z6 s h
  refine ⟨⟨⟨⟨by rw [w3]; rfl, by rw [w3]; omega, by rw [w3]; omega⟩, ⟨by rw [w4]; rfl, by rw [w4]; omega, by rw [w4]; omega⟩⟩, ⟨?_, ?_, ?_, ?_, ?_, ?_, ?_, ?_, ?_⟩, ⟨⟨by decide, by decide, fun s hs es => ?_⟩, fun i hi => by rw [w3] at hi; omega⟩, fun i hi => by rw [w4] at hi; omega, ⟨?_, fun i hi => ?_⟩, ⟨?_, fun i hi => ?_⟩⟩, ?_, ?_, ?_, ?_⟩
  · rw [w1 (0 + 23) (by omega), w4]; exact ⟨rfl, by decide, fun h => absurd c0 h⟩
  · rw [w1 (0 + 24) (by omega)]; rfl
  · rw [w1 (0 + 25) (by omega)]; rfl
  · rw [w1 (0 + 26) (by omega)]; rfl
  · rw [w1 (0 + 27) (by omega)]; exact ⟨rfl, by decide, by decide⟩
  · rw [w1 (0 + 28) (by omega)]; rfl
  · rw [w1 (0 + 29) (by omega)]; exact ⟨rfl, by decide, by decide⟩
  · rw [w1 (0 + 30) (by omega), w1 (0 + 29) (by omega)]; exact ⟨rfl, by decide, by decide⟩
  · rw [w1 (0 + 31) (by omega), w1 (0 + 29) (by omega)]; exact ⟨rfl, by decide, by decide⟩
  · have e : Z_7.1 12 4 = 0 := rfl
    rw [e, c0]
    have := Nat.two_pow_pos s
    omega
  · rw [w1 (0 + 32) (by omega)]; exact ⟨rfl, by decide, by decide⟩
  · rw [w1 (0 + 32) (by omega)] at hi
    have e : (fd (0 + 32)).toInt = 0 := rfl
    omega
  · rw [w1 (0 + 41) (by omega)]; exact ⟨rfl, by decide, by decide⟩
  · rw [w1 (0 + 41) (by omega)] at hi
    have e : (fd (0 + 41)).toInt = 0 := rfl
    omega
  · intro i hi
    rcases (show i = 0 ∨ i = 1 by omega) with rfl | rfl
    · rw [k4]; exact ⟨rfl, Or.inl c0, fun h => by omega⟩
    · rw [k5]; exact ⟨rfl, Or.inl c0, fun h => by omega⟩
  · have e12 := n9 0 12 (by omega)
    exact ⟨⟨by rw [e12]; rfl, by rw [e12]; omega, by rw [e12]; omega⟩, fun i hi => by rw [e12] at hi; omega⟩
  · intro s hs
    rw [n6 s hs, n9 7 s (by omega)]
    have r0 : Z_7.1 (83 + 2 * s) 0 = -1 ∧ Z_7.1 (83 + 2 * s) 1 = 0 ∧ ∀ i : Nat, Z_7.1 (84 + 2 * s) i = 0 := by
      rcases (show s = 0 ∨ s = 1 ∨ s = 2 ∨ s = 3 by omega) with rfl | rfl | rfl | rfl <;> exact ⟨rfl, rfl, fun _ => rfl⟩
    rw [r0.1, r0.2.1]
    exact ⟨Or.inl ⟨cm1, cm4⟩, ⟨rfl, by decide, by decide⟩, fun i hi => by rw [r0.2.2, n9 8 _ (by omega)]⟩
  · rw [n9 0 29 (by omega)]; rfl
