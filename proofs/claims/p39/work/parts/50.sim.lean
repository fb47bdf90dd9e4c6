/-! what the class and the reference have in common -/
def Na (k : Nat) (c m : St) : Prop := (c.1 k 3 = m.1 0 3 ∧ 0 ≤ (m.1 0 3).toInt ∧ (m.1 0 3).toInt ≤ 5) ∧ (c.1 k 6 = m.1 0 4 ∧ 0 ≤ (m.1 0 4).toInt ∧ (m.1 0 4).toInt ≤ 3)
def Nf (k o : Nat) (c m : St) : Prop := (c.1 k 7 = m.1 1 (o + 23) ∧ 0 ≤ (m.1 1 (o + 23)).toInt ∧ (¬ (m.1 0 4).toInt = 0 → (m.1 1 (o + 23)).toInt < (m.1 0 4).toInt)) ∧ c.1 k 8 = m.1 1 (o + 24) ∧ c.1 k 9 = m.1 1 (o + 25) ∧ c.1 k 10 = m.1 1 (o + 26) ∧ (c.1 (k + 5) 3 = m.1 1 (o + 27) ∧ 0 ≤ (m.1 1 (o + 27)).toInt ∧ (m.1 1 (o + 27)).toInt ≤ 99) ∧ c.1 k 11 = m.1 1 (o + 28) ∧ (c.1 (k + 5) 0 = m.1 1 (o + 29) ∧ 0 ≤ (m.1 1 (o + 29)).toInt ∧ (m.1 1 (o + 29)).toInt ≤ 10) ∧ (c.1 (k + 5) 1 = m.1 1 (o + 30) ∧ 0 ≤ (m.1 1 (o + 30)).toInt ∧ (m.1 1 (o + 30)).toInt ≤ 3 * (m.1 1 (o + 29)).toInt) ∧ c.1 (k + 5) 2 = m.1 1 (o + 31) ∧ -30 * (m.1 1 (o + 29)).toInt ≤ (m.1 1 (o + 31)).toInt ∧ (m.1 1 (o + 31)).toInt ≤ 30 * (m.1 1 (o + 29)).toInt
def Ns (k o : Nat) (c m : St) : Prop := (0 ≤ (c.1 k 4).toInt ∧ (c.1 k 4).toInt ≤ 31 ∧ ∀ s : Nat, s ≤ 5 → (m.1 0 3).toInt = (s : Int) → (c.1 k 4).toInt < ((2 ^ s : Nat) : Int)) ∧ ∀ i : Nat, (i : Int) < (m.1 0 3).toInt → c.1 (k + 1) i = m.1 1 (o + 4 * i) ∧ c.1 (k + 2) i = m.1 1 (o + 4 * i + 1) ∧ (c.1 (k + 3) i = m.1 1 (o + 4 * i + 2) ∧ 0 ≤ (m.1 1 (o + 4 * i + 2)).toInt ∧ (m.1 1 (o + 4 * i + 2)).toInt ≤ 6) ∧ (c.1 k 4 >>> (Int32.ofNat i &&& 31)) &&& 1 = m.1 1 (o + 4 * i + 3)
def Nw (k o : Nat) (c m : St) : Prop := ∀ i : Nat, (i : Int) < (m.1 0 4).toInt → c.1 (k + 4) i = m.1 1 (o + 20 + i) ∧ 0 ≤ (m.1 1 (o + 20 + i)).toInt ∧ (m.1 1 (o + 20 + i)).toInt ≤ 3
def Np (k o : Nat) (c m : St) : Prop := (c.1 k 14 = m.1 1 (o + 32) ∧ 0 ≤ (m.1 1 (o + 32)).toInt ∧ (m.1 1 (o + 32)).toInt ≤ 8) ∧ ∀ i : Nat, (i : Int) < (m.1 1 (o + 32)).toInt → c.1 (k + 6) i = m.1 1 (o + 33 + i) ∧ 0 ≤ (m.1 1 (o + 33 + i)).toInt ∧ (m.1 1 (o + 33 + i)).toInt ≤ 6 ∧ ((m.1 1 (o + 33 + i)).toInt < 5 → (m.1 1 (o + 33 + i)).toInt < (m.1 0 3).toInt)
def Nq (k o : Nat) (c m : St) : Prop := (c.1 k 17 = m.1 1 (o + 41) ∧ 0 ≤ (m.1 1 (o + 41)).toInt ∧ (m.1 1 (o + 41)).toInt ≤ 6) ∧ ∀ i : Nat, (i : Int) < (m.1 1 (o + 41)).toInt → c.1 (k + 7) i = m.1 1 (o + 42 + 2 * i) ∧ c.1 (k + 8) i = m.1 1 (o + 42 + 2 * i + 1) ∧ 0 ≤ (m.1 1 (o + 42 + 2 * i)).toInt ∧ (m.1 1 (o + 42 + 2 * i)).toInt ≤ 8
def NR (k o : Nat) (c m : St) : Prop := Na k c m ∧ Nf k o c m ∧ Ns k o c m ∧ Nw k o c m ∧ Np k o c m ∧ Nq k o c m
theorem NR.mv {k o k2 o2 : Nat} {c m c2 m2 : St} (h : NR k o c m) (h3 : m2.1 0 3 = m.1 0 3) (h4 : m2.1 0 4 = m.1 0 4) (hm : ∀ b : Nat, b < 54 → m2.1 1 (o2 + b) = m.1 1 (o + b)) (hf : ∀ j : Nat, (j = 3 ∨ j = 4 ∨ (6 ≤ j ∧ j ≤ 11) ∨ j = 14 ∨ j = 17) → c2.1 k2 j = c.1 k j) (hp : ∀ j : Nat, j < 4 → c2.1 (k2 + 5) j = c.1 (k + 5) j) (hs : ∀ j : Nat, j < 5 → c2.1 (k2 + 1) j = c.1 (k + 1) j ∧ c2.1 (k2 + 2) j = c.1 (k + 2) j ∧ c2.1 (k2 + 3) j = c.1 (k + 3) j) (hw : ∀ j : Nat, j < 3 → c2.1 (k2 + 4) j = c.1 (k + 4) j) (hpl : ∀ j : Nat, j < 8 → c2.1 (k2 + 6) j = c.1 (k + 6) j) (hq : ∀ j : Nat, j < 6 → c2.1 (k2 + 7) j = c.1 (k + 7) j ∧ c2.1 (k2 + 8) j = c.1 (k + 8) j) : NR k2 o2 c2 m2 := by
  obtain ⟨⟨a1, a2⟩, ⟨f1, f2, f3, f4, f5, f6, f7, f8, f9⟩, ⟨s1, s2⟩, w, ⟨p1, p2⟩, ⟨q1, q2⟩⟩ := h
  refine ⟨⟨?_, ?_⟩, ⟨?_, ?_, ?_, ?_, ?_, ?_, ?_, ?_, ?_⟩, ⟨?_, fun i hi => ?_⟩, fun i hi => ?_, ⟨?_, fun i hi => ?_⟩, ⟨?_, fun i hi => ?_⟩⟩
  · rw [hf 3 (by omega), h3]; exact a1
  · rw [hf 6 (by omega), h4]; exact a2
  · rw [hf 7 (by omega), h4, hm 23 (by omega)]; exact f1
  · rw [hf 8 (by omega), hm 24 (by omega)]; exact f2
  · rw [hf 9 (by omega), hm 25 (by omega)]; exact f3
  · rw [hf 10 (by omega), hm 26 (by omega)]; exact f4
  · rw [hp 3 (by omega), hm 27 (by omega)]; exact f5
  · rw [hf 11 (by omega), hm 28 (by omega)]; exact f6
  · rw [hp 0 (by omega), hm 29 (by omega)]; exact f7
  · rw [hp 1 (by omega), hm 30 (by omega), hm 29 (by omega)]; exact f8
  · rw [hp 2 (by omega), hm 31 (by omega), hm 29 (by omega)]; exact f9
  · rw [hf 4 (by omega), h3]; exact s1
  · rw [h3] at hi
    have hj := hs i (by omega)
    have b0 := hm (4 * i) (by omega)
    have b1 := hm (4 * i + 1) (by omega)
    have b2 := hm (4 * i + 2) (by omega)
    have b3 := hm (4 * i + 3) (by omega)
    rw [← Nat.add_assoc, ← Nat.add_assoc] at b1 b2 b3
    rw [hj.1, hj.2.1, hj.2.2, hf 4 (by omega), b0, b1, b2, b3]
    exact s2 i hi
  · rw [h4] at hi
    have b0 := hm (20 + i) (by omega)
    rw [← Nat.add_assoc, ← Nat.add_assoc] at b0
    rw [hw i (by omega), b0]
    exact w i hi
  · rw [hf 14 (by omega), hm 32 (by omega)]; exact p1
  · rw [hm 32 (by omega)] at hi
    have b0 := hm (33 + i) (by omega)
    rw [← Nat.add_assoc, ← Nat.add_assoc] at b0
    rw [hpl i (by omega), b0, h3]
    exact p2 i hi
  · rw [hf 17 (by omega), hm 41 (by omega)]; exact q1
  · rw [hm 41 (by omega)] at hi
    have b0 := hm (42 + 2 * i) (by omega)
    have b1 := hm (42 + 2 * i + 1) (by omega)
    rw [← Nat.add_assoc, ← Nat.add_assoc] at b0 b1
    rw [← Nat.add_assoc, ← Nat.add_assoc] at b1
    rw [(hq i (by omega)).1, (hq i (by omega)).2, b0, b1]
    exact q2 i hi
theorem NR.fr {k o : Nat} {c m c2 m2 : St} (h : NR k o c m) (h3 : m2.1 0 3 = m.1 0 3) (h4 : m2.1 0 4 = m.1 0 4) (hm : ∀ b : Nat, o ≤ b → b < o + 54 → m2.1 1 b = m.1 1 b) (hc : ∀ a b : Nat, k ≤ a → a < k + 9 → c2.1 a b = c.1 a b) : NR k o c2 m2 :=
  h.mv h3 h4 (fun b hb => hm _ (by omega) (by omega)) (fun j _ => hc _ _ (by omega) (by omega)) (fun j _ => hc _ _ (by omega) (by omega)) (fun j _ => ⟨hc _ _ (by omega) (by omega), hc _ _ (by omega) (by omega), hc _ _ (by omega) (by omega)⟩) (fun j _ => hc _ _ (by omega) (by omega)) (fun j _ => hc _ _ (by omega) (by omega)) (fun j _ => ⟨hc _ _ (by omega) (by omega), hc _ _ (by omega) (by omega)⟩)
/-- images -/
def Im (c m : St) : Prop := ∀ i : Nat, i < 2 → c.1 63 i = m.1 3 i ∧ ((m.1 3 i).toInt = 0 ∨ (m.1 3 i).toInt = 1) ∧ ((m.1 3 i).toInt = 1 → NR (65 + 9 * i) (54 * (i + 1)) c m)
/-- the tape -/
def Tp (c m : St) : Prop := (c.1 1 1 = m.1 0 12 ∧ 0 ≤ (m.1 0 12).toInt ∧ (m.1 0 12).toInt ≤ 160) ∧ ∀ i : Nat, (i : Int) < (m.1 0 12).toInt → c.1 2 i = m.1 5 i ∧ 0 ≤ (m.1 5 i).toInt ∧ (m.1 5 i).toInt ≤ 127
/-- sheets -/
def Sh (c m : St) : Prop := ∀ s : Nat, s < 4 → (((c.1 (83 + 2 * s) 0).toInt = -1 ∧ (m.1 6 s).toInt = -4) ∨ (c.1 (83 + 2 * s) 0 = m.1 6 s ∧ 0 ≤ (m.1 6 s).toInt ∧ (m.1 6 s).toInt ≤ 2)) ∧ (c.1 (83 + 2 * s) 1 = m.1 7 s ∧ 0 ≤ (m.1 7 s).toInt ∧ (m.1 7 s).toInt ≤ 40) ∧ ∀ i : Nat, i < 40 → c.1 (84 + 2 * s) i = m.1 8 (40 * s + i)
def Sim (c m : St) : Prop := NR 12 0 c m ∧ Im c m ∧ Tp c m ∧ Sh c m ∧ c.1 0 10 = m.1 0 29
theorem Im.fr {c m c2 m2 : St} (h : Im c m) (h3 : m2.1 0 3 = m.1 0 3) (h4 : m2.1 0 4 = m.1 0 4) (hm : ∀ b : Nat, 54 ≤ b → m2.1 1 b = m.1 1 b) (hk : ∀ b : Nat, m2.1 3 b = m.1 3 b) (hc : ∀ a b : Nat, 63 ≤ a → a < 83 → c2.1 a b = c.1 a b) : Im c2 m2 := fun i hi => by
  rw [hc 63 i (by omega) (by omega), hk]
  have := h i hi
  exact ⟨this.1, this.2.1, fun z => (this.2.2 z).fr h3 h4 (fun b _ _ => hm b (by omega)) (fun a b _ _ => hc a b (by omega) (by omega))⟩
theorem Tp.fr {c m c2 m2 : St} (h : Tp c m) (h1 : c2.1 1 1 = c.1 1 1) (h2 : ∀ b : Nat, c2.1 2 b = c.1 2 b) (h3 : m2.1 0 12 = m.1 0 12) (h4 : ∀ b : Nat, m2.1 5 b = m.1 5 b) : Tp c2 m2 := by
  unfold Tp at h ⊢
  rw [h1, h3]
  exact ⟨h.1, fun i hi => by rw [h2, h4]; exact h.2 i hi⟩
theorem Sh.fr {c m c2 m2 : St} (h : Sh c m) (hc : ∀ a b : Nat, 83 ≤ a → a < 91 → c2.1 a b = c.1 a b) (hm : ∀ a b : Nat, (a = 6 ∨ a = 7 ∨ a = 8) → m2.1 a b = m.1 a b) : Sh c2 m2 := fun s hs => by
  rw [hc _ _ (by omega) (by omega), hc _ _ (by omega) (by omega), hm 6 s (by omega), hm 7 s (by omega)]
  exact ⟨(h s hs).1, (h s hs).2.1, fun i hi => by rw [hc _ _ (by omega) (by omega), hm 8 _ (by omega)]; exact (h s hs).2.2 i hi⟩
/-- where neither touches what is told -/
theorem Sim.fr {c m c2 m2 : St} (h : Sim c m) (hc : ∀ a b : Nat, ((12 ≤ a ∧ a < 21) ∨ (63 ≤ a ∧ a < 91) ∨ a = 2 ∨ (a = 1 ∧ b = 1) ∨ (a = 0 ∧ b = 10)) → c2.1 a b = c.1 a b) (hm : ∀ a b : Nat, (a = 1 ∨ a = 3 ∨ (5 ≤ a ∧ a < 9) ∨ (a = 0 ∧ (b = 3 ∨ b = 4 ∨ b = 12 ∨ b = 29))) → m2.1 a b = m.1 a b) : Sim c2 m2 :=
  ⟨h.1.fr (hm _ _ (by omega)) (hm _ _ (by omega)) (fun b _ _ => hm _ _ (by omega)) (fun a b _ _ => hc _ _ (by omega)), h.2.1.fr (hm _ _ (by omega)) (hm _ _ (by omega)) (fun b _ => hm _ _ (by omega)) (fun b => hm _ _ (by omega)) (fun a b _ _ => hc _ _ (by omega)), h.2.2.1.fr (hc _ _ (by omega)) (fun b => hc _ _ (by omega)) (hm _ _ (by omega)) (fun b => hm _ _ (by omega)), h.2.2.2.1.fr (fun a b _ _ => hc _ _ (by omega)) (fun a b _ => hm _ _ (by omega)), by rw [hc 0 10 (by omega), hm 0 29 (by omega)]; exact h.2.2.2.2⟩
theorem Tp.ok {c m : St} (h : Tp c m) : BC 1 c = BM 0 m ∧ okB (BM 0 m) (m.1 0 12).toInt ∧ (c.1 1 1).toInt = (m.1 0 12).toInt := by
  obtain ⟨⟨h1, h2, h3⟩, h4⟩ := h
  refine ⟨?_, ⟨h2, h3, fun i => ?_⟩, by rw [h1]⟩
  · unfold BC BM
    funext i
    rw [h1]
    by_cases z : 0 ≤ i ∧ i < (m.1 0 12).toInt
    · rw [if_pos z, if_pos z, (h4 i.toNat (by omega)).1]
    · rw [if_neg z, if_neg z]
  · unfold BM
    by_cases z : 0 ≤ i ∧ i < (m.1 0 12).toInt
    · rw [if_pos z]
      have := h4 i.toNat (by omega)
      show (-1 ≤ (m.1 5 i.toNat).toInt ∧ (m.1 5 i.toNat).toInt ≤ 127) ∧ ((m.1 5 i.toNat).toInt = -1 ↔ _)
      omega
    · rw [if_neg z]
      omega
