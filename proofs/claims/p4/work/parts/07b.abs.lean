/-! the class's tape, and the reference's, as a state of the reading -/
def bG (g : Nat → Nat → Int32) (k : Nat) : Int → Int := fun i => if 0 ≤ i ∧ i < (g k 1).toInt then (g (k + 1) i.toNat).toInt else -1
def bM (g : Nat → Nat → Int32) (k : Nat) : Int → Int := fun i => if 0 ≤ i ∧ i < (g k 12).toInt then (g (k + 5) i.toNat).toInt else -1
/-- the draft, k: the tape -/
def DrC (k : Nat) (v : St) (p : PS) : Prop := (v.1 k 7).toInt = p 0 6 + 2 * p 0 7 + 4 * p 0 8 + 8 * p 0 9 ∧ (v.1 (k + 2) 3).toInt = p 0 10 ∧ (v.1 (k + 2) 6).toInt = p 0 11 ∧ (v.1 (k + 2) 4).toInt = p 0 12 ∧ (v.1 (k + 2) 8).toInt = p 0 13 ∧ (v.1 (k + 2) 9).toInt = p 0 14 ∧ (v.1 (k + 2) 10).toInt = p 0 15 ∧ (v.1 (k + 2 + 5) 3).toInt = p 0 16 ∧ (v.1 (k + 2) 11).toInt = p 0 17 ∧ (v.1 (k + 2) 14).toInt = p 0 18 ∧ ((v.1 (k + 2) 7).toInt = 0 ∧ (v.1 (k + 2) 17).toInt = 0 ∧ (v.1 (k + 2 + 5) 0).toInt = 0 ∧ (v.1 (k + 2 + 5) 1).toInt = 0 ∧ (v.1 (k + 2 + 5) 2).toInt = 0) ∧ (∀ i : Nat, (i : Int) < p 0 18 → (v.1 (k + 2 + 6) i).toInt = p 1 i) ∧ (∀ i : Nat, (i : Int) < p 0 10 → (v.1 (k + 2 + 1) i).toInt = p 2 i ∧ (v.1 (k + 2 + 2) i).toInt = p 3 i ∧ (v.1 (k + 2 + 3) i).toInt = p 4 i) ∧ (∀ i : Nat, (i : Int) < p 0 11 → (v.1 (k + 2 + 4) i).toInt = p 5 i)
def AbC (g : Nat → Nat → Int32) (k : Nat) (v : St) (p : PS) : Prop := ((v.1 k 8).toInt = 0 ↔ p 0 4 = 0) ∧ (¬ p 0 4 = 0 → (v.1 k 9).toInt = p 0 5) ∧ (p 0 4 = 0 → (v.1 k 5).toInt = p 0 2 ∧ (¬ p 0 0 = -9 → (v.1 k 3).toInt = p 0 0 ∧ (v.1 k 4).toInt = p 0 1) ∧ (p 0 0 = 2 → (v.1 k 6).toInt = p 0 3) ∧ DrC k v p) ∧ PI (bG g k) (g k 1).toInt p
/-- the draft doesn't look at the token -/
theorem DrC.put {k j : Nat} {v u : St} {p : PS} {x : Int32} (h : DrC k v p) (e : up1 v k j x = u) (hj : j ≠ 7) : DrC k u p := by
  have n : ∀ a b : Nat, (a ≠ k ∨ b ≠ j) → u.1 a b = v.1 a b := fun a b z => by rw [← e]; exact up1_n _ _ z
  unfold DrC at h ⊢
  simp only [n k 7 (by omega), n (k + 2) 3 (by omega), n (k + 2) 6 (by omega), n (k + 2) 4 (by omega), n (k + 2) 8 (by omega), n (k + 2) 9 (by omega), n (k + 2) 10 (by omega), n (k + 2 + 5) 3 (by omega), n (k + 2) 11 (by omega), n (k + 2) 14 (by omega), n (k + 2) 7 (by omega), n (k + 2) 17 (by omega), n (k + 2 + 5) 0 (by omega), n (k + 2 + 5) 1 (by omega), n (k + 2 + 5) 2 (by omega)]
  obtain ⟨h1, h2, h3, h4, h5, h6, h7, h8, h9, h10, h11, h12, h13, h14⟩ := h
  exact ⟨h1, h2, h3, h4, h5, h6, h7, h8, h9, h10, h11, fun i hi => by rw [n _ _ (by omega)]; exact h12 i hi, fun i hi => by rw [n _ _ (by omega), n _ _ (by omega), n _ _ (by omega)]; exact h13 i hi, fun i hi => by rw [n _ _ (by omega)]; exact h14 i hi⟩
/-- nor at the first four slots of the reading, nor at what is behind the draft -/
theorem DrC.tok {k : Nat} {v : St} {p q : PS} (h : DrC k v p) (e : ∀ a b : Nat, (a ≠ 0 ∨ 6 ≤ b) → q a b = p a b) : DrC k v q := by
  unfold DrC at h ⊢
  simp only [e 0 6 (by omega), e 0 7 (by omega), e 0 8 (by omega), e 0 9 (by omega), e 0 10 (by omega), e 0 11 (by omega), e 0 12 (by omega), e 0 13 (by omega), e 0 14 (by omega), e 0 15 (by omega), e 0 16 (by omega), e 0 17 (by omega), e 0 18 (by omega)]
  obtain ⟨h1, h2, h3, h4, h5, h6, h7, h8, h9, h10, h11, h12, h13, h14⟩ := h
  exact ⟨h1, h2, h3, h4, h5, h6, h7, h8, h9, h10, h11, fun i hi => by rw [e 1 i (by omega)]; exact h12 i hi, fun i hi => by rw [e 2 i (by omega), e 3 i (by omega), e 4 i (by omega)]; exact h13 i hi, fun i hi => by rw [e 5 i (by omega)]; exact h14 i hi⟩
theorem AbC.flt {g : Nat → Nat → Int32} {k : Nat} {u : St} {a : Int} (hB : okB (bG g k) (g k 1).toInt) (h8 : ¬ (u.1 k 8).toInt = 0) (h9 : (u.1 k 9).toInt = a) : AbC g k u (flt a) := by
  refine ⟨⟨fun z => absurd z h8, fun z => ?_⟩, fun _ => h9, fun z => ?_, PI.flt hB⟩
  · rw [flt_4] at z; omega
  · rw [flt_4] at z; omega
theorem rfS_x {a : Int} {p : PS} (h : ¬ p 0 4 = 0) : rfS a p = p := if_neg h
theorem rfS_f {a : Int} {p : PS} (h : p 0 4 = 0) : rfS a p = flt a := if_pos h
theorem ndS_ok {d : Int} {p : PS} (h : p 0 4 = 0 → p 0 0 = d) : ndS d p = p := by
  unfold ndS
  by_cases c : p 0 4 = 0
  · rw [if_pos c, if_pos (h c)]
  · rw [if_neg c]
theorem ndS_r {d a : Int} {p : PS} (h : p 0 4 = 0 → ¬ p 0 0 = d ∧ p 0 1 = a) : rfS a p = ndS d p := by
  unfold ndS rfS
  by_cases c : p 0 4 = 0
  · rw [if_pos c, if_pos c, if_neg (h c).1, (h c).2]
  · rw [if_neg c, if_neg c]
theorem wiS_ok {a b : Int} {p : PS} (h : p 0 4 = 0 → a ≤ p 0 3 ∧ p 0 3 ≤ b) : wiS a b p = p := by
  unfold wiS
  by_cases c : p 0 4 = 0
  · rw [if_pos c, if_pos (h c)]
  · rw [if_neg c]
theorem wiS_r {a b f : Int} {p : PS} (h : p 0 4 = 0 → ¬ (a ≤ p 0 3 ∧ p 0 3 ≤ b) ∧ p 0 1 = f) : rfS f p = wiS a b p := by
  unfold wiS rfS
  by_cases c : p 0 4 = 0
  · rw [if_pos c, if_pos c, if_neg (h c).1, (h c).2]
  · rw [if_neg c, if_neg c]
theorem mnS_ok {n : Nat} {m : Int} {p : PS} (h : p 0 4 = 0 → p 0 n < m) : mnS n m p = p := by
  unfold mnS
  by_cases c : p 0 4 = 0
  · rw [if_pos c, if_pos (h c)]
  · rw [if_neg c]
theorem mnS_r {n : Nat} {m f : Int} {p : PS} (h : p 0 4 = 0 → ¬ p 0 n < m ∧ p 0 1 = f) : rfS f p = mnS n m p := by
  unfold mnS rfS
  by_cases c : p 0 4 = 0
  · rw [if_pos c, if_pos c, if_neg (h c).1, (h c).2]
  · rw [if_neg c, if_neg c]
theorem kaS_ok {n : Nat} {p : PS} (h : p 0 4 = 0 → bt (p 0 n) (p 0 3) = 0) : kaS n p = p := by
  unfold kaS
  by_cases c : p 0 4 = 0
  · rw [if_pos c, if_pos (h c)]
  · rw [if_neg c]
theorem kaS_r {n : Nat} {f : Int} {p : PS} (h : p 0 4 = 0 → ¬ bt (p 0 n) (p 0 3) = 0 ∧ p 0 1 = f) : rfS f p = kaS n p := by
  unfold kaS rfS
  by_cases c : p 0 4 = 0
  · rw [if_pos c, if_pos c, if_neg (h c).1, (h c).2]
  · rw [if_neg c, if_neg c]
theorem tkS_t {B : Int → Int} {p : PS} (h : tkS B p 0 4 = 0) : p 0 4 = 0 := by
  by_cases c : p 0 4 = 0
  · exact c
  · rw [tkS_x c] at h; exact h
theorem tkS_ok {B : Int → Int} {p : PS} (h : tkS B p 0 4 = 0) : tkS B p = pu (pu (pu (pu p 0 0 (kd (B (skp B (p 0 2))))) 0 1 (skp B (p 0 2))) 0 2 (rq B (skp B (p 0 2)))) 0 3 (vl B (skp B (p 0 2))) := by
  have c := tkS_t h
  unfold tkS at h ⊢
  rw [if_pos c] at h ⊢
  unfold tk1 at h ⊢
  split
  · rename_i z
    rw [if_pos z, flt_4] at h
    omega
  · rfl
theorem tkS_9 {B : Int → Int} {p : PS} (h : tkS B p 0 4 = 0) : ¬ tkS B p 0 0 = -9 := by
  rw [tkS_ok h, pu_n (by omega), pu_n (by omega), pu_n (by omega), pu_s]
  have := kd_9 (c := B (skp B (p 0 2)))
  omega
theorem ndS_t {d : Int} {p : PS} (h : ndS d p 0 4 = 0) : p 0 4 = 0 ∧ p 0 0 = d ∧ ndS d p = p := by
  unfold ndS at h ⊢
  by_cases c : p 0 4 = 0
  · rw [if_pos c] at h ⊢
    by_cases c2 : p 0 0 = d
    · rw [if_pos c2]; exact ⟨c, c2, rfl⟩
    · rw [if_neg c2, flt_4] at h; omega
  · rw [if_neg c] at h; omega
theorem wiS_t {a b : Int} {p : PS} (h : wiS a b p 0 4 = 0) : p 0 4 = 0 ∧ (a ≤ p 0 3 ∧ p 0 3 ≤ b) ∧ wiS a b p = p := by
  unfold wiS at h ⊢
  by_cases c : p 0 4 = 0
  · rw [if_pos c] at h ⊢
    by_cases c2 : a ≤ p 0 3 ∧ p 0 3 ≤ b
    · rw [if_pos c2]; exact ⟨c, c2, rfl⟩
    · rw [if_neg c2, flt_4] at h; omega
  · rw [if_neg c] at h; omega
/-- a number that is taken: the state is the token's -/
theorem nuS_t {B : Int → Int} {a b : Int} {p : PS} (h : nuS B a b p 0 4 = 0) : nuS B a b p = tkS B p ∧ tkS B p 0 4 = 0 ∧ p 0 4 = 0 ∧ tkS B p 0 0 = 2 ∧ a ≤ tkS B p 0 3 ∧ tkS B p 0 3 ≤ b := by
  unfold nuS at h ⊢
  obtain ⟨h1, h2, h3⟩ := wiS_t h
  obtain ⟨h4, h5, h6⟩ := ndS_t h1
  rw [h3, h6]
  rw [h6] at h2
  exact ⟨rfl, h4, tkS_t h4, h5, h2.1, h2.2⟩
theorem nuS_9 {B : Int → Int} {a b : Int} {p : PS} (h : nuS B a b p 0 4 = 0) : ¬ nuS B a b p 0 0 = -9 := by
  obtain ⟨h1, h2, h3, h4, -⟩ := nuS_t h
  rw [h1, h4]; omega
theorem nuS_2 {B : Int → Int} {a b : Int} {p : PS} (h : nuS B a b p 0 4 = 0) : nuS B a b p 0 0 = 2 ∧ a ≤ nuS B a b p 0 3 ∧ nuS B a b p 0 3 ≤ b := by
  obtain ⟨h1, h2, h3, h4, h5⟩ := nuS_t h
  rw [h1]; exact ⟨h4, h5⟩
/-- a token taken: what the walk of takeToken finds -/
theorem AbC.tk {g : Nat → Nat → Int32} {k : Nat} {v u : St} {p : PS} {f : Int} (hA : AbC g k v p) (h0 : p 0 4 = 0) (hf : skp (bG g k) (p 0 2) = f) (hn : ¬ (kd (bG g k f) = 5 ∨ (kd (bG g k f) = 2 ∧ f + 2 < rq (bG g k) f))) (h8 : (u.1 k 8).toInt = 0) (h3 : (u.1 k 3).toInt = kd (bG g k f)) (h4 : (u.1 k 4).toInt = f) (h5 : (u.1 k 5).toInt = rq (bG g k) f) (h6 : kd (bG g k f) = 2 → (u.1 k 6).toInt = vl (bG g k) f) (hd : DrC k u p) : AbC g k u (tkS (bG g k) p) := by
  have hI := hA.2.2.2.tk
  have e : tkS (bG g k) p = pu (pu (pu (pu p 0 0 (kd (bG g k f))) 0 1 f) 0 2 (rq (bG g k) f)) 0 3 (vl (bG g k) f) := by
    unfold tkS
    rw [if_pos h0, hf]
    unfold tk1
    rw [if_neg hn]
  rw [e] at hI ⊢
  refine ⟨⟨fun _ => ?_, fun _ => h8⟩, fun z => ?_, fun _ => ⟨?_, fun _ => ⟨?_, ?_⟩, fun z => ?_, hd.tok (fun a b z => ?_)⟩, hI⟩
  · rw [pu_n (by omega), pu_n (by omega), pu_n (by omega), pu_n (by omega)]; exact h0
  · rw [pu_n (by omega), pu_n (by omega), pu_n (by omega), pu_n (by omega)] at z; exact absurd h0 z
  · rw [pu_n (by omega), pu_s]; exact h5
  · rw [pu_n (by omega), pu_n (by omega), pu_n (by omega), pu_s]; exact h3
  · rw [pu_n (by omega), pu_n (by omega), pu_s]; exact h4
  · rw [pu_n (by omega), pu_n (by omega), pu_n (by omega), pu_s] at z
    rw [pu_s]; exact h6 z
  · rw [pu_n (by omega), pu_n (by omega), pu_n (by omega), pu_n (by omega)]
/-- a token that is none -/
theorem AbC.tkx {g : Nat → Nat → Int32} {k : Nat} {v u : St} {p : PS} {f : Int} (hA : AbC g k v p) (h0 : p 0 4 = 0) (hf : skp (bG g k) (p 0 2) = f) (hn : kd (bG g k f) = 5 ∨ (kd (bG g k f) = 2 ∧ f + 2 < rq (bG g k) f)) (h8 : ¬ (u.1 k 8).toInt = 0) (h9 : (u.1 k 9).toInt = f) : AbC g k u (tkS (bG g k) p) := by
  have e : tkS (bG g k) p = flt f := by
    unfold tkS
    rw [if_pos h0, hf]
    unfold tk1
    rw [if_pos hn]
  rw [e]
  exact AbC.flt hA.2.2.2.1 h8 h9
theorem kd_sp (c : Int) : (c = -1 → kd c = 0) ∧ (97 ≤ c → c ≤ 122 → kd c = 1) ∧ (48 ≤ c → c ≤ 57 → kd c = 2) ∧ (c = 59 → kd c = 3) ∧ (¬ c = -1 → ¬ (97 ≤ c ∧ c ≤ 122) → ¬ (48 ≤ c ∧ c ≤ 57) → ¬ c = 59 → kd c = 5) := by
  unfold kd
  refine ⟨fun h => if_pos h, fun h1 h2 => ?_, fun h1 h2 => ?_, fun h => ?_, fun h1 h2 h3 h4 => ?_⟩
  · rw [if_neg (by omega), if_pos ⟨h1, h2⟩]
  · rw [if_neg (by omega), if_neg (by omega), if_pos ⟨h1, h2⟩]
  · rw [if_neg (by omega), if_neg (by omega), if_neg (by omega), if_pos h]
  · rw [if_neg h1, if_neg h2, if_neg h3, if_neg h4]
theorem rq_1 {B : Int → Int} {L f : Int} (h : okB B L) (hk : kd (B f) = 1) : rq B f = rn 97 122 B (f + 1) := by
  have hs := kd_sp (B f)
  have c : 97 ≤ B f ∧ B f ≤ 122 := by
    by_cases c1 : B f = -1
    · have := hs.1 c1; omega
    · by_cases c2 : 48 ≤ B f ∧ B f ≤ 57
      · have := hs.2.2.1 c2.1 c2.2; omega
      · by_cases c3 : B f = 59
        · have := hs.2.2.2.1 c3; omega
        · by_cases c4 : 97 ≤ B f ∧ B f ≤ 122
          · exact c4
          · have := hs.2.2.2.2 c1 c4 c2 c3; omega
  unfold rq
  rw [if_pos c, rn_s h (by omega) c]
theorem rq_2 {B : Int → Int} {L f : Int} (h : okB B L) (hk : kd (B f) = 2) : rq B f = rn 48 57 B (f + 1) := by
  have c := kd_2 hk
  unfold rq
  rw [if_neg (by omega), if_pos c, rn_s h (by omega) c]
theorem rq_n {B : Int → Int} {f : Int} (h1 : ¬ kd (B f) = 1) (h2 : ¬ kd (B f) = 2) : (kd (B f) = 0 → rq B f = f) ∧ (¬ kd (B f) = 0 → rq B f = f + 1) := by
  have hs := kd_sp (B f)
  have n1 : ¬ (97 ≤ B f ∧ B f ≤ 122) := fun z => h1 (hs.2.1 z.1 z.2)
  have n2 : ¬ (48 ≤ B f ∧ B f ≤ 57) := fun z => h2 (hs.2.2.1 z.1 z.2)
  unfold rq
  rw [if_neg n1, if_neg n2]
  refine ⟨fun z => ?_, fun z => ?_⟩
  · rw [if_pos (kd_0 z)]
  · rw [if_neg (fun y => z (hs.1 y))]
theorem AbC.b {g : Nat → Nat → Int32} {k : Nat} {v : St} {p : PS} (h : AbC g k v p) : p 0 4 = 0 → (v.1 k 5).toInt = p 0 2 ∧ 0 ≤ p 0 2 ∧ p 0 2 ≤ 160 := fun z => ⟨(h.2.2.1 z).1, ((h.2.2.2.2.2 z).1.1).1, Int.le_trans ((h.2.2.2.2.2 z).1.1).2 h.2.2.2.1.2.1⟩
theorem AbC.c {g : Nat → Nat → Int32} {k : Nat} {v : St} {p : PS} (h : AbC g k v p) : p 0 4 = 0 → ¬ p 0 0 = -9 → (v.1 k 3).toInt = p 0 0 ∧ (v.1 k 4).toInt = p 0 1 := fun z => (h.2.2.1 z).2.1
theorem AbC.d {g : Nat → Nat → Int32} {k : Nat} {v : St} {p : PS} (h : AbC g k v p) : p 0 4 = 0 → p 0 0 = 2 → (v.1 k 6).toInt = p 0 3 := fun z => (h.2.2.1 z).2.2.1
theorem AbC.dr {g : Nat → Nat → Int32} {k : Nat} {v : St} {p : PS} (h : AbC g k v p) : p 0 4 = 0 → DrC k v p := fun z => (h.2.2.1 z).2.2.2
theorem AbC.ok {g : Nat → Nat → Int32} {k : Nat} {v : St} {p : PS} (h : AbC g k v p) : okB (bG g k) (g k 1).toInt := h.2.2.2.1
