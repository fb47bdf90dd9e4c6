/-! what the class's own steps do to the state of the reading -/
theorem AbC.pi {g : Nat → Nat → Int32} {k : Nat} {v : St} {p : PS} (h : AbC g k v p) : PI (bG g k) (g k 1).toInt p := h.2.2.2
theorem AbC.fx {g : Nat → Nat → Int32} {k : Nat} {v u : St} {p : PS} (h : AbC g k v p) (hf : ¬ p 0 4 = 0) (e8 : u.1 k 8 = v.1 k 8) (e9 : u.1 k 9 = v.1 k 9) : AbC g k u p := by
  refine ⟨by rw [e8]; exact h.1, fun z => by rw [e9]; exact h.2.1 z, fun z => absurd z hf, h.2.2.2⟩
theorem vl_of {B : Int → Int} {f x : Int} (h1 : f < rq B f) (h2 : ¬ f + 2 < rq B f) (q1 : rq B f = f + 1 → x = B f - 48) (q2 : rq B f = f + 2 → x = 10 * (B f - 48) + (B (f + 1) - 48)) : x = vl B f := by
  unfold vl
  by_cases c : rq B f = f + 1
  · rw [if_pos c]; exact q1 c
  · rw [if_neg c]; exact q2 (by omega)
theorem to_t : ∀ n : Nat, n < 16 → ((Int32.ofNat n &&& 1).toInt = n % 2 ∧ (Int32.ofNat n &&& 2).toInt = 2 * (n / 2 % 2) ∧ (Int32.ofNat n &&& 4).toInt = 4 * (n / 4 % 2) ∧ (Int32.ofNat n &&& 8).toInt = 8 * (n / 8 % 2)) ∧ ((Int32.ofNat n ||| 1).toInt = n + (1 - n % 2 : Nat) ∧ (Int32.ofNat n ||| 2).toInt = n + (2 - 2 * (n / 2 % 2) : Nat) ∧ (Int32.ofNat n ||| 4).toInt = n + (4 - 4 * (n / 4 % 2) : Nat) ∧ (Int32.ofNat n ||| 8).toInt = n + (8 - 8 * (n / 8 % 2) : Nat)) := by decide +kernel
theorem to_s {t : Int32} {a b c d : Int} (ha : a = 0 ∨ a = 1) (hb : b = 0 ∨ b = 1) (hc : c = 0 ∨ c = 1) (hd : d = 0 ∨ d = 1) (h : t.toInt = a + 2 * b + 4 * c + 8 * d) : ((t &&& 1).toInt = a ∧ (t &&& 2).toInt = 2 * b ∧ (t &&& 4).toInt = 4 * c ∧ (t &&& 8).toInt = 8 * d) ∧ ((t ||| 1).toInt = t.toInt + 1 - a ∧ (t ||| 2).toInt = t.toInt + 2 - 2 * b ∧ (t ||| 4).toInt = t.toInt + 4 - 4 * c ∧ (t ||| 8).toInt = t.toInt + 8 - 8 * d) := by
  obtain ⟨n, hn⟩ := Int.eq_ofNat_of_zero_le (show 0 ≤ t.toInt by omega)
  have e : t = Int32.ofNat n := Int32.toInt_inj.mp (by rw [Int32.toInt_ofNat_of_lt (by omega)]; exact hn)
  have q := to_t n (by omega)
  rw [← e] at q
  omega
/-- a line is told: 6 to 9 -/
theorem AbC.onA {g : Nat → Nat → Int32} {k j : Nat} {v u : St} {p : PS} {t : Int32} (h : AbC g k v p) (hj : 6 ≤ j ∧ j ≤ 9) (e : up1 v k 7 t = u) (hb : p 0 4 = 0 → p 0 j = 0 ∧ t.toInt = (v.1 k 7).toInt + (2 ^ (j - 6) : Nat)) : AbC g k u (onS j p) := by
  have n : ∀ a b : Nat, (a ≠ k ∨ b ≠ 7) → u.1 a b = v.1 a b := fun a b z => by rw [← e]; exact up1_n _ _ z
  have hI := h.pi.on hj
  by_cases c : p 0 4 = 0
  · obtain ⟨b1, b2⟩ := hb c
    have eo : onS j p = pu p 0 j 1 := by unfold onS; rw [if_pos c, if_pos b1]
    rw [eo] at hI ⊢
    obtain ⟨h2, h3, h4, h5⟩ := h.2.2.1 c
    have nn : ∀ a b : Nat, (a ≠ 0 ∨ b ≠ j) → pu p 0 j 1 a b = p a b := fun a b z => pu_n z
    refine ⟨by rw [nn 0 4 (by omega), n k 8 (by omega)]; exact h.1, fun z => by rw [nn 0 4 (by omega)] at z; exact absurd c z, fun _ => ⟨?_, ?_, ?_, ?_⟩, hI⟩
    · rw [nn 0 2 (by omega), n k 5 (by omega)]; exact h2
    · rw [nn 0 0 (by omega), nn 0 1 (by omega), n k 3 (by omega), n k 4 (by omega)]; exact h3
    · rw [nn 0 0 (by omega), nn 0 3 (by omega), n k 6 (by omega)]; exact h4
    · unfold DrC at h5 ⊢
      obtain ⟨d1, d2⟩ := h5
      have e7 : (u.1 k 7).toInt = t.toInt := by rw [← e, up1_s]
      have en1 : ∀ i : Nat, pu p 0 j 1 1 i = p 1 i := fun i => nn 1 i (by omega)
      have en2 : ∀ i : Nat, pu p 0 j 1 2 i = p 2 i := fun i => nn 2 i (by omega)
      have en3 : ∀ i : Nat, pu p 0 j 1 3 i = p 3 i := fun i => nn 3 i (by omega)
      have en4 : ∀ i : Nat, pu p 0 j 1 4 i = p 4 i := fun i => nn 4 i (by omega)
      have en5 : ∀ i : Nat, pu p 0 j 1 5 i = p 5 i := fun i => nn 5 i (by omega)
      have u1 : ∀ i : Nat, u.1 (k + 2 + 1) i = v.1 (k + 2 + 1) i := fun i => n _ _ (by omega)
      have u2 : ∀ i : Nat, u.1 (k + 2 + 2) i = v.1 (k + 2 + 2) i := fun i => n _ _ (by omega)
      have u3 : ∀ i : Nat, u.1 (k + 2 + 3) i = v.1 (k + 2 + 3) i := fun i => n _ _ (by omega)
      have u4 : ∀ i : Nat, u.1 (k + 2 + 4) i = v.1 (k + 2 + 4) i := fun i => n _ _ (by omega)
      have u5 : ∀ i : Nat, u.1 (k + 2 + 5) i = v.1 (k + 2 + 5) i := fun i => n _ _ (by omega)
      have u6 : ∀ i : Nat, u.1 (k + 2 + 6) i = v.1 (k + 2 + 6) i := fun i => n _ _ (by omega)
      have u0 : ∀ i : Nat, u.1 (k + 2) i = v.1 (k + 2) i := fun i => n _ _ (by omega)
      simp only [en1, en2, en3, en4, en5, u0, u1, u2, u3, u4, u5, u6, nn 0 10 (by omega), nn 0 11 (by omega), nn 0 12 (by omega), nn 0 13 (by omega), nn 0 14 (by omega), nn 0 15 (by omega), nn 0 16 (by omega), nn 0 17 (by omega), nn 0 18 (by omega)]
      refine ⟨?_, d2⟩
      rw [e7, b2, d1]
      rcases (show j = 6 ∨ j = 7 ∨ j = 8 ∨ j = 9 by omega) with rfl | rfl | rfl | rfl
      · rw [pu_s, nn 0 7 (by omega), nn 0 8 (by omega), nn 0 9 (by omega), b1]; simp; omega
      · rw [pu_s, nn 0 6 (by omega), nn 0 8 (by omega), nn 0 9 (by omega), b1]; simp; omega
      · rw [pu_s, nn 0 6 (by omega), nn 0 7 (by omega), nn 0 9 (by omega), b1]; simp; omega
      · rw [pu_s, nn 0 6 (by omega), nn 0 7 (by omega), nn 0 8 (by omega), b1]; simp; omega
  · rw [onS_x c]
    exact h.fx c (n k 8 (by omega)) (n k 9 (by omega))
theorem AbC.onB {g : Nat → Nat → Int32} {k j : Nat} {v u : St} {p : PS} {t : Int32} {a : Int} (h : AbC g k v (rfS a p)) (e : up1 v k 7 t = u) (hb : p 0 4 = 0 → ¬ p 0 j = 0 ∧ p 0 1 = a) : AbC g k u (onS j p) := by
  have n : ∀ a b : Nat, (a ≠ k ∨ b ≠ 7) → u.1 a b = v.1 a b := fun a b z => by rw [← e]; exact up1_n _ _ z
  have eo : onS j p = rfS a p := by
    unfold onS rfS
    by_cases c : p 0 4 = 0
    · rw [if_pos c, if_pos c, if_neg (hb c).1, (hb c).2]
    · rw [if_neg c, if_neg c]
  rw [eo]
  refine h.fx ?_ (n k 8 (by omega)) (n k 9 (by omega))
  unfold rfS
  by_cases c : p 0 4 = 0
  · rw [if_pos c, flt_4]; omega
  · rw [if_neg c]; exact c
theorem AbC.told {g : Nat → Nat → Int32} {k : Nat} {v : St} {p : PS} (h : AbC g k v p) : p 0 4 = 0 → ((((v.1 k 7) &&& 1).toInt = p 0 6 ∧ ((v.1 k 7) &&& 2).toInt = 2 * p 0 7 ∧ ((v.1 k 7) &&& 4).toInt = 4 * p 0 8 ∧ ((v.1 k 7) &&& 8).toInt = 8 * p 0 9) ∧ (((v.1 k 7) ||| 1).toInt = (v.1 k 7).toInt + 1 - p 0 6 ∧ ((v.1 k 7) ||| 2).toInt = (v.1 k 7).toInt + 2 - 2 * p 0 7 ∧ ((v.1 k 7) ||| 4).toInt = (v.1 k 7).toInt + 4 - 4 * p 0 8 ∧ ((v.1 k 7) ||| 8).toInt = (v.1 k 7).toInt + 8 - 8 * p 0 9)) := fun c => by
  obtain ⟨-, h2⟩ := h.pi.2.2 c
  have ht := h2.2.2.2.2.2.2.1
  exact to_s (ht 6 (by omega) (by omega)) (ht 7 (by omega) (by omega)) (ht 8 (by omega) (by omega)) (ht 9 (by omega) (by omega)) (h.dr c).1
