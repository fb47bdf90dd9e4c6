/-! what the class answers -/
theorem p10b {n : Nat} (h : n ≤ 8) : 0 < 10 ^ n ∧ 10 ^ n ≤ 100000000 := ⟨Nat.pow_pos (by omega), Nat.pow_le_pow_right (n := 10) (j := 8) (by omega) h⟩
theorem partC {x : Int64} {a : Nat} {p w : Int32} {n : Nat} (v : St) (hx : x.toInt = (a : Int)) (hp : p.toInt = (n : Int)) (hn : n ≤ 8) : (F_X1_part 41 x p w v).toInt = ((if w.toInt = 0 then a / Nat.gcd a (10 ^ n) else 10 ^ n / Nat.gcd a (10 ^ n) : Nat) : Int) := by
  have c0 : (0 : Int32).toInt = 0 := rfl
  generalize hu : F_X1_part 41 x p w v = u
  unfold F_X1_part at hu
  obtain ⟨N, hN⟩ : ∃ N : Nat, N = (2147483647 - (0 : Int32).toInt).toNat := ⟨_, rfl⟩
  rw [← hN] at hu
  obtain ⟨J, eJ, hu⟩ := xl_e hu
  obtain ⟨P, eP, hu⟩ := xl_e hu
  obtain ⟨b1, b2⟩ := p10b hn
  have hJ : ∀ y : Int64, y.toInt = ((10 ^ n : Nat) : Int) → (J y).toInt = ((if w.toInt = 0 then a / Nat.gcd a (10 ^ n) else 10 ^ n / Nat.gcd a (10 ^ n) : Nat) : Int) := by
    intro y hy
    rw [eJ]
    simp only [xl_d]
    have hd := divC v hx hy b2
    have hg : 0 < Nat.gcd a (10 ^ n) := Nat.gcd_pos_of_pos_right a b1
    generalize F_X1_divisorOf x y v = r at *
    rw [if_neg (fun z => by have := (lc0 hd).mp z; omega)]
    by_cases w0 : w.toInt = 0
    · rw [if_pos w0, if_pos w0]; exact dvQ hx hd hg
    · rw [if_neg w0, if_neg w0]; exact dvQ hy hd hg
  have Lp : ∀ (f : Nat) (q : Int64) (i : Int32) (k : Nat), (2147483647 - i.toInt).toNat < f → i.toInt = (k : Int) → k ≤ n → q.toInt = ((10 ^ k : Nat) : Int) → (lp P (fun _ _ => (0 : Int64)) f q i).toInt = ((if w.toInt = 0 then a / Nat.gcd a (10 ^ n) else 10 ^ n / Nat.gcd a (10 ^ n) : Nat) : Int) := by
    intro f
    induction f with
    | zero => intro q i k h; exact absurd h (Nat.not_lt_zero _)
    | succ f ih =>
      intro q i k hf hi hk hq
      rw [lp_s]
      generalize lp P (fun _ _ => (0 : Int64)) f = sf at *
      rw [eP]
      simp only [xl_d]
      by_cases d : k < n
      · have ei : (i + 1).toInt = i.toInt + 1 := adI rfl rfl (by omega) (by omega)
        have l1 := (p10b (n := k) (by omega)).2
        have l0 := (p10b (n := k) (by omega)).1
        have e : (q * (10 : Int64)).toInt = ((10 ^ (k + 1) : Nat) : Int) := by
          rw [mlL hq (y := (10 : Int64)) (b := 10) rfl (by omega) (by omega), Nat.pow_succ]
          exact (Int.natCast_mul (10 ^ k) 10).symm
        rw [if_pos (by omega), if_pos (by omega)]
        exact ih _ _ (k + 1) (by omega) (by omega) (by omega) e
      · rw [if_neg (by omega)]
        exact hJ q (by rw [hq, show k = n by omega])
  rw [← hu]
  exact Lp (N + 1) 1 0 0 (by rw [← hN]; exact Nat.lt_succ_self N) rfl (by omega) rfl
/-- the aims, and how many -/
def alM (m : St) (j : Nat) : Int32 := m.1 1 (33 + j)
def nM (m : St) : Nat := (m.1 1 32).toInt.toNat
theorem NR.al {c m : St} (h : NR 12 0 c m) : ((nM m : Nat) : Int) = (m.1 1 32).toInt ∧ nM m ≤ 8 ∧ (∀ j : Nat, j < nM m → amO (alM m j).toInt (m.1 0 3).toInt) ∧ Al (alM m) (nM m) := by
  obtain ⟨-, -, -, -, ⟨p1, p2⟩, -⟩ := h
  simp only [Nat.zero_add] at p1 p2
  have e : ((nM m : Nat) : Int) = (m.1 1 32).toInt := Int.toNat_of_nonneg p1.2.1
  have k : ∀ j : Nat, j < nM m → amO (alM m j).toInt (m.1 0 3).toInt := fun j hj => by
    have := p2 j (by omega)
    unfold amO alM
    omega
  refine ⟨e, by omega, k, fun j hj h5 => ?_⟩
  have := k j hj
  unfold amO at this
  omega
theorem wAll {c m : St} (h : Sim c m) (a0 fl : Int32) {v : Nat} (ha : a0.toInt = (v : Int)) (hv : v ≤ 10) : (∃ W : Nat, (F_X1_weighAll 41 12 a0 fl c).1.toInt = (W : Int) ∧ W ≤ 30 * 10 ^ nM m ∧ W * 10 ^ (10 - hr (F_X8_starts 0 m)) = Rr (vzO fl) (alM m) v (nM m) 0 (F_X8_starts 0 m) * 10 ^ nM m) ∧ (F_X1_weighAll 41 12 a0 fl c).2.1 12 14 = m.1 1 32 := by
  obtain ⟨al1, al2, al3, al4⟩ := h.1.al
  simp only [F_X1_weighAll, xl_d, xm_d, Nat.reduceAdd, cn0]
  have x2 : (up1 (up1 c 41 2 a0) 41 3 fl).1 41 2 = a0 := by rw [up1_n _ _ (by omega), up1_s]
  have x3 : (up1 (up1 c 41 2 a0) 41 3 fl).1 41 3 = fl := up1_s _ _ _ _
  have hN : NR 12 0 (up1 (up1 c 41 2 a0) 41 3 fl) m := h.1.fr rfl rfl (fun _ _ _ => rfl) (fun a b _ _ => by rw [up1_n _ _ (by omega), up1_n _ _ (by omega)])
  generalize up1 (up1 c 41 2 a0) 41 3 fl = x at *
  obtain ⟨b1, b2, b3, b4, b5, b6, b7⟩ := beN 42 12 (by omega) x
  generalize F_X0_become 42 12 x = u3 at *
  obtain ⟨d0, d1, d2, d3, f5⟩ := beP 52 17 (by omega) u3
  generalize F_X2_become 52 17 u3 = u5 at *
  obtain ⟨s1, s2⟩ := stM1 m
  generalize F_X8_starts 0 m = z at *
  have nr : NR 42 0 u5 m := hN.mv rfl rfl (fun _ _ => rfl) (fun j hj => by rw [f5 42 j (by omega)]; exact b1 j hj) (fun j hj => by rw [f5 (42 + 5) j (by omega)]; exact b2 j hj) (fun j hj => by rw [f5 (42 + 1) j (by omega), f5 (42 + 2) j (by omega), f5 (42 + 3) j (by omega)]; exact b3 j hj) (fun j hj => by rw [f5 (42 + 4) j (by omega)]; exact b4 j hj) (fun j hj => by rw [f5 (42 + 6) j (by omega)]; exact b5 j hj) (fun j hj => by rw [f5 (42 + 7) j (by omega), f5 (42 + 8) j (by omega)]; exact b6 j hj)
  have hA : AtR 42 52 u5 z := nr.at s1 (s2 0 3 (by omega)) (s2 0 4 (by omega)) (fun j hj => by
    rw [f5 (42 + 5) j (by omega), b2 j hj]
    rcases (show j = 0 ∨ j = 1 ∨ j = 2 ∨ j = 3 by omega) with e | e | e | e
    · rw [e, d0]; exact b7 17 0 (by omega)
    · rw [e, d1]; exact b7 17 1 (by omega)
    · rw [e, d2]; exact b7 17 2 (by omega)
    · rw [e, d3]; exact b7 17 3 (by omega))
  obtain ⟨-, ⟨-, g2, g3, -⟩, -, -, ⟨p1, p2⟩, -⟩ := nr
  simp only [Nat.zero_add, Nat.reduceAdd] at g2 g3 p1 p2
  have hW : WP (alM m) (nM m) 0 u5 z := by
    refine ⟨hA.q (fun _ _ => rfl) (fun _ _ _ _ => rfl) (fun _ _ => rfl) ((Q28.rf z).r _) (up1_s _ _ _ _).symm, ⟨by rw [p1.1, al1], al2⟩, ⟨by rw [s1 24 (by omega)]; exact g2, by rw [s1 25 (by omega)]; exact g3⟩, fun j hj => ⟨?_, ?_⟩⟩
    · exact (p2 j (by omega)).1
    · rw [s2 0 3 (by omega)]; exact al3 j hj
  obtain ⟨⟨W, o1, o2, o3⟩, o4⟩ := OG.z (al := alM m) (n := nM m) (v := v) (fl := fl) hv u5 z hW (by rw [f5 41 2 (by omega), b7 41 2 (by omega), x2]; exact ha) (by rw [f5 41 3 (by omega), b7 41 3 (by omega)]; exact x3) (by omega)
  refine ⟨⟨W, o1, o2, o3⟩, ?_⟩
  have q12 : x.1 12 14 = m.1 1 32 := hN.2.2.2.2.1.1.1
  rw [o4 12 14 (by omega) (by omega), f5 12 14 (by omega), b7 12 14 (by omega)]
  exact q12
