/-! fractions in lowest terms, on long -/
theorem lrI {x y : Int64} {a b : Nat} (hx : x.toInt = (a : Int)) (hy : y.toInt = (b : Int)) (hb : 0 < b) : (x - x / y * y).toInt = ((a % b : Nat) : Int) := by
  have e : (x - x / y * y).toInt = (x.toInt - (x.toInt.tdiv y.toInt) * y.toInt).bmod (2 ^ 64) := by
    rw [Int64.toInt_sub, Int64.toInt_mul, Int64.toInt_div, Int.bmod_mul_bmod, Int.sub_bmod_bmod]
  have m1 : x.toInt - (x.toInt.tdiv y.toInt) * y.toInt = x.toInt.tmod y.toInt := by
    have := Int.tdiv_mul_add_tmod x.toInt y.toInt
    omega
  have m2 : x.toInt.tmod y.toInt = ((a % b : Nat) : Int) := by rw [hx, hy]; rfl
  have ry := i64_rng y
  have hl : a % b < b := Nat.mod_lt _ hb
  rw [e, m1, m2, bm64 (by omega) (by omega)]
theorem dvQ {x y : Int64} {a b : Nat} (hx : x.toInt = (a : Int)) (hy : y.toInt = (b : Int)) (hb : 0 < b) : (x / y).toInt = ((a / b : Nat) : Int) := by
  have ry := i64_rng x
  have hl : a / b ≤ a := Nat.div_le_self _ _
  have m2 : x.toInt.tdiv y.toInt = ((a / b : Nat) : Int) := by rw [hx, hy]; rfl
  rw [Int64.toInt_div, m2]
  generalize a / b = q at *
  rw [bm64 (by omega) (by omega)]
theorem lc0 {y : Int64} {b : Nat} (hy : y.toInt = (b : Int)) : (lg_cmp y (0 : Int64)).toInt = 0 ↔ b = 0 := by
  have h := lcB y 0
  have c0 : (0 : Int64).toInt = 0 := rfl
  rw [c0, hy] at h
  omega
theorem comM {x y : Int64} {a b : Nat} (v : St) (hx : x.toInt = (a : Int)) (hy : y.toInt = (b : Int)) : (F_X8_common x y v).toInt = ((Nat.gcd a b : Nat) : Int) := by
  generalize hu : F_X8_common x y v = u
  unfold F_X8_common at hu
  obtain ⟨P, eP, hu⟩ := xl_e hu
  have Lp : ∀ (n : Nat) (x y : Int64) (a b : Nat), x.toInt = (a : Int) → y.toInt = (b : Int) → b < n → (lp P (fun _ _ => (0 : Int64)) n x y).toInt = ((Nat.gcd a b : Nat) : Int) := by
    intro n
    induction n with
    | zero => intro x y a b _ _ h; exact absurd h (Nat.not_lt_zero _)
    | succ n ih =>
      intro x y a b hx hy hb
      rw [lp_s]
      generalize lp P (fun _ _ => (0 : Int64)) n = sf at *
      rw [eP]
      simp only [xl_d]
      by_cases d : b = 0
      · rw [if_pos ((lc0 hy).mpr d), hx, d, Nat.gcd_zero_right]
      · rw [if_neg (fun z => d ((lc0 hy).mp z))]
        have hl : a % b < b := Nat.mod_lt _ (by omega)
        rw [ih _ _ b (a % b) hy (lrI hx hy (by omega)) (by omega), Nat.gcd_comm a b, Nat.gcd_rec b a, Nat.gcd_comm]
  rw [← hu]
  exact Lp _ x y a b hx hy (by rw [hy]; exact Nat.lt_succ_self _)
/-- two rounds halve -/
theorem hlf {a b : Nat} (hb : 0 < b) (h : b < a) : 2 * (a % b) < a := by
  have h1 := Nat.mod_lt a hb
  have h2 := Nat.mod_add_div a b
  have h3 : 1 ≤ a / b := (Nat.one_le_div_iff hb).mpr (by omega)
  have h4 : b * 1 ≤ b * (a / b) := Nat.mul_le_mul_left b h3
  omega
theorem divC {x y : Int64} {a b : Nat} (v : St) (hx : x.toInt = (a : Int)) (hy : y.toInt = (b : Int)) (hb : b ≤ 100000000) : (F_X1_divisorOf x y v).toInt = ((Nat.gcd a b : Nat) : Int) := by
  have c0 : (0 : Int32).toInt = 0 := rfl
  generalize hu : F_X1_divisorOf x y v = u
  unfold F_X1_divisorOf at hu
  obtain ⟨N, hN⟩ : ∃ N : Nat, N = (2147483647 - (0 : Int32).toInt).toNat := ⟨_, rfl⟩
  rw [← hN] at hu
  obtain ⟨P, eP, hu⟩ := xl_e hu
  have Lp : ∀ (n : Nat) (k : Nat) (x y : Int64) (i : Int32) (a b : Nat), x.toInt = (a : Int) → y.toInt = (b : Int) → (2147483647 - i.toInt).toNat < n → 0 ≤ i.toInt → ((b < 2 ^ k ∧ i.toInt + 2 * (k : Int) + 1 ≤ 1000) ∨ (b < a ∧ a < 2 ^ k ∧ i.toInt + 2 * (k : Int) ≤ 1000)) → (lp P (fun _ _ _ => (0 : Int64)) n x y i).toInt = ((Nat.gcd a b : Nat) : Int) := by
    intro n
    induction n with
    | zero => intro k x y i a b _ _ h; exact absurd h (Nat.not_lt_zero _)
    | succ n ih =>
      intro k x y i a b hx hy hn hi hk
      rw [lp_s]
      generalize lp P (fun _ _ _ => (0 : Int64)) n = sf at *
      rw [eP]
      simp only [xl_d]
      by_cases d : b = 0
      · by_cases d2 : i.toInt < 1000
        · rw [if_pos d2, if_pos ((lc0 hy).mpr d), hx, d, Nat.gcd_zero_right]
        · rw [if_neg d2, hx, d, Nat.gcd_zero_right]
      · have hl : a % b < b := Nat.mod_lt _ (by omega)
        have hk0 : 0 < k := by
          rcases Nat.eq_zero_or_pos k with e | e
          · rw [e] at hk
            rcases hk with q | q
            · have := q.1; omega
            · have := q.2.1; omega
          · exact e
        have ei : (i + 1).toInt = i.toInt + 1 := adI rfl rfl (by omega) (by omega)
        rw [if_pos (show i.toInt < 1000 by omega), if_neg (fun z => d ((lc0 hy).mp z))]
        have e : Nat.gcd a b = Nat.gcd b (a % b) := by rw [Nat.gcd_comm a b, Nat.gcd_rec b a, Nat.gcd_comm]
        rw [e]
        rcases hk with q | q
        · exact ih k _ _ (i + 1) b (a % b) hy (lrI hx hy (by omega)) (by omega) (by omega) (Or.inr ⟨hl, q.1, by omega⟩)
        · have h2 := hlf (a := a) (b := b) (by omega) q.1
          obtain ⟨j, rfl⟩ : ∃ j, k = j + 1 := ⟨k - 1, by omega⟩
          have hp : 2 ^ (j + 1) = 2 * 2 ^ j := by rw [Nat.pow_succ, Nat.mul_comm]
          exact ih j _ _ (i + 1) b (a % b) hy (lrI hx hy (by omega)) (by omega) (by omega) (Or.inl ⟨by have := q.2.1; omega, by have := q.2.2; omega⟩)
  rw [← hu]
  exact Lp (N + 1) 27 x y 0 a b hx hy (by rw [← hN]; exact Nat.lt_succ_self N) (by omega) (Or.inl ⟨by omega, by omega⟩)
/-- the same fraction, the same lowest terms -/
theorem frac {a b c d : Nat} (hb : 0 < b) (hd : 0 < d) (h : a * d = c * b) : a / Nat.gcd a b = c / Nat.gcd c d ∧ b / Nat.gcd a b = d / Nat.gcd c d := by
  have hg : 0 < Nat.gcd a b := Nat.gcd_pos_of_pos_right a hb
  have hk : 0 < Nat.gcd c d := Nat.gcd_pos_of_pos_right c hd
  -- gcd (a*d) (b*d) = gcd a b * d, gcd (c*b) (d*b) = gcd c d * b
  have e1 : Nat.gcd (a * d) (b * d) = Nat.gcd a b * d := Nat.gcd_mul_right a d b
  have e2 : Nat.gcd (c * b) (d * b) = Nat.gcd c d * b := Nat.gcd_mul_right c b d
  have e3 : Nat.gcd a b * d = Nat.gcd c d * b := by rw [← e1, ← e2, h, Nat.mul_comm b d]
  constructor
  · have f1 : a * d / (Nat.gcd a b * d) = a / Nat.gcd a b := Nat.mul_div_mul_right a _ hd
    have f2 : c * b / (Nat.gcd c d * b) = c / Nat.gcd c d := Nat.mul_div_mul_right c _ hb
    rw [← f1, ← f2, h, e3]
  · have f1 : b * d / (Nat.gcd a b * d) = b / Nat.gcd a b := Nat.mul_div_mul_right b _ hd
    have f2 : d * b / (Nat.gcd c d * b) = d / Nat.gcd c d := Nat.mul_div_mul_right d _ hb
    rw [← f1, ← f2, Nat.mul_comm b d, ← e3]
