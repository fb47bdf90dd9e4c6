/-! the reference's sums -/
def fz_ (m : St) (v : Nat) (fl : Int32) (S : Nat) : Nat := wy v (10 - hr (F_X8_starts 0 m)) S * Tv (vzO fl) (alM m) (nM m) 0 (up1 (F_X8_starts 0 m) 2 28 (Int32.ofNat (S * 2 ^ hr (F_X8_starts 0 m))))
theorem fz_R (m : St) (v : Nat) (fl : Int32) : Rr (vzO fl) (alM m) v (nM m) 0 (F_X8_starts 0 m) = sm (fz_ m v fl) (2 ^ (10 - hr (F_X8_starts 0 m))) := rfl
/-- how far the sums are -/
def IV (m : St) (v S : Nat) (s : St) : Prop := (∀ a b : Nat, (a ≠ 2 ∧ (a ≠ 0 ∨ (b ≠ 19 ∧ b ≠ 20))) → s.1 a b = m.1 a b) ∧ (s.2 0 23).toInt = ((sm (fz_ m v 0) S : Nat) : Int) ∧ (s.2 0 24).toInt = ((sm (fz_ m v 1) S : Nat) : Int) ∧ (s.2 0 25).toInt = ((10 ^ (10 - hr (F_X8_starts 0 m)) : Nat) : Int)
theorem wy_b {v : Nat} (hv : v ≤ 10) (k : Nat) : ∀ S : Nat, wy v k S ≤ 10 ^ k := by
  induction k with
  | zero => intro S; exact Nat.le_refl _
  | succ k ih =>
    intro S
    rw [wy_s, Nat.pow_succ, Nat.mul_comm (10 ^ k) 10]
    exact Nat.mul_le_mul (by split <;> omega) (ih _)
theorem p10c {k : Nat} (h : k ≤ 10) : 10 ^ k ≤ 10000000000 := Nat.pow_le_pow_right (n := 10) (j := 10) (by omega) h
theorem sm_b {c m : St} (h : NR 12 0 c m) {v : Nat} (hv : v ≤ 10) (fl : Int32) {S : Nat} (hS : S ≤ 2 ^ (10 - hr (F_X8_starts 0 m))) : sm (fz_ m v fl) S ≤ 300000000000 := by
  have a1 : sm (fz_ m v fl) S ≤ sm (fun s => 30 * wy v (10 - hr (F_X8_starts 0 m)) s) S := sm_le S (fun s _ => by
    have := ((run1 h (s := m) (fun _ _ _ => rfl) (Int32.ofNat (s * 2 ^ hr (F_X8_starts 0 m)))).1 fl)
    unfold fz_
    rw [← this.1, Nat.mul_comm]
    exact Nat.mul_le_mul_right _ this.2)
  rw [sm_m] at a1
  have a2 := sm_mo (wy v (10 - hr (F_X8_starts 0 m))) S (2 ^ (10 - hr (F_X8_starts 0 m)) - S)
  rw [show S + (2 ^ (10 - hr (F_X8_starts 0 m)) - S) = 2 ^ (10 - hr (F_X8_starts 0 m)) by omega, wy_a hv] at a2
  have a3 := p10c (k := 10 - hr (F_X8_starts 0 m)) (by omega)
  generalize 10 ^ (10 - hr (F_X8_starts 0 m)) = T at *
  omega
theorem fOdds {c m : St} (h : NR 12 0 c m) (a0 : Int32) {v : Nat} (ha : a0.toInt = (v : Int)) (hv : v ≤ 10) : IV m v (2 ^ (10 - hr (F_X8_starts 0 m))) (F_X8_findOdds 0 a0 m) := by
  have c0 : (0 : Int32).toInt = 0 := rfl
  have c1 : (1 : Int32).toInt = 1 := rfl
  have hz : Iz (F_X8_starts 0 m) := h.tr.1.1.iz
  obtain ⟨r1, r2, r3⟩ := hr_i hz
  have e29 : (F_X8_starts 0 m).1 2 29 = m.1 1 29 := (stM1 m).1 29 (by omega)
  rw [e29] at r1 r2
  obtain ⟨H, hH⟩ : ∃ H, H = hr (F_X8_starts 0 m) := ⟨_, rfl⟩
  obtain ⟨K, hK⟩ : ∃ K, K = 10 - H := ⟨_, rfl⟩
  have hKb := p10c (k := K) (by omega)
  have hpK : 2 ^ K ≤ 1024 := Nat.pow_le_pow_right (n := 2) (j := 10) (by omega) (by omega)
  have smb := fun (fl : Int32) (S : Nat) (q : S ≤ 2 ^ K) => sm_b h hv fl (S := S) (by rw [← hH, ← hK]; exact q)
  have fzs : ∀ (fl : Int32) (S : Nat), fz_ m v fl S = wy v K S * Tv (vzO fl) (alM m) (nM m) 0 (up1 (F_X8_starts 0 m) 2 28 (Int32.ofNat (S * 2 ^ H))) := fun fl S => by rw [hK, hH]; rfl
  rw [← hH] at r1 r2 r3
  rw [← hH, ← hK]
  have IVd : ∀ (S : Nat) (s : St), IV m v S s ↔ (∀ a b : Nat, (a ≠ 2 ∧ (a ≠ 0 ∨ (b ≠ 19 ∧ b ≠ 20))) → s.1 a b = m.1 a b) ∧ (s.2 0 23).toInt = ((sm (fz_ m v 0) S : Nat) : Int) ∧ (s.2 0 24).toInt = ((sm (fz_ m v 1) S : Nat) : Int) ∧ (s.2 0 25).toInt = ((10 ^ K : Nat) : Int) := fun S s => by rw [hK, hH]; exact Iff.rfl
  have e10H : ((10 : Int32) - Int32.ofNat H).toInt = (K : Int) := by
    rw [← r1, sbI (x := (10 : Int32)) (a := 10) rfl r2.symm (by omega) (by omega)]
    omega
  have e10v : ((10 : Int32) - a0).toInt = ((10 - v : Nat) : Int) := by
    rw [sbI (x := (10 : Int32)) (a := 10) rfl ha (by omega) (by omega)]
    omega
  generalize hu : F_X8_findOdds 0 a0 m = u
  unfold F_X8_findOdds at hu
  obtain ⟨N, hN⟩ : ∃ N : Nat, N = (2147483647 - (0 : Int32).toInt).toNat := ⟨_, rfl⟩
  rw [← hN] at hu
  obtain ⟨P51, e51, hu⟩ := xl_e hu
  obtain ⟨P25, e25, hu⟩ := xl_e hu
  simp only [xl_d, Nat.reduceAdd, cn29] at hu
  obtain ⟨N2, hN2⟩ : ∃ N : Nat, N = (2147483647 - (m.1 1 29).toInt).toNat := ⟨_, rfl⟩
  rw [← hN2, r1] at hu
  -- one word of clouds
  have it51 : ∀ (sf : Int32 → Int32 → St → St) (y : Int32) (S : Nat) (s : St), y.toInt = (S : Int) → S < 2 ^ K → IV m v S s → ∃ s' : St, P51 sf (Int32.ofNat H) y s = sf (Int32.ofNat H) (y + 1) s' ∧ IV m v (S + 1) s' := by
    intro sf y S s hy hS hI
    have ey : y = Int32.ofNat S := i32_of hy (by omega)
    generalize hq : P51 sf (Int32.ofNat H) y s = q
    rw [e51] at hq
    obtain ⟨J, eJ, hq⟩ := xl_e hq
    obtain ⟨P, eP, hq⟩ := xl_e hq
    simp only [xl_d] at hq
    have s1 := sl1 H (by omega)
    rw [← hK] at s1
    rw [if_pos (by rw [s1]; omega)] at hq
    obtain ⟨U, hU⟩ : ∃ U, F_X8_plansGo 0 (up1 (F_X8_starts 0 s) 2 28 (y <<< (Int32.ofNat H &&& 31))) = U := ⟨_, rfl⟩
    have L67 : ∀ (f : Nat) (w : Int64) (A : Nat) (i : Int32) (k : Nat), (2147483647 - i.toInt).toNat < f → i.toInt = (k : Int) → k ≤ K → w.toInt = (A : Int) → A ≤ 10 ^ k → A * wy v (K - k) (S / 2 ^ k) = wy v K S → ∃ ways : Int64, ways.toInt = ((wy v K S : Nat) : Int) ∧ lp P (fun _ _ => m) f w i = (if (F_X8_isAtWell 0 U).toInt = 0 then J ways (U.2 0 23) 0 U else J ways (U.2 0 23) ways U) := by
      intro f
      induction f with
      | zero => intro w A i k hf; exact absurd hf (Nat.not_lt_zero _)
      | succ f ih =>
        intro w A i k hf hi hk hw hA hp
        rw [lp_s]
        generalize lp P (fun _ _ => m) f = sg at *
        rw [eP]
        simp only [xl_d, Nat.reduceAdd, cn28]
        by_cases d : k < K
        · have ei : (i + 1).toInt = i.toInt + 1 := adI rfl rfl (by omega) (by omega)
          have eik : i = Int32.ofNat k := i32_of hi (by omega)
          have l1 := p10c (k := k + 1) (by omega)
          have l2 : 10 ^ (k + 1) = 10 * 10 ^ k := by rw [Nat.pow_succ, Nat.mul_comm]
          have bt := btN (C := S) (by omega) (k := k) (by omega)
          rw [← eik, ← ey] at bt
          have ws : wy v (K - k) (S / 2 ^ k) = (if S / 2 ^ k % 2 = 1 then v else 10 - v) * wy v (K - (k + 1)) (S / 2 ^ (k + 1)) := by
            rw [show K - k = K - (k + 1) + 1 by omega, wy_s, Nat.pow_succ, ← Nat.div_div_eq_div_mul]
          rw [if_pos (by rw [e10H]; omega), bt]
          have go : ∀ (x : Int64) (X : Nat), x.toInt = (X : Int) → X ≤ 10 → wy v (K - k) (S / 2 ^ k) = X * wy v (K - (k + 1)) (S / 2 ^ (k + 1)) → ∃ ways : Int64, ways.toInt = ((wy v K S : Nat) : Int) ∧ sg (w * x) (i + 1) = (if (F_X8_isAtWell 0 U).toInt = 0 then J ways (U.2 0 23) 0 U else J ways (U.2 0 23) ways U) := by
            intro x X hx hX hwX
            have l3 : A * X ≤ 10 ^ k * 10 := Nat.mul_le_mul hA hX
            have l4 : (w * x).toInt = ((A * X : Nat) : Int) := by
              have t : (A : Int) * (X : Int) = ((A * X : Nat) : Int) := (Int.natCast_mul A X).symm
              obtain ⟨Y, hY⟩ : ∃ Y, Y = A * X := ⟨_, rfl⟩
              rw [← hY] at t l3 ⊢
              rw [mlL hw hx (by omega) (by omega), t]
            refine ih (w * x) (A * X) (i + 1) (k + 1) (by omega) (by omega) (by omega) l4 (by omega) ?_
            rw [← hp, hwX, Nat.mul_assoc]
          by_cases t1 : S / 2 ^ k % 2 = 1
          · rw [t1, if_pos (show (Int32.ofNat 1).toInt = 1 from rfl)]
            exact go a0.toInt64 v (by rw [i64_of]; exact ha) hv (by rw [ws, if_pos t1])
          · rw [show S / 2 ^ k % 2 = 0 by omega, if_neg (show ¬ (Int32.ofNat 0).toInt = 1 by decide)]
            exact go ((10 : Int32) - a0).toInt64 (10 - v) (by rw [i64_of]; exact e10v) (by omega) (by rw [ws, if_neg t1])
        · rw [if_neg (by rw [e10H]; omega), hU]
          rw [show K - k = 0 by omega] at hp
          have hp2 : A * 1 = wy v K S := hp
          exact ⟨w, by rw [hw, ← hp2, Nat.mul_one], rfl⟩
    obtain ⟨ways, h1, h2⟩ := L67 (N + 1) 1 1 0 0 (by rw [← hN]; exact Nat.lt_succ_self N) rfl (by omega) rfl (by omega) (by rw [Nat.pow_zero, Nat.div_one, Nat.one_mul, Nat.sub_zero])
    rw [h2] at hq
    have eC : y <<< (Int32.ofNat H &&& 31) = Int32.ofNat (S * 2 ^ H) := by rw [ey]; exact slN (by omega) (by omega)
    rw [eC] at hU
    obtain ⟨i1, i2, i3, i4⟩ := (IVd S s).mp hI
    obtain ⟨u1, u2, u3, u4⟩ := run1 h (s := s) (fun a b q => i1 a b (by omega)) (Int32.ofNat (S * 2 ^ H))
    rw [hU] at u1 u2 u3 u4
    have v0 := (u1 0).1
    have v1 := (u1 1).1
    have f0 : fz_ m v 0 S = wy v K S * vzO 0 U := by rw [fzs, v0]
    have f1 : fz_ m v 1 S = wy v K S * vzO 1 U := by rw [fzs, v1]
    have b0 := smb 0 (S + 1) (by omega)
    have b1 := smb 1 (S + 1) (by omega)
    have g0 : sm (fz_ m v 0) (S + 1) = sm (fz_ m v 0) S + wy v K S * vzO 0 U := by rw [← f0]; rfl
    have g1 : sm (fz_ m v 1) (S + 1) = sm (fz_ m v 1) S + wy v K S * vzO 1 U := by rw [← f1]; rfl
    have wb := wy_b hv K S
    -- what the sums become
    have fin : ∀ cc : Int64, cc.toInt = ((wy v K S * vzO 0 U : Nat) : Int) → J ways (U.2 0 23) cc U = q → ∃ s' : St, q = sf (Int32.ofNat H) (y + 1) s' ∧ IV m v (S + 1) s' := by
      intro cc hcc hJ
      rw [eJ] at hJ
      simp only [xl_d, Nat.reduceAdd, cn30] at hJ
      refine ⟨_, hJ.symm, ?_⟩
      rw [IVd]
      refine ⟨fun a b z => ?_, ?_, ?_, ?_⟩
      · show U.1 a b = _
        rw [u4 a b z]; exact i1 a b z
      · rw [upL_n _ _ (by omega), upL_s, u3, g0]
        rw [adL i2 hcc (by omega) (by omega)]
        exact (Int.natCast_add _ _).symm
      · rw [upL_s, upL_n _ _ (by omega), u3, g1]
        show (s.2 0 24 + ways * (U.1 2 30).toInt64).toInt = _
        have vm : ((vzO 1 U : Nat) : Int) = (U.1 2 30).toInt := by
          unfold vzO
          rw [if_neg (show ¬ (1 : Int32).toInt = 0 by omega)]
          omega
        have vb : vzO 1 U ≤ 30 := (u1 1).2
        have m1 : (U.1 2 30).toInt64.toInt = ((vzO 1 U : Nat) : Int) := by rw [i64_of, vm]
        have t : ((wy v K S : Nat) : Int) * ((vzO 1 U : Nat) : Int) = ((wy v K S * vzO 1 U : Nat) : Int) := (Int.natCast_mul _ _).symm
        obtain ⟨Y, hY⟩ : ∃ Y, Y = wy v K S * vzO 1 U := ⟨_, rfl⟩
        rw [← hY] at t g1 ⊢
        have m2 : (ways * (U.1 2 30).toInt64).toInt = (Y : Int) := by rw [mlL h1 m1 (by omega) (by omega), t]
        rw [adL i3 m2 (by omega) (by omega)]
        exact (Int.natCast_add _ _).symm
      · rw [upL_n _ _ (by omega), upL_n _ _ (by omega), u3]; exact i4
    by_cases w0 : (F_X8_isAtWell 0 U).toInt = 0
    · rw [if_pos w0] at hq
      refine fin 0 ?_ hq
      unfold vzO
      rw [if_pos c0, if_pos w0, Nat.mul_zero]
      rfl
    · rw [if_neg w0] at hq
      refine fin ways ?_ hq
      unfold vzO
      rw [if_pos c0, if_neg w0, Nat.mul_one]
      exact h1
  have L51 : ∀ (f : Nat) (y : Int32) (S : Nat) (s : St), (2147483647 - y.toInt).toNat < f → y.toInt = (S : Int) → S ≤ 2 ^ K → IV m v S s → IV m v (2 ^ K) (lp P51 (fun _ _ _ => m) f (Int32.ofNat H) y s) := by
    intro f
    induction f with
    | zero => intro y S s hf; exact absurd hf (Nat.not_lt_zero _)
    | succ f ih =>
      intro y S s hf hy hS hI
      rw [lp_s]
      generalize lp P51 (fun _ _ _ => m) f = sf at *
      by_cases d : S < 2 ^ K
      · have ey : (y + 1).toInt = y.toInt + 1 := adI rfl rfl (by omega) (by omega)
        obtain ⟨s', g1, g2⟩ := it51 sf y S s hy d hI
        rw [g1]
        exact ih (y + 1) (S + 1) s' (by omega) (by omega) (by omega) g2
      · have s1 := sl1 H (by omega)
        rw [← hK] at s1
        rw [e51]
        simp only [xl_d]
        rw [if_neg (by rw [s1]; omega), show 2 ^ K = S by omega]
        exact hI
  have L25 : ∀ (f : Nat) (y : Int32) (k : Nat) (s : St), (2147483647 - y.toInt).toNat < f → y.toInt = ((H + k : Nat) : Int) → k ≤ K → s.1 = m.1 → s.2 0 23 = 0 → s.2 0 24 = 0 → (s.2 0 25).toInt = ((10 ^ k : Nat) : Int) → IV m v (2 ^ K) (lp P25 (fun _ _ _ => m) f (Int32.ofNat H) y s) := by
    intro f
    induction f with
    | zero => intro y k s hf; exact absurd hf (Nat.not_lt_zero _)
    | succ f ih =>
      intro y k s hf hy hk h1 h23 h24 h25
      rw [lp_s]
      generalize lp P25 (fun _ _ _ => m) f = sf at *
      rw [e25]
      simp only [xl_d]
      by_cases d : k < K
      · have ey : (y + 1).toInt = y.toInt + 1 := adI rfl rfl (by omega) (by omega)
        have l1 := p10c (k := k) (by omega)
        have l0 : 0 < 10 ^ k := Nat.pow_pos (by omega)
        rw [if_pos (by omega)]
        refine ih (y + 1) (k + 1) _ (by omega) (by omega) (by omega) h1 ?_ ?_ ?_
        · rw [upL_n _ _ (by omega)]; exact h23
        · rw [upL_n _ _ (by omega)]; exact h24
        · rw [upL_s, mlL h25 (y := (10 : Int64)) (b := 10) rfl (by omega) (by omega), Nat.pow_succ]
          exact (Int.natCast_mul (10 ^ k) 10).symm
      · rw [if_neg (by omega)]
        refine L51 (N + 1) 0 0 s (by rw [← hN]; exact Nat.lt_succ_self N) rfl (Nat.zero_le _) ?_
        rw [IVd]
        refine ⟨fun a b _ => by rw [h1], by rw [h23]; rfl, by rw [h24]; rfl, ?_⟩
        rw [h25, show k = K by omega]
  rw [← hu]
  refine L25 (N2 + 1) (Int32.ofNat H) 0 _ ?_ ?_ (by omega) rfl ?_ ?_ ?_
  · rw [hN2, r1]; exact Nat.lt_succ_self _
  · rw [← r1, ← r2]; rfl
  · rw [upL_n _ _ (by omega), upL_n _ _ (by omega), upL_s]
  · rw [upL_n _ _ (by omega), upL_s]
  · rw [upL_s]; rfl
theorem toldM_ {x y : Int64} {a b : Nat} (w : Int32) (u : St) (hx : x.toInt = (a : Int)) (hy : y.toInt = (b : Int)) (hb : 0 < b) : (F_X8_told x y w u).toInt = ((if w.toInt = 0 then a / Nat.gcd a b else b / Nat.gcd a b : Nat) : Int) := by
  have hd := comM u hy hx
  rw [Nat.gcd_comm b a] at hd
  have hg : 0 < Nat.gcd a b := Nat.gcd_pos_of_pos_right a hb
  simp only [F_X8_told, xl_d]
  generalize F_X8_common y x u = r at *
  by_cases w0 : w.toInt = 0
  · rw [if_pos w0, if_pos w0]; exact dvQ hx hd hg
  · rw [if_neg w0, if_neg w0]; exact dvQ hy hd hg
theorem ans_od {c m : St} (h : Sim c m) (a0 a1 fl : Int32) {v : Nat} (ha : a0.toInt = (v : Int)) (hv : v ≤ 10) (w : St) {x : Int64} (hx : x.toInt = ((Rr (vzO fl) (alM m) v (nM m) 0 (F_X8_starts 0 m) : Nat) : Int)) : F_X1_part 41 (F_X1_weighAll 41 12 a0 fl c).1 ((F_X1_weighAll 41 12 a0 fl c).2.1 12 14) a1 (F_X1_weighAll 41 12 a0 fl c).2 = F_X8_told x ((F_X8_findOdds 0 a0 m).2 0 25) a1 w := by
  obtain ⟨al1, al2, -, -⟩ := h.1.al
  obtain ⟨⟨W, o1, o2, o3⟩, o4⟩ := wAll h a0 fl ha hv
  obtain ⟨-, -, -, i4⟩ := fOdds h.1 a0 ha hv
  have p1 : 0 < 10 ^ (10 - hr (F_X8_starts 0 m)) := Nat.pow_pos (by omega)
  have p2 : 0 < 10 ^ nM m := Nat.pow_pos (by omega)
  obtain ⟨q1, q2⟩ := frac p2 p1 o3
  apply Int64.toInt_inj.mp
  rw [partC (n := nM m) _ o1 (by rw [o4, al1]) al2, toldM_ a1 w hx i4 p1, q1, q2]
theorem ans_luck {c m : St} {r r2 : Int64} {a0 a1 : Int32} {u w : St} (h : Sim c m) (hC : (r, u) = F_X7_luck 0 a0 a1 c) (hM : (r2, w) = F_X8_luck 0 a0 a1 m) : r = r2 := by
  have hi := inI (x := a0) (b := 0) (c := 10) (lo := 0) (hi := 10) m rfl rfl
  have hp := isPtM (a := a1) (m := m)
  have hq := isZoC (a := a1) (c := c)
  simp only [F_X7_luck, xl_d, xm_d, Nat.reduceAdd] at hC
  simp only [F_X8_luck, xl_d] at hM
  by_cases g : (0 ≤ a0.toInt ∧ a0.toInt ≤ 10) ∧ (0 ≤ a1.toInt ∧ a1.toInt ≤ 1)
  · rw [if_neg (by omega), if_neg (by omega), if_neg (fun y => hq.mp y g.2)] at hC
    rw [if_neg (fun y => hi.mp y g.1), if_neg (fun y => hp.mp y g.2)] at hM
    rw [(Prod.mk.inj hC).1, (Prod.mk.inj hM).1]
    obtain ⟨v, hv⟩ := Int.eq_ofNat_of_zero_le g.1.1
    refine ans_od h a0 a1 0 hv (by omega) _ ?_
    rw [fz_R]
    exact (fOdds h.1 a0 hv (by omega)).2.1
  · have eC : r = -1 := by
      by_cases g1 : a0.toInt < 0
      · rw [if_pos g1] at hC; exact (Prod.mk.inj hC).1
      · rw [if_neg g1] at hC
        by_cases g2 : 10 < a0.toInt
        · rw [if_pos g2] at hC; exact (Prod.mk.inj hC).1
        · rw [if_neg g2, if_pos (hq.mpr (by omega))] at hC; exact (Prod.mk.inj hC).1
    have eM : r2 = -1 := by
      by_cases g1 : 0 ≤ a0.toInt ∧ a0.toInt ≤ 10
      · rw [if_neg (fun y => hi.mp y g1), if_pos (hp.mpr (fun y => g ⟨g1, y⟩))] at hM; exact (Prod.mk.inj hM).1
      · rw [if_pos (hi.mpr g1)] at hM; exact (Prod.mk.inj hM).1
    rw [eC, eM]
theorem ans_mean {c m : St} {r r2 : Int64} {a0 a1 : Int32} {u w : St} (h : Sim c m) (hC : (r, u) = F_X7_mean 0 a0 a1 c) (hM : (r2, w) = F_X8_mean 0 a0 a1 m) : r = r2 := by
  have hi := inI (x := a0) (b := 0) (c := 10) (lo := 0) (hi := 10) m rfl rfl
  have hp := isPtM (a := a1) (m := m)
  have hq := isZoC (a := a1) (c := c)
  simp only [F_X7_mean, xl_d, xm_d, Nat.reduceAdd] at hC
  simp only [F_X8_mean, xl_d] at hM
  by_cases g : (0 ≤ a0.toInt ∧ a0.toInt ≤ 10) ∧ (0 ≤ a1.toInt ∧ a1.toInt ≤ 1)
  · rw [if_neg (by omega), if_neg (by omega), if_neg (fun y => hq.mp y g.2)] at hC
    rw [if_neg (fun y => hi.mp y g.1), if_neg (fun y => hp.mp y g.2)] at hM
    rw [(Prod.mk.inj hC).1, (Prod.mk.inj hM).1]
    obtain ⟨v, hv⟩ := Int.eq_ofNat_of_zero_le g.1.1
    refine ans_od h a0 a1 1 hv (by omega) _ ?_
    rw [fz_R]
    exact (fOdds h.1 a0 hv (by omega)).2.2.1
  · have eC : r = -1 := by
      by_cases g1 : a0.toInt < 0
      · rw [if_pos g1] at hC; exact (Prod.mk.inj hC).1
      · rw [if_neg g1] at hC
        by_cases g2 : 10 < a0.toInt
        · rw [if_pos g2] at hC; exact (Prod.mk.inj hC).1
        · rw [if_neg g2, if_pos (hq.mpr (by omega))] at hC; exact (Prod.mk.inj hC).1
    have eM : r2 = -1 := by
      by_cases g1 : 0 ≤ a0.toInt ∧ a0.toInt ≤ 10
      · rw [if_neg (fun y => hi.mp y g1), if_pos (hp.mpr (fun y => g ⟨g1, y⟩))] at hM; exact (Prod.mk.inj hM).1
      · rw [if_pos (hi.mpr g1)] at hM; exact (Prod.mk.inj hM).1
    rw [eC, eM]
