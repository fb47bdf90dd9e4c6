/-! the class's token -/
theorem xl_d {α β : Type} (x : α) (f : α → β) : xl x f = f x := by
  have h : ∀ y, y = x → xl y f = f x := fun y e => by subst e; rfl
  exact h x rfl
theorem xm_d {α β γ : Type} (x : α × β) (f : α → β → γ) : xm x f = f x.1 x.2 := by
  have h : ∀ y, y = x → xm y f = f x.1 x.2 := fun y e => by subst e; rfl
  exact h x rfl
theorem lp_s {A : Type} (f : A → A) (d : A) (n : Nat) : lp f d (n + 1) = f (lp f d n) := rfl
def BC (k : Nat) (v : St) : Int → Int := fun i => if 0 ≤ i ∧ i < (v.1 k 1).toInt then (v.1 (k + 1) i.toNat).toInt else -1
theorem byC (k : Nat) (a : Int32) (v : St) : (F_X5_byteAt k a v).toInt = BC k v a.toInt := by
  simp only [F_X5_byteAt, xl_d, BC]
  by_cases c1 : a.toInt < 0
  · rw [if_pos c1, if_neg (by omega)]; rfl
  · rw [if_neg c1]
    by_cases c2 : a.toInt < (v.1 k 1).toInt
    · rw [if_pos c2, if_pos ⟨by omega, c2⟩]; rfl
    · rw [if_neg c2, if_neg (by omega)]; rfl
theorem BC_f {k : Nat} {u v : St} (h1 : u.1 k 1 = v.1 k 1) (h2 : ∀ i : Nat, u.1 (k + 1) i = v.1 (k + 1) i) : BC k u = BC k v := by
  unfold BC
  rw [h1]
  funext i
  rw [h2]
theorem kdC (a : Int32) (v : St) : (F_X5_kindOf a v).toInt = if a.toInt = 32 then 4 else kd a.toInt := by
  have c0 : (0 : Int32).toInt = 0 := rfl
  have c1 : (1 : Int32).toInt = 1 := rfl
  have c2 : (2 : Int32).toInt = 2 := rfl
  have c3 : (3 : Int32).toInt = 3 := rfl
  have c4 : (4 : Int32).toInt = 4 := rfl
  have c5 : (5 : Int32).toInt = 5 := rfl
  simp only [F_X5_kindOf, xl_d, kd]
  repeat' split
  all_goals omega
theorem refC {k : Nat} {a b : Int32} {v : St} (h : (v.1 k 8).toInt = 0) : F_X5_refuse k a b v = up1 (up1 v k 8 a) k 9 b := by
  simp only [F_X5_refuse, xl_d]
  rw [if_pos h]
theorem refC_x {k : Nat} {a b : Int32} {v : St} (h : ¬ (v.1 k 8).toInt = 0) : F_X5_refuse k a b v = v := by
  simp only [F_X5_refuse, xl_d]
  rw [if_neg h]
theorem kd_K {K lo hi : Int} (hK : (K = 1 ∧ lo = 97 ∧ hi = 122) ∨ (K = 2 ∧ lo = 48 ∧ hi = 57)) (c : Int) : (if c = 32 then 4 else kd c) = K ↔ lo ≤ c ∧ c ≤ hi := by
  unfold kd
  rcases hK with ⟨rfl, rfl, rfl⟩ | ⟨rfl, rfl, rfl⟩
  · repeat' split
    all_goals omega
  · repeat' split
    all_goals omega
/-- a token is taken -/
def bad (B : Int → Int) (f : Int) : Prop := kd (B f) = 5 ∨ (kd (B f) = 2 ∧ f + 2 < rq B f)
def TKc (B : Int → Int) (f : Int) (v u : St) : Prop := (∀ a b : Nat, (a ≠ 1 ∨ b < 3 ∨ b = 7 ∨ 10 ≤ b) → u.1 a b = v.1 a b) ∧ (u.1 1 4).toInt = f ∧ (bad B f → (u.1 1 8).toInt = 1 ∧ (u.1 1 9).toInt = f) ∧ (¬ bad B f → (u.1 1 8).toInt = 0 ∧ (u.1 1 3).toInt = kd (B f) ∧ (u.1 1 5).toInt = rq B f ∧ (kd (B f) = 2 → (u.1 1 6).toInt = vl B f))
set_option maxHeartbeats 2000000 in
theorem tokC {v : St} {B : Int → Int} {L : Int} (hB : okB B L) (hb : BC 1 v = B) (h0 : (v.1 1 8).toInt = 0) (h5 : 0 ≤ (v.1 1 5).toInt ∧ (v.1 1 5).toInt ≤ L) : TKc B (skp B (v.1 1 5).toInt) v (F_X5_takeToken 1 v) := by
  generalize hu : F_X5_takeToken 1 v = u
  unfold F_X5_takeToken at hu
  obtain ⟨N, hN⟩ : ∃ N : Nat, N = (2147483647 - (0 : Int32).toInt).toNat := ⟨_, rfl⟩
  rw [← hN] at hu
  obtain ⟨J231, e231, hu⟩ := xl_e hu
  obtain ⟨J202, e202, hu⟩ := xl_e hu
  obtain ⟨P134, e134, hu⟩ := xl_e hu
  obtain ⟨J131, e131, hu⟩ := xl_e hu
  obtain ⟨J126, e126, hu⟩ := xl_e hu
  obtain ⟨J92, e92, hu⟩ := xl_e hu
  obtain ⟨J56, e56, hu⟩ := xl_e hu
  obtain ⟨P18, e18, hu⟩ := xl_e hu
  have hL := hB.2.1
  have hok := hB.2.2
  have B202 : ∀ x : St, (x.1 1 8).toInt = 0 → 0 ≤ (x.1 1 4).toInt → (x.1 1 4).toInt ≤ 160 → 0 ≤ (x.1 1 5).toInt → (x.1 1 5).toInt ≤ 161 → J202 x = if (x.1 1 3).toInt = 5 ∨ ((x.1 1 3).toInt = 2 ∧ (x.1 1 4).toInt + 2 < (x.1 1 5).toInt) then up1 (up1 x 1 8 1) 1 9 (x.1 1 4) else x := by
    intro x g0 g1 g2 g3 g4
    have hs : (x.1 1 5 - x.1 1 4).toInt = (x.1 1 5).toInt - (x.1 1 4).toInt := sbI rfl rfl (by omega) (by omega)
    rw [e202]
    simp only [xl_d]
    rw [e231]
    simp only [xl_d]
    rw [refC g0, hs]
    by_cases c5 : (x.1 1 3).toInt = 5
    · rw [if_pos c5, if_pos (Or.inl c5)]
    · rw [if_neg c5]
      by_cases c2 : (x.1 1 3).toInt = 2
      · rw [if_pos c2]
        by_cases c3 : 2 < (x.1 1 5).toInt - (x.1 1 4).toInt
        · rw [if_pos c3, if_pos (Or.inr ⟨c2, by omega⟩)]
        · rw [if_neg c3, if_neg (by omega)]
      · rw [if_neg c2, if_neg (by omega)]
  have L134 : ∀ (K lo hi : Int), ((K = 1 ∧ lo = 97 ∧ hi = 122) ∨ (K = 2 ∧ lo = 48 ∧ hi = 57)) → ∀ (n : Nat) (y : Int32) (x : St), (2147483647 - y.toInt).toNat < n → 0 ≤ y.toInt → y.toInt < (x.1 1 5).toInt → (x.1 1 5).toInt ≤ L → BC 1 x = B → (x.1 1 3).toInt = K →
      ∃ x2 : St, lp P134 (fun _ _ _ => v) n 1 y x = J202 x2 ∧ (x2.1 1 5).toInt = rn lo hi B (x.1 1 5).toInt ∧ (∀ a b : Nat, (a ≠ 1 ∨ (b ≠ 5 ∧ b ≠ 6)) → x2.1 a b = x.1 a b) ∧ (rn lo hi B (x.1 1 5).toInt = (x.1 1 5).toInt → x2.1 1 6 = x.1 1 6) ∧ (rn lo hi B (x.1 1 5).toInt = (x.1 1 5).toInt + 1 → 0 ≤ (x.1 1 6).toInt → (x.1 1 6).toInt ≤ 99 → (x2.1 1 6).toInt = 10 * (x.1 1 6).toInt + (B (x.1 1 5).toInt - 48)) := by
    intro K lo hi hK n
    induction n with
    | zero => intro y x hm; exact absurd hm (Nat.not_lt_zero _)
    | succ n ih =>
      intro y x hm hy hyb hbL hx hk
      have hby := byC 1 (x.1 1 5) x
      rw [hx] at hby
      have hkk := kdC (F_X5_byteAt 1 (x.1 1 5) x) x
      rw [hby] at hkk
      have hKb := kd_K hK (B (x.1 1 5).toInt)
      have hbb := hok (x.1 1 5).toInt
      show ∃ x2 : St, P134 (lp P134 (fun _ _ _ => v) n) 1 y x = J202 x2 ∧ _
      have c1 : (1 : Int32).toInt = 1 := rfl
      have ep : P134 (lp P134 (fun _ _ _ => v) n) 1 y x = if lo ≤ B (x.1 1 5).toInt ∧ B (x.1 1 5).toInt ≤ hi then lp P134 (fun _ _ _ => v) n 1 (y + 1) (up1 (up1 x 1 6 (x.1 1 6 * 10 + F_X5_byteAt 1 (x.1 1 5) x - 48)) 1 5 (x.1 1 5 + 1)) else J202 x := by
        generalize lp P134 (fun _ _ _ => v) n = sf
        rw [e134]
        simp only [xl_d]
        rw [if_pos (by omega), if_neg (by omega), hkk, hk]
        by_cases c : lo ≤ B (x.1 1 5).toInt ∧ B (x.1 1 5).toInt ≤ hi
        · rw [if_pos (hKb.mpr c), if_pos c, up1_n _ _ (Or.inr (by decide))]
        · rw [if_neg (fun z => c (hKb.mp z)), if_neg c]
      rw [ep]
      by_cases c : lo ≤ B (x.1 1 5).toInt ∧ B (x.1 1 5).toInt ≤ hi
      · rw [if_pos c]
        have hlo : 0 ≤ lo := by omega
        have e5 : (x.1 1 5 + 1).toInt = (x.1 1 5).toInt + 1 := adI rfl rfl (by omega) (by omega)
        have ey : (y + 1).toInt = y.toInt + 1 := adI rfl rfl (by omega) (by omega)
        generalize hx3 : up1 (up1 x 1 6 (x.1 1 6 * 10 + F_X5_byteAt 1 (x.1 1 5) x - 48)) 1 5 (x.1 1 5 + 1) = x3
        have n3 : ∀ a b : Nat, (a ≠ 1 ∨ (b ≠ 5 ∧ b ≠ 6)) → x3.1 a b = x.1 a b := fun a b z => by rw [← hx3, up1_n _ _ (by omega), up1_n _ _ (by omega)]
        have x35 : (x3.1 1 5).toInt = (x.1 1 5).toInt + 1 := by rw [← hx3, up1_s]; exact e5
        have x36 : x3.1 1 6 = x.1 1 6 * 10 + F_X5_byteAt 1 (x.1 1 5) x - 48 := by rw [← hx3, up1_n _ _ (Or.inr (by decide)), up1_s]
        obtain ⟨x2, q1, q2, q3, q4, q5⟩ := ih (y + 1) x3 (by omega) (by omega) (by omega) (by omega) (by rw [BC_f (n3 1 1 (by omega)) (fun i => n3 2 i (by omega))]; exact hx) (by rw [n3 1 3 (by omega)]; exact hk)
        have hr := rn_s hB hlo c
        have hge := rn_r (a := lo) (b := hi) hB hlo (p := (x.1 1 5).toInt + 1) (by omega) (by omega)
        rw [x35, ← hr] at q2 q4 q5
        refine ⟨x2, q1, q2, fun a b z => by rw [q3 a b z, n3 a b z], fun z => by omega, fun z w1 w2 => ?_⟩
        rw [q4 z, x36]
        have m1 : (x.1 1 6 * 10).toInt = (x.1 1 6).toInt * 10 := mlI rfl rfl (by omega) (by omega)
        have m2 : (x.1 1 6 * 10 + F_X5_byteAt 1 (x.1 1 5) x).toInt = (x.1 1 6).toInt * 10 + B (x.1 1 5).toInt := adI m1 hby (by omega) (by omega)
        have m3 := sbI (x := x.1 1 6 * 10 + F_X5_byteAt 1 (x.1 1 5) x) (y := 48) (b := 48) m2 rfl (by omega) (by omega)
        omega
      · rw [if_neg c]
        refine ⟨x, rfl, (rn_e c).symm, fun _ _ _ => rfl, fun _ => rfl, fun z => ?_⟩
        rw [rn_e c] at z
        omega
  have L18 : ∀ (n : Nat) (y : Int32) (x : St), (2147483647 - y.toInt).toNat < n → 0 ≤ y.toInt → y.toInt ≤ (x.1 1 4).toInt → (x.1 1 4).toInt ≤ L → BC 1 x = B →
      ∃ x2 : St, lp P18 (fun _ _ => v) n y x = J56 x2 ∧ (x2.1 1 4).toInt = skp B (x.1 1 4).toInt ∧ (∀ a b : Nat, (a ≠ 1 ∨ b ≠ 4) → x2.1 a b = x.1 a b) := by
    intro n
    induction n with
    | zero => intro y x hm; exact absurd hm (Nat.not_lt_zero _)
    | succ n ih =>
      intro y x hm hy hyb hbL hx
      have hby := byC 1 (x.1 1 4) x
      rw [hx] at hby
      have hkk := kdC (F_X5_byteAt 1 (x.1 1 4) x) x
      rw [hby] at hkk
      have hbb := hok (x.1 1 4).toInt
      have hsp := kd_9 (c := B (x.1 1 4).toInt)
      have hk5 : (if B (x.1 1 4).toInt = 32 then (4 : Int) else kd (B (x.1 1 4).toInt)) = 4 ↔ B (x.1 1 4).toInt = 32 := by
        unfold kd
        repeat' split
        all_goals omega
      show ∃ x2 : St, P18 (lp P18 (fun _ _ => v) n) y x = J56 x2 ∧ _
      have ep : P18 (lp P18 (fun _ _ => v) n) y x = if B (x.1 1 4).toInt = 32 then lp P18 (fun _ _ => v) n (y + 1) (up1 x 1 4 (x.1 1 4 + 1)) else J56 x := by
        generalize lp P18 (fun _ _ => v) n = sf
        rw [e18]
        simp only [xl_d]
        rw [hkk]
        by_cases c : B (x.1 1 4).toInt = 32
        · rw [if_pos (by omega), if_pos (hk5.mpr c), if_pos c]
        · by_cases c2 : y.toInt < 160
          · rw [if_pos c2, if_neg (fun z => c (hk5.mp z)), if_neg c]
          · rw [if_neg c2, if_neg c]
      rw [ep]
      by_cases c : B (x.1 1 4).toInt = 32
      · rw [if_pos c]
        have e5 : (x.1 1 4 + 1).toInt = (x.1 1 4).toInt + 1 := adI rfl rfl (by omega) (by omega)
        have ey : (y + 1).toInt = y.toInt + 1 := adI rfl rfl (by omega) (by omega)
        generalize hx3 : up1 x 1 4 (x.1 1 4 + 1) = x3
        have n3 : ∀ a b : Nat, (a ≠ 1 ∨ b ≠ 4) → x3.1 a b = x.1 a b := fun a b z => by rw [← hx3, up1_n _ _ (by omega)]
        have x35 : (x3.1 1 4).toInt = (x.1 1 4).toInt + 1 := by rw [← hx3, up1_s]; exact e5
        obtain ⟨x2, q1, q2, q3⟩ := ih (y + 1) x3 (by omega) (by omega) (by omega) (by omega) (by rw [BC_f (n3 1 1 (by omega)) (fun i => n3 2 i (by omega))]; exact hx)
        refine ⟨x2, q1, by rw [q2, x35, skp_s hB c], fun a b z => by rw [q3 a b z, n3 a b z]⟩
      · rw [if_neg c]
        exact ⟨x, rfl, (skp_e c).symm, fun _ _ _ => rfl⟩
  have c00 : (0 : Int32).toInt = 0 := rfl
  simp only [xl_d] at hu
  rw [if_pos h0] at hu
  generalize hy : up1 v 1 4 (v.1 1 5) = y0 at hu
  have n0 : ∀ a b : Nat, (a ≠ 1 ∨ b ≠ 4) → y0.1 a b = v.1 a b := fun a b z => by rw [← hy, up1_n _ _ (by omega)]
  have y04 : y0.1 1 4 = v.1 1 5 := by rw [← hy, up1_s]
  have hb0 : BC 1 y0 = B := by rw [BC_f (n0 1 1 (by omega)) (fun i => n0 2 i (by omega))]; exact hb
  obtain ⟨x1, q1, q2, q3⟩ := L18 (N + 1) 0 y0 (by rw [← hN]; exact Nat.lt_succ_self N) (by omega) (by rw [y04]; omega) (by rw [y04]; omega) hb0
  rw [q1, e56] at hu
  rw [y04] at q2
  simp only [xl_d] at hu
  have hs := skp_r hB h5.1 h5.2
  have hq := rq_r hB (f := skp B (v.1 1 5).toInt) (by omega) hs.2.1
  generalize hf : skp B (v.1 1 5).toInt = f at q2 hs hq ⊢
  have hb1 : BC 1 x1 = B := by rw [BC_f (q3 1 1 (by omega)) (fun i => q3 2 i (by omega))]; exact hb0
  have hby := byC 1 (x1.1 1 4) x1
  rw [hb1, q2] at hby
  have hkk := kdC (F_X5_byteAt 1 (x1.1 1 4) x1) x1
  rw [hby, if_neg hs.2.2] at hkk
  generalize F_X5_byteAt 1 (x1.1 1 4) x1 = by1 at hu hby hkk
  generalize F_X5_kindOf by1 x1 = K at hu hkk
  rw [up1_s, up1_n _ _ (Or.inr (by decide))] at hu
  have e41 : (x1.1 1 4 + 1).toInt = (x1.1 1 4).toInt + 1 := adI rfl rfl (by omega) (by omega)
  -- behind: z
  obtain ⟨z, hz, hu⟩ : ∃ z : Int32, (z.toInt = if K.toInt = 0 then f else f + 1) ∧ J92 z (up1 x1 1 3 K) = u := by
    by_cases c : K.toInt = 0
    · rw [if_pos c] at hu
      exact ⟨_, by rw [if_pos c]; exact q2, hu⟩
    · rw [if_neg c] at hu
      exact ⟨_, by rw [if_neg c, e41, q2], hu⟩
  rw [e92] at hu
  simp only [xl_d] at hu
  generalize hx2 : up1 (up1 x1 1 3 K) 1 5 z = x2 at hu
  have n2 : ∀ a b : Nat, (a ≠ 1 ∨ (b ≠ 3 ∧ b ≠ 5)) → x2.1 a b = x1.1 a b := fun a b w => by rw [← hx2, up1_n _ _ (by omega), up1_n _ _ (by omega)]
  have hb2 : BC 1 x2 = B := by rw [BC_f (n2 1 1 (by omega)) (fun i => n2 2 i (by omega))]; exact hb1
  have hby2 := byC 1 (x2.1 1 4) x2
  rw [hb2, n2 1 4 (by omega), q2] at hby2
  rw [n2 1 4 (by omega)] at hu
  generalize F_X5_byteAt 1 (x1.1 1 4) x2 = by2 at hu hby2
  generalize hx3 : up1 x2 1 6 (by2 - 48) = x3 at hu
  have n3 : ∀ a b : Nat, (a ≠ 1 ∨ (b ≠ 3 ∧ b ≠ 5 ∧ b ≠ 6)) → x3.1 a b = x1.1 a b := fun a b w => by rw [← hx3, up1_n _ _ (by omega), n2 _ _ (by omega)]
  have x33 : x3.1 1 3 = K := by rw [← hx3, up1_n _ _ (Or.inr (by decide)), ← hx2, up1_n _ _ (Or.inr (by decide)), up1_s]
  have x35 : x3.1 1 5 = z := by rw [← hx3, up1_n _ _ (Or.inr (by decide)), ← hx2, up1_s]
  have x36 : x3.1 1 6 = by2 - 48 := by rw [← hx3, up1_s]
  have hb3 : BC 1 x3 = B := by rw [BC_f (n3 1 1 (by omega)) (fun i => n3 2 i (by omega))]; exact hb1
  rw [x33, e126, e131] at hu
  simp only at hu
  have hbf := hok f
  have hbe := (hok f).2
  have k9 := kd_9 (c := B f)
  have v6 : (x3.1 1 6).toInt = B f - 48 := by
    rw [x36]
    have := sbI (x := by2) (y := 48) (b := 48) hby2 rfl (by omega) (by omega)
    omega
  -- the run
  obtain ⟨x4, hu, w5, w3, w6⟩ : ∃ x4 : St, J202 x4 = u ∧ (x4.1 1 5).toInt = rq B f ∧ (∀ a b : Nat, (a ≠ 1 ∨ (b ≠ 5 ∧ b ≠ 6)) → x4.1 a b = x3.1 a b) ∧ (kd (B f) = 2 → ¬ f + 2 < rq B f → (x4.1 1 6).toInt = vl B f) := by
    by_cases k1 : kd (B f) = 1
    · rw [if_pos (by omega)] at hu
      obtain ⟨x4, p1, p2, p3, p4, p5⟩ := L134 1 97 122 (by omega) (N + 1) 0 x3 (by rw [← hN]; exact Nat.lt_succ_self N) (by omega) (by rw [x35, hz, if_neg (by omega)]; omega) (by rw [x35, hz, if_neg (by omega)]; have := hq.2.2 (fun z => by have := kd_n z; omega); omega) hb3 (by rw [x33]; omega)
      refine ⟨x4, by rw [← p1]; exact hu, ?_, p3, fun z => by omega⟩
      rw [p2, x35, hz, if_neg (by omega), rq_1 hB k1]
    · rw [if_neg (by omega)] at hu
      by_cases k2 : kd (B f) = 2
      · rw [if_pos (by omega)] at hu
        obtain ⟨x4, p1, p2, p3, p4, p5⟩ := L134 2 48 57 (by omega) (N + 1) 0 x3 (by rw [← hN]; exact Nat.lt_succ_self N) (by omega) (by rw [x35, hz, if_neg (by omega)]; omega) (by rw [x35, hz, if_neg (by omega)]; have := hq.2.2 (fun z => by have := kd_n z; omega); omega) hb3 (by rw [x33]; omega)
        have hr2 := rq_2 hB k2
        have kk := kd_2 k2
        rw [x35, hz, if_neg (by omega), ← hr2] at p2 p4 p5
        refine ⟨x4, by rw [← p1]; exact hu, p2, p3, fun _ g => ?_⟩
        have hgt := hq.2.2 (by omega)
        refine vl_of hgt g (fun z => ?_) (fun z => ?_)
        · rw [p4 z]; exact v6
        · rw [p5 (by omega) (by omega) (by omega), v6]
      · rw [if_neg (by omega)] at hu
        refine ⟨x3, ?_, ?_, fun _ _ _ => rfl, fun z => absurd z k2⟩
        · rw [← hu]
          rw [lp_s]
          generalize lp P134 _ _ = sf
          rw [e134]
          simp only [xl_d]
          rw [if_pos (by decide), if_pos (by decide)]
        · have hn := rq_n (B := B) (f := f) k1 k2
          rw [x35, hz]
          by_cases k0 : kd (B f) = 0
          · rw [if_pos (by omega), hn.1 k0]
          · rw [if_neg (by omega), hn.2 k0]
  have fr : ∀ a b : Nat, (a ≠ 1 ∨ b < 3 ∨ b = 7 ∨ 8 ≤ b) → x4.1 a b = v.1 a b := fun a b w => by rw [w3 a b (by omega), n3 a b (by omega), q3 a b (by omega), n0 a b (by omega)]
  have w4 : (x4.1 1 4).toInt = f := by rw [w3 1 4 (by omega), n3 1 4 (by omega)]; exact q2
  have w33 : (x4.1 1 3).toInt = kd (B f) := by rw [w3 1 3 (by omega), x33]; exact hkk
  have w8 : (x4.1 1 8).toInt = 0 := by rw [fr 1 8 (by omega)]; exact h0
  rw [B202 x4 w8 (by omega) (by omega) (by omega) (by omega), w33, w4, w5] at hu
  by_cases hbad : bad B f
  · rw [if_pos (show kd (B f) = 5 ∨ (kd (B f) = 2 ∧ f + 2 < rq B f) from hbad)] at hu
    refine ⟨fun a b w => ?_, ?_, fun _ => ⟨?_, ?_⟩, fun w => absurd hbad w⟩
    · rw [← hu, up1_n _ _ (by omega), up1_n _ _ (by omega), fr a b (by omega)]
    · rw [← hu, up1_n _ _ (Or.inr (by decide)), up1_n _ _ (Or.inr (by decide))]; exact w4
    · rw [← hu, up1_n _ _ (Or.inr (by decide)), up1_s]; rfl
    · rw [← hu, up1_s]; exact w4
  · rw [if_neg (show ¬ (kd (B f) = 5 ∨ (kd (B f) = 2 ∧ f + 2 < rq B f)) from hbad)] at hu
    subst hu
    refine ⟨fun a b w => fr a b (by omega), w4, fun w => absurd w hbad, fun _ => ⟨w8, w33, w5, fun k2 => w6 k2 (fun z => hbad (Or.inr ⟨k2, z⟩))⟩⟩
