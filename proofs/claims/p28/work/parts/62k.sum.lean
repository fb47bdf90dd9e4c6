/-! sums over the clouds -/
def sm (f : Nat → Nat) : Nat → Nat
  | 0 => 0
  | n + 1 => sm f n + f n
theorem sm_c {f g : Nat → Nat} (n : Nat) (h : ∀ s : Nat, s < n → f s = g s) : sm f n = sm g n := by
  induction n with
  | zero => rfl
  | succ n ih =>
    show sm f n + f n = sm g n + g n
    rw [ih (fun s q => h s (by omega)), h n (by omega)]
theorem sm_m (f : Nat → Nat) (c n : Nat) : sm (fun s => c * f s) n = c * sm f n := by
  induction n with
  | zero => rfl
  | succ n ih =>
    show sm (fun s => c * f s) n + c * f n = c * (sm f n + f n)
    rw [ih, Nat.mul_add]
theorem sm_2 (f : Nat → Nat) (n : Nat) : sm f (2 * n) = sm (fun s => f (2 * s)) n + sm (fun s => f (2 * s + 1)) n := by
  induction n with
  | zero => rfl
  | succ n ih =>
    have e : 2 * (n + 1) = 2 * n + 1 + 1 := by omega
    rw [e]
    show sm f (2 * n) + f (2 * n) + f (2 * n + 1) = (sm (fun s => f (2 * s)) n + f (2 * n)) + (sm (fun s => f (2 * s + 1)) n + f (2 * n + 1))
    rw [ih]
    omega
theorem sm_le {f g : Nat → Nat} (n : Nat) (h : ∀ s : Nat, s < n → f s ≤ g s) : sm f n ≤ sm g n := by
  induction n with
  | zero => exact Nat.le_refl _
  | succ n ih =>
    show sm f n + f n ≤ sm g n + g n
    have h1 := ih (fun s q => h s (by omega))
    have h2 := h n (by omega)
    omega
theorem sm_mo (f : Nat → Nat) (a b : Nat) : sm f a ≤ sm f (a + b) := by
  induction b with
  | zero => exact Nat.le_refl _
  | succ b ih =>
    show sm f a ≤ sm f (a + b) + f (a + b)
    omega
/-- how many of 10 each hour -/
def wy (v : Nat) : Nat → Nat → Nat
  | 0, _ => 1
  | k + 1, S => (if S % 2 = 1 then v else 10 - v) * wy v k (S / 2)
theorem wy_s (v k S : Nat) : wy v (k + 1) S = (if S % 2 = 1 then v else 10 - v) * wy v k (S / 2) := rfl
theorem wy_e (v k s : Nat) : wy v (k + 1) (2 * s) = (10 - v) * wy v k s := by
  rw [wy_s, if_neg (by omega), show 2 * s / 2 = s by omega]
theorem wy_o (v k s : Nat) : wy v (k + 1) (2 * s + 1) = v * wy v k s := by
  rw [wy_s, if_pos (by omega), show (2 * s + 1) / 2 = s by omega]
theorem wy_a {v : Nat} (hv : v ≤ 10) (k : Nat) : sm (wy v k) (2 ^ k) = 10 ^ k := by
  induction k with
  | zero => rfl
  | succ k ih =>
    rw [Nat.pow_succ, Nat.mul_comm, sm_2]
    rw [sm_c (g := fun s => (10 - v) * wy v k s) _ (fun s _ => wy_e v k s), sm_c (f := fun s => wy v (k + 1) (2 * s + 1)) (g := fun s => v * wy v k s) _ (fun s _ => wy_o v k s), sm_m, sm_m, ih, ← Nat.add_mul, show 10 - v + v = 10 by omega, Nat.pow_succ, Nat.mul_comm]
/-- the value that a run of the plan ends with -/
def Tv (vl : St → Nat) (al : Nat → Int32) : Nat → Nat → St → Nat
  | 0, _, z => vl z
  | d + 1, i, z => Tv vl al d (i + 1) (F_X8_steps 0 (al i) z).2
theorem Tv_s (vl : St → Nat) (al : Nat → Int32) (d i : Nat) (z : St) : Tv vl al (d + 1) i z = Tv vl al d (i + 1) (F_X8_steps 0 (al i) z).2 := rfl
def hr (z : St) : Nat := (z.1 2 29).toInt.toNat
def Rr (vl : St → Nat) (al : Nat → Int32) (v d i : Nat) (z : St) : Nat := sm (fun S => wy v (10 - hr z) S * Tv vl al d i (up1 z 2 28 (Int32.ofNat (S * 2 ^ hr z)))) (2 ^ (10 - hr z))
def EB (h : Nat) (C C' : Int32) : Prop := ∀ k : Nat, h ≤ k → k < 10 → (C' >>> (Int32.ofNat k &&& 31)) &&& 1 = (C >>> (Int32.ofNat k &&& 31)) &&& 1
def Iz (z : St) : Prop := (¬ (z.1 0 4).toInt = 0 → 0 ≤ (z.1 2 23).toInt ∧ (z.1 2 23).toInt < 3) ∧ 0 ≤ (z.1 2 29).toInt ∧ (z.1 2 29).toInt ≤ 10
theorem hr_i {z : St} (h : Iz z) : z.1 2 29 = Int32.ofNat (hr z) ∧ ((hr z : Nat) : Int) = (z.1 2 29).toInt ∧ hr z ≤ 10 := by
  have h2 := h.2
  have e : ((hr z : Nat) : Int) = (z.1 2 29).toInt := Int.toNat_of_nonneg h2.1
  exact ⟨i32_of e.symm (by omega), e, by omega⟩
theorem hr_zc (z : St) (C : Int32) : hr (up1 z 2 28 C) = hr z := by
  unfold hr
  rw [up1_n _ _ (by omega)]
theorem Iz.zc {z : St} (h : Iz z) (C : Int32) : Iz (up1 z 2 28 C) := by
  unfold Iz at h ⊢
  rw [up1_n _ _ (by omega), up1_n _ _ (by omega), up1_n _ _ (by omega)]
  exact h
theorem Iz.st {z : St} (h : Iz z) (a : Int32) : Iz (F_X8_steps 0 a z).2 := by
  by_cases g : 0 < (z.1 2 27).toInt ∧ (z.1 2 29).toInt < 10
  · obtain ⟨y1, y2, -⟩ := steps_y a g
    have h2 := h.2
    have e : (z.1 2 29 + 1).toInt = (z.1 2 29).toInt + 1 := adI rfl rfl (by omega) (by omega)
    unfold Iz at h ⊢
    rw [y1, y2 0 4 (by omega), y2 2 23 (by omega), e]
    exact ⟨h.1, by omega, by omega⟩
  · rw [steps_n a g]; exact h
theorem hr_st {z : St} (h : Iz z) (a : Int32) (g : 0 < (z.1 2 27).toInt ∧ (z.1 2 29).toInt < 10) : hr (F_X8_steps 0 a z).2 = hr z + 1 := by
  obtain ⟨y1, -, -⟩ := steps_y a g
  have h2 := h.2
  have e : (z.1 2 29 + 1).toInt = (z.1 2 29).toInt + 1 := adI rfl rfl (by omega) (by omega)
  unfold hr
  rw [y1, e]
  omega
/-- the aims of a plan -/
def Al (al : Nat → Int32) (n : Nat) : Prop := ∀ j : Nat, j < n → (al j).toInt < 5 → 0 ≤ (al j).toInt
def Vq (vl : St → Nat) : Prop := ∀ z z' : St, Q28 z z' → vl z' = vl z
theorem Tv_q {vl : St → Nat} {al : Nat → Int32} {n : Nat} (hv : Vq vl) (ha : Al al n) (d : Nat) : ∀ (i : Nat) (z z' : St), i + d ≤ n → Iz z → Q28 z z' → EB (hr z) (z.1 2 28) (z'.1 2 28) → Tv vl al d i z' = Tv vl al d i z := by
  induction d with
  | zero => intro i z z' _ _ q _; exact hv z z' q
  | succ d ih =>
    intro i z z' hi hz q e
    rw [Tv_s, Tv_s]
    obtain ⟨r1, r2, r3⟩ := hr_i hz
    have e27 := q 2 27 (by omega)
    have e29 := q 2 29 (by omega)
    by_cases g : 0 < (z.1 2 27).toInt ∧ (z.1 2 29).toInt < 10
    · have eb := e (hr z) (Nat.le_refl _) (by omega)
      rw [← r1] at eb
      have sq := (steps_q q (ha i (by omega)) hz.1 eb).2
      obtain ⟨-, y2, -⟩ := steps_y (al i) g
      obtain ⟨-, w2, -⟩ := steps_y (z := z') (al i) (by rw [e27, e29]; exact g)
      refine ih (i + 1) _ _ (by omega) (hz.st _) sq ?_
      rw [hr_st hz _ g, y2 2 28 (by omega), w2 2 28 (by omega)]
      exact fun k h1 h2 => e k (by omega) h2
    · rw [steps_n (al i) g, steps_n (z := z') (al i) (by rw [e27, e29]; exact g)]
      exact ih (i + 1) _ _ (by omega) hz q e
theorem Rr_q {vl : St → Nat} {al : Nat → Int32} {n v : Nat} (hv : Vq vl) (ha : Al al n) {d i : Nat} {z z' : St} (hi : i + d ≤ n) (hz : Iz z) (q : Q28 z z') : Rr vl al v d i z' = Rr vl al v d i z := by
  have e : hr z' = hr z := by unfold hr; rw [q 2 29 (by omega)]
  unfold Rr
  rw [e]
  refine sm_c _ (fun s _ => ?_)
  rw [Tv_q hv ha d i (up1 z 2 28 (Int32.ofNat (s * 2 ^ hr z))) (up1 z' 2 28 (Int32.ofNat (s * 2 ^ hr z))) hi (hz.zc _) ((q.l _).r _)]
  rw [up1_s, up1_s]
  exact fun _ _ _ => rfl
theorem Rr_0 {vl : St → Nat} {al : Nat → Int32} {v : Nat} (hv : Vq vl) (h10 : v ≤ 10) (i : Nat) (z : St) : Rr vl al v 0 i z = vl z * 10 ^ (10 - hr z) := by
  unfold Rr
  rw [sm_c (g := fun S => vl z * wy v (10 - hr z) S) _ (fun s _ => ?_), sm_m, wy_a h10]
  show wy v (10 - hr z) s * vl _ = _
  rw [hv z (up1 z 2 28 (Int32.ofNat (s * 2 ^ hr z))) ((Q28.rf z).r _), Nat.mul_comm]
theorem Rr_n {vl : St → Nat} {al : Nat → Int32} {v d i : Nat} {z : St} (g : ¬ (0 < (z.1 2 27).toInt ∧ (z.1 2 29).toInt < 10)) : Rr vl al v (d + 1) i z = Rr vl al v d (i + 1) z := by
  unfold Rr
  refine sm_c _ (fun s _ => ?_)
  rw [Tv_s, steps_n (z := up1 z 2 28 (Int32.ofNat (s * 2 ^ hr z))) (al i) (by rw [up1_n _ _ (by omega), up1_n _ _ (by omega)]; exact g)]
theorem shb (S h j : Nat) : S * 2 ^ h / 2 ^ (h + j) = S / 2 ^ j := by
  rw [Nat.pow_add, Nat.mul_comm (2 ^ h) (2 ^ j), Nat.mul_div_mul_right _ _ (Nat.two_pow_pos h)]
theorem Rr_b {vl : St → Nat} {al : Nat → Int32} {n v d i : Nat} {z : St} (hv : Vq vl) (ha : Al al n) (hi : i + (d + 1) ≤ n) (hz : Iz z) (g : 0 < (z.1 2 27).toInt ∧ (z.1 2 29).toInt < 10) {b : Nat} (hb : b < 2) {C : Int32} (hC : (C >>> (Int32.ofNat (hr z) &&& 31)) &&& 1 = Int32.ofNat b) : sm (fun s => wy v (9 - hr z) s * Tv vl al (d + 1) i (up1 z 2 28 (Int32.ofNat ((2 * s + b) * 2 ^ hr z)))) (2 ^ (9 - hr z)) = Rr vl al v d (i + 1) (F_X8_steps 0 (al i) (up1 z 2 28 C)).2 := by
  obtain ⟨r1, r2, r3⟩ := hr_i hz
  have hz2 := hz.zc C
  have g2 : 0 < ((up1 z 2 28 C).1 2 27).toInt ∧ ((up1 z 2 28 C).1 2 29).toInt < 10 := by rw [up1_n _ _ (by omega), up1_n _ _ (by omega)]; exact g
  have h9 : hr z ≤ 9 := by omega
  have hs := hr_st hz2 (al i) g2
  rw [hr_zc] at hs
  unfold Rr
  rw [hs, show 10 - (hr z + 1) = 9 - hr z by omega]
  refine sm_c _ (fun s hs2 => ?_)
  rw [Tv_s]
  have p1 : 2 ^ (9 - hr z) * 2 ^ (hr z + 1) = 1024 := by rw [← Nat.pow_add, show 9 - hr z + (hr z + 1) = 10 by omega]
  have p2 : 2 ^ (hr z + 1) = 2 * 2 ^ hr z := by rw [Nat.pow_succ, Nat.mul_comm]
  have k1 : (s + 1) * 2 ^ (hr z + 1) ≤ 1024 := by rw [← p1]; exact Nat.mul_le_mul_right _ hs2
  have k2 : s * 2 ^ (hr z + 1) < 1024 := by
    have := Nat.two_pow_pos (hr z + 1)
    rw [Nat.add_mul] at k1
    omega
  have k3 : (2 * s + b) * 2 ^ hr z < 1024 := by
    have a1 := Nat.two_pow_pos (hr z)
    have a2 : (s + 1) * (2 * 2 ^ hr z) = (2 * s + 1) * 2 ^ hr z + 2 ^ hr z := by
      rw [← Nat.mul_assoc, show (s + 1) * 2 = (2 * s + 1) + 1 by omega, Nat.add_mul (2 * s + 1), Nat.one_mul]
    have a3 : (2 * s + b) * 2 ^ hr z ≤ (2 * s + 1) * 2 ^ hr z := Nat.mul_le_mul_right _ (by omega)
    rw [p2] at k1
    omega
  have bW : ((up1 z 2 28 (Int32.ofNat ((2 * s + b) * 2 ^ hr z))).1 2 28 >>> ((up1 z 2 28 C).1 2 29 &&& 31)) &&& 1 = ((up1 z 2 28 C).1 2 28 >>> ((up1 z 2 28 C).1 2 29 &&& 31)) &&& 1 := by
    rw [up1_s, up1_s, up1_n _ _ (by omega), r1, hC, btN k3 (by omega)]
    have := shb (2 * s + b) (hr z) 0
    rw [Nat.add_zero, Nat.pow_zero, Nat.div_one] at this
    rw [this, show (2 * s + b) % 2 = b by omega]
  have q0 : Q28 (up1 z 2 28 C) (up1 z 2 28 (Int32.ofNat ((2 * s + b) * 2 ^ hr z))) := ((Q28.rf z).l _).r _
  have q1 := (steps_q q0 (ha i (by omega)) hz2.1 bW).2
  obtain ⟨-, y2, -⟩ := steps_y (z := up1 z 2 28 (Int32.ofNat ((2 * s + b) * 2 ^ hr z))) (al i) (by rw [up1_n _ _ (by omega), up1_n _ _ (by omega)]; exact g)
  rw [Tv_q hv ha d (i + 1) (up1 (F_X8_steps 0 (al i) (up1 z 2 28 C)).2 2 28 (Int32.ofNat (s * 2 ^ (hr z + 1)))) _ (by omega) ((hz2.st _).zc _) (q1.l _)]
  rw [hr_zc, hs, up1_s, y2 2 28 (by omega), up1_s]
  intro k l1 l2
  rw [btN k3 l2, btN k2 l2]
  obtain ⟨j, rfl⟩ : ∃ j, k = hr z + 1 + j := ⟨k - (hr z + 1), by omega⟩
  rw [shb s (hr z + 1) j, Nat.add_assoc, shb (2 * s + b) (hr z) (1 + j), Nat.pow_add, Nat.pow_one, ← Nat.div_div_eq_div_mul, show (2 * s + b) / 2 = s by omega]
theorem Rr_y {vl : St → Nat} {al : Nat → Int32} {n v d i : Nat} {z : St} (hv : Vq vl) (ha : Al al n) (hi : i + (d + 1) ≤ n) (hz : Iz z) (g : 0 < (z.1 2 27).toInt ∧ (z.1 2 29).toInt < 10) {C0 C1 : Int32} (h0 : (C0 >>> (Int32.ofNat (hr z) &&& 31)) &&& 1 = Int32.ofNat 0) (h1 : (C1 >>> (Int32.ofNat (hr z) &&& 31)) &&& 1 = Int32.ofNat 1) : Rr vl al v (d + 1) i z = (10 - v) * Rr vl al v d (i + 1) (F_X8_steps 0 (al i) (up1 z 2 28 C0)).2 + v * Rr vl al v d (i + 1) (F_X8_steps 0 (al i) (up1 z 2 28 C1)).2 := by
  obtain ⟨r1, r2, r3⟩ := hr_i hz
  rw [← Rr_b hv ha hi hz g (by omega) h0, ← Rr_b hv ha hi hz g (by omega) h1, ← sm_m, ← sm_m]
  conv => lhs; unfold Rr
  rw [show 10 - hr z = (9 - hr z) + 1 by omega, Nat.pow_succ, Nat.mul_comm (2 ^ (9 - hr z)) 2, sm_2]
  congr 1
  · refine sm_c _ (fun s _ => ?_)
    show wy v (9 - hr z + 1) (2 * s) * _ = _
    rw [wy_e, Nat.mul_assoc]
    rfl
  · refine sm_c _ (fun s _ => ?_)
    show wy v (9 - hr z + 1) (2 * s + 1) * _ = _
    rw [wy_o, Nat.mul_assoc]
