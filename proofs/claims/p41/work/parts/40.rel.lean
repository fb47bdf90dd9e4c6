/-! the bytes of a text, by numbers: blanks are skipped (skp), a run goes on (rn), kinds (kd), where a token ends (rq), what a number is (vl) -/
/-- a measure that falls by one -/
theorem ms_s {a p q : Int} {n : Nat} (h : (a - p).toNat < n + 1) (e : q = p + 1) (hp : p < a) : (a - q).toNat < n := by omega
def okB (B : Int → Int) (L : Int) : Prop := 0 ≤ L ∧ L ≤ 160 ∧ ∀ i, (-1 ≤ B i ∧ B i ≤ 127) ∧ (B i = -1 ↔ (i < 0 ∨ L ≤ i))
def skpF (B : Int → Int) : Nat → Int → Int
  | 0, p => p
  | n + 1, p => if B p = 32 then skpF B n (p + 1) else p
def skp (B : Int → Int) (p : Int) : Int := skpF B (161 - p).toNat p
theorem skp_s {B : Int → Int} {L p : Int} (h : okB B L) (hp : B p = 32) : skp B p = skp B (p + 1) := by
  have h1 := (h.2.2 p).2
  have h2 := h.2.1
  unfold skp
  have e : (161 - p).toNat = (161 - (p + 1)).toNat + 1 := by omega
  rw [e]
  show (if B p = 32 then _ else _) = _
  rw [if_pos hp]
theorem skp_e {B : Int → Int} {p : Int} (hp : ¬ B p = 32) : skp B p = p := by
  unfold skp
  cases (161 - p).toNat with
  | zero => rfl
  | succ n =>
    show (if B p = 32 then _ else _) = _
    rw [if_neg hp]
theorem skpF_r {B : Int → Int} {L : Int} (h : okB B L) : ∀ (n : Nat) (p : Int), p + n = 161 → 0 ≤ p → p ≤ L → p ≤ skpF B n p ∧ skpF B n p ≤ L ∧ ¬ B (skpF B n p) = 32 := by
  intro n
  induction n with
  | zero => intro p h1 h2 h3; have := h.2.1; omega
  | succ n ih =>
    intro p h1 h2 h3
    show p ≤ (if B p = 32 then _ else _) ∧ (if B p = 32 then _ else _) ≤ L ∧ ¬ B (if B p = 32 then _ else _) = 32
    have h4 := (h.2.2 p).2
    by_cases hp : B p = 32
    · rw [if_pos hp]
      have := ih (p + 1) (by omega) (by omega) (by omega)
      exact ⟨by omega, this.2.1, this.2.2⟩
    · rw [if_neg hp]
      exact ⟨Int.le_refl _, h3, hp⟩
theorem skp_r {B : Int → Int} {L p : Int} (h : okB B L) (h2 : 0 ≤ p) (h3 : p ≤ L) : p ≤ skp B p ∧ skp B p ≤ L ∧ ¬ B (skp B p) = 32 := by
  have := h.2.1
  exact skpF_r h _ p (by omega) h2 h3
def rnF (a b : Int) (B : Int → Int) : Nat → Int → Int
  | 0, p => p
  | n + 1, p => if a ≤ B p ∧ B p ≤ b then rnF a b B n (p + 1) else p
def rn (a b : Int) (B : Int → Int) (p : Int) : Int := rnF a b B (161 - p).toNat p
theorem rn_s {a b : Int} {B : Int → Int} {L p : Int} (h : okB B L) (ha : 0 ≤ a) (hp : a ≤ B p ∧ B p ≤ b) : rn a b B p = rn a b B (p + 1) := by
  have h1 := (h.2.2 p).2
  have h2 := h.2.1
  unfold rn
  have e : (161 - p).toNat = (161 - (p + 1)).toNat + 1 := by omega
  rw [e]
  show (if a ≤ B p ∧ B p ≤ b then _ else _) = _
  rw [if_pos hp]
theorem rn_e {a b : Int} {B : Int → Int} {p : Int} (hp : ¬ (a ≤ B p ∧ B p ≤ b)) : rn a b B p = p := by
  unfold rn
  cases (161 - p).toNat with
  | zero => rfl
  | succ n =>
    show (if a ≤ B p ∧ B p ≤ b then _ else _) = _
    rw [if_neg hp]
theorem rnF_r {a b : Int} {B : Int → Int} {L : Int} (h : okB B L) (ha : 0 ≤ a) : ∀ (n : Nat) (p : Int), p + n = 161 → 0 ≤ p → p ≤ L → p ≤ rnF a b B n p ∧ rnF a b B n p ≤ L := by
  intro n
  induction n with
  | zero => intro p h1 h2 h3; have := h.2.1; omega
  | succ n ih =>
    intro p h1 h2 h3
    show p ≤ (if a ≤ B p ∧ B p ≤ b then _ else _) ∧ (if a ≤ B p ∧ B p ≤ b then _ else _) ≤ L
    have h4 := (h.2.2 p).2
    by_cases hp : a ≤ B p ∧ B p ≤ b
    · rw [if_pos hp]
      have := ih (p + 1) (by omega) (by omega) (by omega)
      exact ⟨by omega, this.2⟩
    · rw [if_neg hp]
      exact ⟨Int.le_refl _, h3⟩
theorem rn_r {a b : Int} {B : Int → Int} {L p : Int} (h : okB B L) (ha : 0 ≤ a) (h2 : 0 ≤ p) (h3 : p ≤ L) : p ≤ rn a b B p ∧ rn a b B p ≤ L := by
  have := h.2.1
  exact rnF_r h ha _ p (by omega) h2 h3
def kd (c : Int) : Int := if c = -1 then 0 else if 97 ≤ c ∧ c ≤ 122 then 1 else if 48 ≤ c ∧ c ≤ 57 then 2 else if c = 59 then 3 else 5
def rq (B : Int → Int) (f : Int) : Int := if 97 ≤ B f ∧ B f ≤ 122 then rn 97 122 B f else if 48 ≤ B f ∧ B f ≤ 57 then rn 48 57 B f else if B f = -1 then f else f + 1
def vl (B : Int → Int) (f : Int) : Int := if rq B f = f + 1 then B f - 48 else 10 * (B f - 48) + (B (f + 1) - 48)
theorem rq_r {B : Int → Int} {L f : Int} (h : okB B L) (h2 : 0 ≤ f) (h3 : f ≤ L) : f ≤ rq B f ∧ rq B f ≤ L ∧ (¬ B f = -1 → f < rq B f) := by
  have h4 := h.2.2 f
  unfold rq
  by_cases c1 : 97 ≤ B f ∧ B f ≤ 122
  · rw [if_pos c1, rn_s h (by omega) c1]
    have := rn_r (a := 97) (b := 122) h (by omega) (p := f + 1) (by omega) (by omega)
    omega
  · rw [if_neg c1]
    by_cases c2 : 48 ≤ B f ∧ B f ≤ 57
    · rw [if_pos c2, rn_s h (by omega) c2]
      have := rn_r (a := 48) (b := 57) h (by omega) (p := f + 1) (by omega) (by omega)
      omega
    · rw [if_neg c2]
      by_cases c3 : B f = -1
      · rw [if_pos c3]; omega
      · rw [if_neg c3]; omega
theorem kd_2 {c : Int} (h : kd c = 2) : 48 ≤ c ∧ c ≤ 57 := by
  unfold kd at h
  split at h
  · omega
  · split at h
    · omega
    · split at h
      · assumption
      · split at h <;> omega
theorem kd_0 {c : Int} (h : kd c = 0) : c = -1 := by
  unfold kd at h
  split at h
  · assumption
  · split at h
    · omega
    · split at h
      · omega
      · split at h <;> omega
theorem kd_9 {c : Int} : 0 ≤ kd c ∧ kd c ≤ 5 := by
  unfold kd
  split
  · omega
  · split
    · omega
    · split
      · omega
      · split <;> omega
theorem kd_n {c : Int} (h : c = -1) : kd c = 0 := if_pos h
theorem vl_r {B : Int → Int} {L f : Int} (h : okB B L) (h2 : 0 ≤ f) (h3 : f ≤ L) (hk : kd (B f) = 2) (hq : ¬ f + 2 < rq B f) : 0 ≤ vl B f ∧ vl B f ≤ 99 := by
  have k2 := kd_2 hk
  have hr := rq_r h h2 h3
  unfold vl
  by_cases c : rq B f = f + 1
  · rw [if_pos c]; omega
  · rw [if_neg c]
    have e : rq B f = f + 2 := by omega
    have e2 : rq B f = rn 48 57 B (f + 1) := by
      unfold rq
      rw [if_neg (by omega), if_pos k2, rn_s h (by omega) k2]
    by_cases d : 48 ≤ B (f + 1) ∧ B (f + 1) ≤ 57
    · omega
    · rw [rn_e d] at e2; omega
theorem kd_sp (c : Int) : (c = -1 → kd c = 0) ∧ (97 ≤ c → c ≤ 122 → kd c = 1) ∧ (48 ≤ c → c ≤ 57 → kd c = 2) ∧ (c = 59 → kd c = 3) ∧ (¬ c = -1 → ¬ (97 ≤ c ∧ c ≤ 122) → ¬ (48 ≤ c ∧ c ≤ 57) → ¬ c = 59 → kd c = 5) := by
  unfold kd
  refine ⟨fun h => if_pos h, fun h1 h2 => ?_, fun h1 h2 => ?_, fun h => ?_, fun h1 h2 h3 h4 => ?_⟩
  · rw [if_neg (by omega), if_pos ⟨h1, h2⟩]
  · rw [if_neg (by omega), if_neg (by omega), if_pos ⟨h1, h2⟩]
  · rw [if_neg (by omega), if_neg (by omega), if_neg (by omega), if_pos h]
  · rw [if_neg h1, if_neg h2, if_neg h3, if_neg h4]
theorem rq_1 {B : Int → Int} {L f : Int} (h : okB B L) (hk : kd (B f) = 1) : rq B f = rn 97 122 B (f + 1) := by
  have hs := kd_sp (B f)
  have c : 97 ≤ B f ∧ B f ≤ 122 := by
    by_cases c1 : B f = -1
    · have := hs.1 c1; omega
    · by_cases c2 : 48 ≤ B f ∧ B f ≤ 57
      · have := hs.2.2.1 c2.1 c2.2; omega
      · by_cases c3 : B f = 59
        · have := hs.2.2.2.1 c3; omega
        · by_cases c4 : 97 ≤ B f ∧ B f ≤ 122
          · exact c4
          · have := hs.2.2.2.2 c1 c4 c2 c3; omega
  unfold rq
  rw [if_pos c, rn_s h (by omega) c]
theorem rq_2 {B : Int → Int} {L f : Int} (h : okB B L) (hk : kd (B f) = 2) : rq B f = rn 48 57 B (f + 1) := by
  have c := kd_2 hk
  unfold rq
  rw [if_neg (by omega), if_pos c, rn_s h (by omega) c]
theorem rq_n {B : Int → Int} {f : Int} (h1 : ¬ kd (B f) = 1) (h2 : ¬ kd (B f) = 2) : (kd (B f) = 0 → rq B f = f) ∧ (¬ kd (B f) = 0 → rq B f = f + 1) := by
  have hs := kd_sp (B f)
  have n1 : ¬ (97 ≤ B f ∧ B f ≤ 122) := fun z => h1 (hs.2.1 z.1 z.2)
  have n2 : ¬ (48 ≤ B f ∧ B f ≤ 57) := fun z => h2 (hs.2.2.1 z.1 z.2)
  unfold rq
  rw [if_neg n1, if_neg n2]
  refine ⟨fun z => ?_, fun z => ?_⟩
  · rw [if_pos (kd_0 z)]
  · rw [if_neg (fun y => z (hs.1 y))]
theorem vl_of {B : Int → Int} {f x : Int} (h1 : f < rq B f) (h2 : ¬ f + 2 < rq B f) (q1 : rq B f = f + 1 → x = B f - 48) (q2 : rq B f = f + 2 → x = 10 * (B f - 48) + (B (f + 1) - 48)) : x = vl B f := by
  unfold vl
  by_cases c : rq B f = f + 1
  · rw [if_pos c]; exact q1 c
  · rw [if_neg c]; exact q2 (by omega)
/-! the class's token -/
theorem xl_d {α β : Type} (x : α) (f : α → β) : xl x f = f x := by
  have h : ∀ y, y = x → xl y f = f x := fun y e => by subst e; rfl
  exact h x rfl
theorem xm_d {α β γ : Type} (x : α × β) (f : α → β → γ) : xm x f = f x.1 x.2 := by
  have h : ∀ y, y = x → xm y f = f x.1 x.2 := fun y e => by subst e; rfl
  exact h x rfl
theorem lp_s {A : Type} (f : A → A) (d : A) (n : Nat) : lp f d (n + 1) = f (lp f d n) := rfl
def BC (k : Nat) (v : St) : Int → Int := fun i => if 0 ≤ i ∧ i < (v.1 k 1).toInt then (v.1 (k + 1) i.toNat).toInt else -1
theorem byC (k : Nat) (a : Int32) (v : St) : (F_X5_byteAt k a v).toInt = BC k v a.toInt := by
  simp only [F_X5_byteAt, xl_d, BC]
  by_cases c1 : a.toInt < 0
  · rw [if_pos c1, if_neg (by omega)]; rfl
  · rw [if_neg c1]
    by_cases c2 : a.toInt < (v.1 k 1).toInt
    · rw [if_pos c2, if_pos ⟨by omega, c2⟩]; rfl
    · rw [if_neg c2, if_neg (by omega)]; rfl
theorem BC_f {k : Nat} {u v : St} (h1 : u.1 k 1 = v.1 k 1) (h2 : ∀ i : Nat, u.1 (k + 1) i = v.1 (k + 1) i) : BC k u = BC k v := by
  unfold BC
  rw [h1]
  funext i
  rw [h2]
theorem kdC (a : Int32) (v : St) : (F_X5_kindOf a v).toInt = if a.toInt = 32 then 4 else kd a.toInt := by
  have c0 : (0 : Int32).toInt = 0 := rfl
  have c1 : (1 : Int32).toInt = 1 := rfl
  have c2 : (2 : Int32).toInt = 2 := rfl
  have c3 : (3 : Int32).toInt = 3 := rfl
  have c4 : (4 : Int32).toInt = 4 := rfl
  have c5 : (5 : Int32).toInt = 5 := rfl
  simp only [F_X5_kindOf, xl_d, kd]
  repeat' split
  all_goals omega
theorem refC {k : Nat} {a b : Int32} {v : St} (h : (v.1 k 8).toInt = 0) : F_X5_refuse k a b v = up1 (up1 v k 8 a) k 9 b := by
  simp only [F_X5_refuse, xl_d]
  rw [if_pos h]
theorem refC_x {k : Nat} {a b : Int32} {v : St} (h : ¬ (v.1 k 8).toInt = 0) : F_X5_refuse k a b v = v := by
  simp only [F_X5_refuse, xl_d]
  rw [if_neg h]
theorem kd_K {K lo hi : Int} (hK : (K = 1 ∧ lo = 97 ∧ hi = 122) ∨ (K = 2 ∧ lo = 48 ∧ hi = 57)) (c : Int) : (if c = 32 then 4 else kd c) = K ↔ lo ≤ c ∧ c ≤ hi := by
  unfold kd
  rcases hK with ⟨rfl, rfl, rfl⟩ | ⟨rfl, rfl, rfl⟩
  · repeat' split
    all_goals omega
  · repeat' split
    all_goals omega
/-- a token is taken -/
def bad (B : Int → Int) (f : Int) : Prop := kd (B f) = 5 ∨ (kd (B f) = 2 ∧ f + 2 < rq B f)
def TKc (B : Int → Int) (f : Int) (v u : St) : Prop := (∀ a b : Nat, (a ≠ 1 ∨ b < 3 ∨ b = 7 ∨ 10 ≤ b) → u.1 a b = v.1 a b) ∧ (u.1 1 4).toInt = f ∧ (bad B f → (u.1 1 8).toInt = 1 ∧ (u.1 1 9).toInt = f) ∧ (¬ bad B f → (u.1 1 8).toInt = 0 ∧ (u.1 1 3).toInt = kd (B f) ∧ (u.1 1 5).toInt = rq B f ∧ (kd (B f) = 2 → (u.1 1 6).toInt = vl B f))
set_option maxHeartbeats 2000000 in
theorem tokC {v : St} {B : Int → Int} {L : Int} (hB : okB B L) (hb : BC 1 v = B) (h0 : (v.1 1 8).toInt = 0) (h5 : 0 ≤ (v.1 1 5).toInt ∧ (v.1 1 5).toInt ≤ L) : TKc B (skp B (v.1 1 5).toInt) v (F_X5_takeToken 1 v) := by
  generalize hu : F_X5_takeToken 1 v = u
  unfold F_X5_takeToken at hu
  obtain ⟨N, hN⟩ : ∃ N : Nat, N = (2147483647 - (0 : Int32).toInt).toNat := ⟨_, rfl⟩
  rw [← hN] at hu
  obtain ⟨J231, e231, hu⟩ := xl_e hu
  obtain ⟨J202, e202, hu⟩ := xl_e hu
  obtain ⟨P134, e134, hu⟩ := xl_e hu
  obtain ⟨J131, e131, hu⟩ := xl_e hu
  obtain ⟨J126, e126, hu⟩ := xl_e hu
  obtain ⟨J92, e92, hu⟩ := xl_e hu
  obtain ⟨J56, e56, hu⟩ := xl_e hu
  obtain ⟨P18, e18, hu⟩ := xl_e hu
  have hL := hB.2.1
  have hok := hB.2.2
  have B202 : ∀ x : St, (x.1 1 8).toInt = 0 → 0 ≤ (x.1 1 4).toInt → (x.1 1 4).toInt ≤ 160 → 0 ≤ (x.1 1 5).toInt → (x.1 1 5).toInt ≤ 161 → J202 x = if (x.1 1 3).toInt = 5 ∨ ((x.1 1 3).toInt = 2 ∧ (x.1 1 4).toInt + 2 < (x.1 1 5).toInt) then up1 (up1 x 1 8 1) 1 9 (x.1 1 4) else x := by
    intro x g0 g1 g2 g3 g4
    have hs : (x.1 1 5 - x.1 1 4).toInt = (x.1 1 5).toInt - (x.1 1 4).toInt := sbI rfl rfl (by omega) (by omega)
    rw [e202]
    simp only [xl_d]
    rw [e231]
    simp only [xl_d]
    rw [refC g0, hs]
    by_cases c5 : (x.1 1 3).toInt = 5
    · rw [if_pos c5, if_pos (Or.inl c5)]
    · rw [if_neg c5]
      by_cases c2 : (x.1 1 3).toInt = 2
      · rw [if_pos c2]
        by_cases c3 : 2 < (x.1 1 5).toInt - (x.1 1 4).toInt
        · rw [if_pos c3, if_pos (Or.inr ⟨c2, by omega⟩)]
        · rw [if_neg c3, if_neg (by omega)]
      · rw [if_neg c2, if_neg (by omega)]
  have L134 : ∀ (K lo hi : Int), ((K = 1 ∧ lo = 97 ∧ hi = 122) ∨ (K = 2 ∧ lo = 48 ∧ hi = 57)) → ∀ (n : Nat) (y : Int32) (x : St), (2147483647 - y.toInt).toNat < n → 0 ≤ y.toInt → y.toInt < (x.1 1 5).toInt → (x.1 1 5).toInt ≤ L → BC 1 x = B → (x.1 1 3).toInt = K →
      ∃ x2 : St, lp P134 (fun _ _ _ => v) n 1 y x = J202 x2 ∧ (x2.1 1 5).toInt = rn lo hi B (x.1 1 5).toInt ∧ (∀ a b : Nat, (a ≠ 1 ∨ (b ≠ 5 ∧ b ≠ 6)) → x2.1 a b = x.1 a b) ∧ (rn lo hi B (x.1 1 5).toInt = (x.1 1 5).toInt → x2.1 1 6 = x.1 1 6) ∧ (rn lo hi B (x.1 1 5).toInt = (x.1 1 5).toInt + 1 → 0 ≤ (x.1 1 6).toInt → (x.1 1 6).toInt ≤ 99 → (x2.1 1 6).toInt = 10 * (x.1 1 6).toInt + (B (x.1 1 5).toInt - 48)) := by
    intro K lo hi hK n
    induction n with
    | zero => intro y x hm; exact absurd hm (Nat.not_lt_zero _)
    | succ n ih =>
      intro y x hm hy hyb hbL hx hk
      have hby := byC 1 (x.1 1 5) x
      rw [hx] at hby
      have hkk := kdC (F_X5_byteAt 1 (x.1 1 5) x) x
      rw [hby] at hkk
      have hKb := kd_K hK (B (x.1 1 5).toInt)
      have hbb := hok (x.1 1 5).toInt
      show ∃ x2 : St, P134 (lp P134 (fun _ _ _ => v) n) 1 y x = J202 x2 ∧ _
      have c1 : (1 : Int32).toInt = 1 := rfl
      have ep : P134 (lp P134 (fun _ _ _ => v) n) 1 y x = if lo ≤ B (x.1 1 5).toInt ∧ B (x.1 1 5).toInt ≤ hi then lp P134 (fun _ _ _ => v) n 1 (y + 1) (up1 (up1 x 1 6 (x.1 1 6 * 10 + F_X5_byteAt 1 (x.1 1 5) x - 48)) 1 5 (x.1 1 5 + 1)) else J202 x := by
        generalize lp P134 (fun _ _ _ => v) n = sf
        rw [e134]
        simp only [xl_d]
        rw [if_pos (by omega), if_neg (by omega), hkk, hk]
        by_cases c : lo ≤ B (x.1 1 5).toInt ∧ B (x.1 1 5).toInt ≤ hi
        · rw [if_pos (hKb.mpr c), if_pos c, up1_n _ _ (Or.inr (by decide))]
        · rw [if_neg (fun z => c (hKb.mp z)), if_neg c]
      rw [ep]
      by_cases c : lo ≤ B (x.1 1 5).toInt ∧ B (x.1 1 5).toInt ≤ hi
      · rw [if_pos c]
        have hlo : 0 ≤ lo := by omega
        have e5 : (x.1 1 5 + 1).toInt = (x.1 1 5).toInt + 1 := adI rfl rfl (by omega) (by omega)
        have ey : (y + 1).toInt = y.toInt + 1 := adI rfl rfl (by omega) (by omega)
        generalize hx3 : up1 (up1 x 1 6 (x.1 1 6 * 10 + F_X5_byteAt 1 (x.1 1 5) x - 48)) 1 5 (x.1 1 5 + 1) = x3
        have n3 : ∀ a b : Nat, (a ≠ 1 ∨ (b ≠ 5 ∧ b ≠ 6)) → x3.1 a b = x.1 a b := fun a b z => by rw [← hx3, up1_n _ _ (by omega), up1_n _ _ (by omega)]
        have x35 : (x3.1 1 5).toInt = (x.1 1 5).toInt + 1 := by rw [← hx3, up1_s]; exact e5
        have x36 : x3.1 1 6 = x.1 1 6 * 10 + F_X5_byteAt 1 (x.1 1 5) x - 48 := by rw [← hx3, up1_n _ _ (Or.inr (by decide)), up1_s]
        obtain ⟨x2, q1, q2, q3, q4, q5⟩ := ih (y + 1) x3 (by omega) (by omega) (by omega) (by omega) (by rw [BC_f (n3 1 1 (by omega)) (fun i => n3 2 i (by omega))]; exact hx) (by rw [n3 1 3 (by omega)]; exact hk)
        have hr := rn_s hB hlo c
        have hge := rn_r (a := lo) (b := hi) hB hlo (p := (x.1 1 5).toInt + 1) (by omega) (by omega)
        rw [x35, ← hr] at q2 q4 q5
        refine ⟨x2, q1, q2, fun a b z => by rw [q3 a b z, n3 a b z], fun z => by omega, fun z w1 w2 => ?_⟩
        rw [q4 z, x36]
        have m1 : (x.1 1 6 * 10).toInt = (x.1 1 6).toInt * 10 := mlI rfl rfl (by omega) (by omega)
        have m2 : (x.1 1 6 * 10 + F_X5_byteAt 1 (x.1 1 5) x).toInt = (x.1 1 6).toInt * 10 + B (x.1 1 5).toInt := adI m1 hby (by omega) (by omega)
        have m3 := sbI (x := x.1 1 6 * 10 + F_X5_byteAt 1 (x.1 1 5) x) (y := 48) (b := 48) m2 rfl (by omega) (by omega)
        omega
      · rw [if_neg c]
        refine ⟨x, rfl, (rn_e c).symm, fun _ _ _ => rfl, fun _ => rfl, fun z => ?_⟩
        rw [rn_e c] at z
        omega
  have L18 : ∀ (n : Nat) (y : Int32) (x : St), (2147483647 - y.toInt).toNat < n → 0 ≤ y.toInt → y.toInt ≤ (x.1 1 4).toInt → (x.1 1 4).toInt ≤ L → BC 1 x = B →
      ∃ x2 : St, lp P18 (fun _ _ => v) n y x = J56 x2 ∧ (x2.1 1 4).toInt = skp B (x.1 1 4).toInt ∧ (∀ a b : Nat, (a ≠ 1 ∨ b ≠ 4) → x2.1 a b = x.1 a b) := by
    intro n
    induction n with
    | zero => intro y x hm; exact absurd hm (Nat.not_lt_zero _)
    | succ n ih =>
      intro y x hm hy hyb hbL hx
      have hby := byC 1 (x.1 1 4) x
      rw [hx] at hby
      have hkk := kdC (F_X5_byteAt 1 (x.1 1 4) x) x
      rw [hby] at hkk
      have hbb := hok (x.1 1 4).toInt
      have hsp := kd_9 (c := B (x.1 1 4).toInt)
      have hk5 : (if B (x.1 1 4).toInt = 32 then (4 : Int) else kd (B (x.1 1 4).toInt)) = 4 ↔ B (x.1 1 4).toInt = 32 := by
        unfold kd
        repeat' split
        all_goals omega
      show ∃ x2 : St, P18 (lp P18 (fun _ _ => v) n) y x = J56 x2 ∧ _
      have ep : P18 (lp P18 (fun _ _ => v) n) y x = if B (x.1 1 4).toInt = 32 then lp P18 (fun _ _ => v) n (y + 1) (up1 x 1 4 (x.1 1 4 + 1)) else J56 x := by
        generalize lp P18 (fun _ _ => v) n = sf
        rw [e18]
        simp only [xl_d]
        rw [hkk]
        by_cases c : B (x.1 1 4).toInt = 32
        · rw [if_pos (by omega), if_pos (hk5.mpr c), if_pos c]
        · by_cases c2 : y.toInt < 160
          · rw [if_pos c2, if_neg (fun z => c (hk5.mp z)), if_neg c]
          · rw [if_neg c2, if_neg c]
      rw [ep]
      by_cases c : B (x.1 1 4).toInt = 32
      · rw [if_pos c]
        have e5 : (x.1 1 4 + 1).toInt = (x.1 1 4).toInt + 1 := adI rfl rfl (by omega) (by omega)
        have ey : (y + 1).toInt = y.toInt + 1 := adI rfl rfl (by omega) (by omega)
        generalize hx3 : up1 x 1 4 (x.1 1 4 + 1) = x3
        have n3 : ∀ a b : Nat, (a ≠ 1 ∨ b ≠ 4) → x3.1 a b = x.1 a b := fun a b z => by rw [← hx3, up1_n _ _ (by omega)]
        have x35 : (x3.1 1 4).toInt = (x.1 1 4).toInt + 1 := by rw [← hx3, up1_s]; exact e5
        obtain ⟨x2, q1, q2, q3⟩ := ih (y + 1) x3 (by omega) (by omega) (by omega) (by omega) (by rw [BC_f (n3 1 1 (by omega)) (fun i => n3 2 i (by omega))]; exact hx)
        refine ⟨x2, q1, by rw [q2, x35, skp_s hB c], fun a b z => by rw [q3 a b z, n3 a b z]⟩
      · rw [if_neg c]
        exact ⟨x, rfl, (skp_e c).symm, fun _ _ _ => rfl⟩
  have c00 : (0 : Int32).toInt = 0 := rfl
  simp only [xl_d] at hu
  rw [if_pos h0] at hu
  generalize hy : up1 v 1 4 (v.1 1 5) = y0 at hu
  have n0 : ∀ a b : Nat, (a ≠ 1 ∨ b ≠ 4) → y0.1 a b = v.1 a b := fun a b z => by rw [← hy, up1_n _ _ (by omega)]
  have y04 : y0.1 1 4 = v.1 1 5 := by rw [← hy, up1_s]
  have hb0 : BC 1 y0 = B := by rw [BC_f (n0 1 1 (by omega)) (fun i => n0 2 i (by omega))]; exact hb
  obtain ⟨x1, q1, q2, q3⟩ := L18 (N + 1) 0 y0 (by rw [← hN]; exact Nat.lt_succ_self N) (by omega) (by rw [y04]; omega) (by rw [y04]; omega) hb0
  rw [q1, e56] at hu
  rw [y04] at q2
  simp only [xl_d] at hu
  have hs := skp_r hB h5.1 h5.2
  have hq := rq_r hB (f := skp B (v.1 1 5).toInt) (by omega) hs.2.1
  generalize hf : skp B (v.1 1 5).toInt = f at q2 hs hq ⊢
  have hb1 : BC 1 x1 = B := by rw [BC_f (q3 1 1 (by omega)) (fun i => q3 2 i (by omega))]; exact hb0
  have hby := byC 1 (x1.1 1 4) x1
  rw [hb1, q2] at hby
  have hkk := kdC (F_X5_byteAt 1 (x1.1 1 4) x1) x1
  rw [hby, if_neg hs.2.2] at hkk
  generalize F_X5_byteAt 1 (x1.1 1 4) x1 = by1 at hu hby hkk
  generalize F_X5_kindOf by1 x1 = K at hu hkk
  rw [up1_s, up1_n _ _ (Or.inr (by decide))] at hu
  have e41 : (x1.1 1 4 + 1).toInt = (x1.1 1 4).toInt + 1 := adI rfl rfl (by omega) (by omega)
  -- behind: z
  obtain ⟨z, hz, hu⟩ : ∃ z : Int32, (z.toInt = if K.toInt = 0 then f else f + 1) ∧ J92 z (up1 x1 1 3 K) = u := by
    by_cases c : K.toInt = 0
    · rw [if_pos c] at hu
      exact ⟨_, by rw [if_pos c]; exact q2, hu⟩
    · rw [if_neg c] at hu
      exact ⟨_, by rw [if_neg c, e41, q2], hu⟩
  rw [e92] at hu
  simp only [xl_d] at hu
  generalize hx2 : up1 (up1 x1 1 3 K) 1 5 z = x2 at hu
  have n2 : ∀ a b : Nat, (a ≠ 1 ∨ (b ≠ 3 ∧ b ≠ 5)) → x2.1 a b = x1.1 a b := fun a b w => by rw [← hx2, up1_n _ _ (by omega), up1_n _ _ (by omega)]
  have hb2 : BC 1 x2 = B := by rw [BC_f (n2 1 1 (by omega)) (fun i => n2 2 i (by omega))]; exact hb1
  have hby2 := byC 1 (x2.1 1 4) x2
  rw [hb2, n2 1 4 (by omega), q2] at hby2
  rw [n2 1 4 (by omega)] at hu
  generalize F_X5_byteAt 1 (x1.1 1 4) x2 = by2 at hu hby2
  generalize hx3 : up1 x2 1 6 (by2 - 48) = x3 at hu
  have n3 : ∀ a b : Nat, (a ≠ 1 ∨ (b ≠ 3 ∧ b ≠ 5 ∧ b ≠ 6)) → x3.1 a b = x1.1 a b := fun a b w => by rw [← hx3, up1_n _ _ (by omega), n2 _ _ (by omega)]
  have x33 : x3.1 1 3 = K := by rw [← hx3, up1_n _ _ (Or.inr (by decide)), ← hx2, up1_n _ _ (Or.inr (by decide)), up1_s]
  have x35 : x3.1 1 5 = z := by rw [← hx3, up1_n _ _ (Or.inr (by decide)), ← hx2, up1_s]
  have x36 : x3.1 1 6 = by2 - 48 := by rw [← hx3, up1_s]
  have hb3 : BC 1 x3 = B := by rw [BC_f (n3 1 1 (by omega)) (fun i => n3 2 i (by omega))]; exact hb1
  rw [x33, e126, e131] at hu
  simp only at hu
  have hbf := hok f
  have hbe := (hok f).2
  have k9 := kd_9 (c := B f)
  have v6 : (x3.1 1 6).toInt = B f - 48 := by
    rw [x36]
    have := sbI (x := by2) (y := 48) (b := 48) hby2 rfl (by omega) (by omega)
    omega
  -- the run
  obtain ⟨x4, hu, w5, w3, w6⟩ : ∃ x4 : St, J202 x4 = u ∧ (x4.1 1 5).toInt = rq B f ∧ (∀ a b : Nat, (a ≠ 1 ∨ (b ≠ 5 ∧ b ≠ 6)) → x4.1 a b = x3.1 a b) ∧ (kd (B f) = 2 → ¬ f + 2 < rq B f → (x4.1 1 6).toInt = vl B f) := by
    by_cases k1 : kd (B f) = 1
    · rw [if_pos (by omega)] at hu
      obtain ⟨x4, p1, p2, p3, p4, p5⟩ := L134 1 97 122 (by omega) (N + 1) 0 x3 (by rw [← hN]; exact Nat.lt_succ_self N) (by omega) (by rw [x35, hz, if_neg (by omega)]; omega) (by rw [x35, hz, if_neg (by omega)]; have := hq.2.2 (fun z => by have := kd_n z; omega); omega) hb3 (by rw [x33]; omega)
      refine ⟨x4, by rw [← p1]; exact hu, ?_, p3, fun z => by omega⟩
      rw [p2, x35, hz, if_neg (by omega), rq_1 hB k1]
    · rw [if_neg (by omega)] at hu
      by_cases k2 : kd (B f) = 2
      · rw [if_pos (by omega)] at hu
        obtain ⟨x4, p1, p2, p3, p4, p5⟩ := L134 2 48 57 (by omega) (N + 1) 0 x3 (by rw [← hN]; exact Nat.lt_succ_self N) (by omega) (by rw [x35, hz, if_neg (by omega)]; omega) (by rw [x35, hz, if_neg (by omega)]; have := hq.2.2 (fun z => by have := kd_n z; omega); omega) hb3 (by rw [x33]; omega)
        have hr2 := rq_2 hB k2
        have kk := kd_2 k2
        rw [x35, hz, if_neg (by omega), ← hr2] at p2 p4 p5
        refine ⟨x4, by rw [← p1]; exact hu, p2, p3, fun _ g => ?_⟩
        have hgt := hq.2.2 (by omega)
        refine vl_of hgt g (fun z => ?_) (fun z => ?_)
        · rw [p4 z]; exact v6
        · rw [p5 (by omega) (by omega) (by omega), v6]
      · rw [if_neg (by omega)] at hu
        refine ⟨x3, ?_, ?_, fun _ _ _ => rfl, fun z => absurd z k2⟩
        · rw [← hu]
          rw [lp_s]
          generalize lp P134 _ _ = sf
          rw [e134]
          simp only [xl_d]
          rw [if_pos (by decide), if_pos (by decide)]
        · have hn := rq_n (B := B) (f := f) k1 k2
          rw [x35, hz]
          by_cases k0 : kd (B f) = 0
          · rw [if_pos (by omega), hn.1 k0]
          · rw [if_neg (by omega), hn.2 k0]
  have fr : ∀ a b : Nat, (a ≠ 1 ∨ b < 3 ∨ b = 7 ∨ 8 ≤ b) → x4.1 a b = v.1 a b := fun a b w => by rw [w3 a b (by omega), n3 a b (by omega), q3 a b (by omega), n0 a b (by omega)]
  have w4 : (x4.1 1 4).toInt = f := by rw [w3 1 4 (by omega), n3 1 4 (by omega)]; exact q2
  have w33 : (x4.1 1 3).toInt = kd (B f) := by rw [w3 1 3 (by omega), x33]; exact hkk
  have w8 : (x4.1 1 8).toInt = 0 := by rw [fr 1 8 (by omega)]; exact h0
  rw [B202 x4 w8 (by omega) (by omega) (by omega) (by omega), w33, w4, w5] at hu
  by_cases hbad : bad B f
  · rw [if_pos (show kd (B f) = 5 ∨ (kd (B f) = 2 ∧ f + 2 < rq B f) from hbad)] at hu
    refine ⟨fun a b w => ?_, ?_, fun _ => ⟨?_, ?_⟩, fun w => absurd hbad w⟩
    · rw [← hu, up1_n _ _ (by omega), up1_n _ _ (by omega), fr a b (by omega)]
    · rw [← hu, up1_n _ _ (Or.inr (by decide)), up1_n _ _ (Or.inr (by decide))]; exact w4
    · rw [← hu, up1_n _ _ (Or.inr (by decide)), up1_s]; rfl
    · rw [← hu, up1_s]; exact w4
  · rw [if_neg (show ¬ (kd (B f) = 5 ∨ (kd (B f) = 2 ∧ f + 2 < rq B f)) from hbad)] at hu
    subst hu
    refine ⟨fun a b w => fr a b (by omega), w4, fun w => absurd w hbad, fun _ => ⟨w8, w33, w5, fun k2 => w6 k2 (fun z => hbad (Or.inr ⟨k2, z⟩))⟩⟩
/-! the reference's token -/
def BM (k : Nat) (v : St) : Int → Int := fun i => if 0 ≤ i ∧ i < (v.1 k 12).toInt then (v.1 (k + 5) i.toNat).toInt else -1
theorem byM (k : Nat) (a : Int32) (v : St) (h : 0 ≤ a.toInt) : (F_X8_byteAt k a v).toInt = BM k v a.toInt := by
  simp only [F_X8_byteAt, xl_d, BM]
  by_cases c2 : a.toInt < (v.1 k 12).toInt
  · rw [if_pos c2, if_pos ⟨h, c2⟩]; rfl
  · rw [if_neg c2, if_neg (by omega)]; rfl
theorem BM_f {k : Nat} {u v : St} (h1 : u.1 k 12 = v.1 k 12) (h2 : ∀ i : Nat, u.1 (k + 5) i = v.1 (k + 5) i) : BM k u = BM k v := by
  unfold BM
  rw [h1]
  funext i
  rw [h2]
theorem inM (a b c : Int64) (v : St) : (F_X8_in a b c v).toInt = if b.toInt ≤ a.toInt ∧ a.toInt ≤ c.toInt then 1 else 0 := by
  have h1 := lcB a b
  have h2 := lcB a c
  have c0 : (0 : Int32).toInt = 0 := rfl
  have c1 : (1 : Int32).toInt = 1 := rfl
  simp only [F_X8_in, xl_d]
  generalize lg_cmp a b = p at h1 ⊢
  generalize lg_cmp a c = q at h2 ⊢
  repeat' split
  all_goals omega
theorem inI {x : Int32} {b c : Int64} {lo hi : Int} (v : St) (hb : b.toInt = lo) (hc : c.toInt = hi) : (F_X8_in x.toInt64 b c v).toInt = 0 ↔ ¬ (lo ≤ x.toInt ∧ x.toInt ≤ hi) := by
  rw [inM, i64_of, hb, hc]
  split <;> omega
theorem neeM {k : Nat} {a b : Int32} {v : St} (h : (v.1 k 17).toInt = 0) (ha : a.toInt = 0) : F_X8_needs k a b v = up1 (up1 v k 17 b) k 18 (v.1 k 14) := by
  simp only [F_X8_needs, xl_d]
  rw [if_pos ha, if_pos h, up1_n _ _ (Or.inr (by decide))]
theorem neeM_x {k : Nat} {a b : Int32} {v : St} (h : ¬ (v.1 k 17).toInt = 0) : F_X8_needs k a b v = v := by
  simp only [F_X8_needs, xl_d]
  by_cases ha : a.toInt = 0
  · rw [if_pos ha, if_neg h]
  · rw [if_neg ha]
theorem neeM_o {k : Nat} {a b : Int32} {v : St} (h : ¬ a.toInt = 0) : F_X8_needs k a b v = v := by
  simp only [F_X8_needs, xl_d]
  rw [if_neg h]
def TKm (B : Int → Int) (f : Int) (v u : St) : Prop := (∀ a b : Nat, (a ≠ 0 ∨ b < 13 ∨ 19 ≤ b) → u.1 a b = v.1 a b) ∧ (u.1 0 14).toInt = f ∧ (bad B f → (u.1 0 17).toInt = 1 ∧ (u.1 0 18).toInt = f) ∧ (¬ bad B f → (u.1 0 17).toInt = 0 ∧ (u.1 0 15).toInt = kd (B f) ∧ (u.1 0 13).toInt = rq B f ∧ (kd (B f) = 2 → (u.1 0 16).toInt = vl B f))
set_option maxHeartbeats 2000000 in
theorem tokM {v : St} {B : Int → Int} {L : Int} (hB : okB B L) (hb : BM 0 v = B) (h0 : (v.1 0 17).toInt = 0) (h5 : 0 ≤ (v.1 0 13).toInt ∧ (v.1 0 13).toInt ≤ L) : TKm B (skp B (v.1 0 13).toInt) v (F_X8_next1 0 v) := by
  generalize hu : F_X8_next1 0 v = u
  unfold F_X8_next1 at hu
  obtain ⟨J260, e260, hu⟩ := xl_e hu
  obtain ⟨J236, e236, hu⟩ := xl_e hu
  obtain ⟨P140, e140, hu⟩ := xl_e hu
  obtain ⟨P82, e82, hu⟩ := xl_e hu
  obtain ⟨P8, e8, hu⟩ := xl_e hu
  have hL := hB.2.1
  have hok := hB.2.2
  have c00 : (0 : Int32).toInt = 0 := rfl
  have c01 : (1 : Int32).toInt = 1 := rfl
  -- names
  have L82 : ∀ (n : Nat) (x : St), (2147483647 - (x.1 0 13).toInt).toNat < n → 0 ≤ (x.1 0 13).toInt → (x.1 0 13).toInt ≤ L → BM 0 x = B → (lp P82 (fun _ => v) n x).1 0 13 = (lp P82 (fun _ => v) n x).1 0 13 ∧ ((lp P82 (fun _ => v) n x).1 0 13).toInt = rn 97 122 B (x.1 0 13).toInt ∧ (∀ a b : Nat, (a ≠ 0 ∨ b ≠ 13) → (lp P82 (fun _ => v) n x).1 a b = x.1 a b) := by
    intro n
    induction n with
    | zero => intro x hm; exact absurd hm (Nat.not_lt_zero _)
    | succ n ih =>
      intro x hm hp hpL hx
      have hby := byM 0 (x.1 0 13) x hp
      rw [hx] at hby
      have hin := inI (x := F_X8_byteAt 0 (x.1 0 13) x) (b := 97) (c := 122) x rfl rfl
      rw [hby] at hin
      have hbb := hok (x.1 0 13).toInt
      have ep : lp P82 (fun _ => v) (n + 1) x = if 97 ≤ B (x.1 0 13).toInt ∧ B (x.1 0 13).toInt ≤ 122 then lp P82 (fun _ => v) n (up1 x 0 13 (x.1 0 13 + 1)) else x := by
        rw [lp_s]
        generalize lp P82 (fun _ => v) n = sf
        rw [e82]
        simp only [xl_d]
        by_cases c : 97 ≤ B (x.1 0 13).toInt ∧ B (x.1 0 13).toInt ≤ 122
        · rw [if_neg (fun z => hin.mp z c), if_pos c]
        · rw [if_pos (hin.mpr c), if_neg c]
      rw [ep]
      by_cases c : 97 ≤ B (x.1 0 13).toInt ∧ B (x.1 0 13).toInt ≤ 122
      · rw [if_pos c]
        have e5 : (x.1 0 13 + 1).toInt = (x.1 0 13).toInt + 1 := adI rfl rfl (by omega) (by omega)
        generalize hx3 : up1 x 0 13 (x.1 0 13 + 1) = x3
        have n3 : ∀ a b : Nat, (a ≠ 0 ∨ b ≠ 13) → x3.1 a b = x.1 a b := fun a b z => by rw [← hx3, up1_n _ _ (by omega)]
        have x35 : (x3.1 0 13).toInt = (x.1 0 13).toInt + 1 := by rw [← hx3, up1_s]; exact e5
        obtain ⟨-, q2, q3⟩ := ih x3 (by omega) (by omega) (by omega) (by rw [BM_f (n3 0 12 (by omega)) (fun i => n3 5 i (by omega))]; exact hx)
        refine ⟨rfl, by rw [q2, x35, rn_s hB (by omega) c], fun a b z => by rw [q3 a b z, n3 a b z]⟩
      · rw [if_neg c]
        exact ⟨rfl, (rn_e c).symm, fun _ _ _ => rfl⟩
  -- numbers
  have L140 : ∀ (f : Int), 0 ≤ f → ∀ (n : Nat) (x : St), (2147483647 - (x.1 0 13).toInt).toNat < n → f ≤ (x.1 0 13).toInt → (x.1 0 13).toInt ≤ L → BM 0 x = B → (x.1 0 14).toInt = f → (((x.1 0 13).toInt = f → (x.1 0 16).toInt = 0) ∧ ((x.1 0 13).toInt = f + 1 → (x.1 0 16).toInt = B f - 48) ∧ ((x.1 0 13).toInt = f + 2 → (x.1 0 16).toInt = 10 * (B f - 48) + (B (f + 1) - 48))) →
      ∃ x2 : St, lp P140 (fun _ => v) n x = J236 (if f + 2 < (x2.1 0 13).toInt then 0 else 1) x2 ∧ (x2.1 0 13).toInt = rn 48 57 B (x.1 0 13).toInt ∧ (∀ a b : Nat, (a ≠ 0 ∨ (b ≠ 13 ∧ b ≠ 16)) → x2.1 a b = x.1 a b) ∧ ((x2.1 0 13).toInt = f + 1 → (x2.1 0 16).toInt = B f - 48) ∧ ((x2.1 0 13).toInt = f + 2 → (x2.1 0 16).toInt = 10 * (B f - 48) + (B (f + 1) - 48)) := by
    intro f hf n
    induction n with
    | zero => intro x hm; exact absurd hm (Nat.not_lt_zero _)
    | succ n ih =>
      intro x hm hp hpL hx h14 hv
      have hby := byM 0 (x.1 0 13) x (by omega)
      rw [hx] at hby
      have hin := inI (x := F_X8_byteAt 0 (x.1 0 13) x) (b := 48) (c := 57) x rfl rfl
      rw [hby] at hin
      have hbb := hok (x.1 0 13).toInt
      have hd : (x.1 0 13 - x.1 0 14).toInt = (x.1 0 13).toInt - f := by rw [← h14]; exact sbI rfl rfl (by omega) (by omega)
      by_cases c : 48 ≤ B (x.1 0 13).toInt ∧ B (x.1 0 13).toInt ≤ 57
      · obtain ⟨w, hw, ep⟩ : ∃ w : Int32, ((x.1 0 13).toInt = f → w.toInt = B f - 48) ∧ ((x.1 0 13).toInt = f + 1 → w.toInt = 10 * (B f - 48) + (B (f + 1) - 48)) ∧ lp P140 (fun _ => v) (n + 1) x = lp P140 (fun _ => v) n (up1 (up1 x 0 16 w) 0 13 (x.1 0 13 + 1)) := by
          rw [lp_s]
          generalize lp P140 (fun _ => v) n = sf
          rw [e140]
          simp only [xl_d]
          rw [if_neg (fun z => hin.mp z c), hd]
          by_cases c2 : (x.1 0 13).toInt - f < 2
          · refine ⟨10 * x.1 0 16 + F_X8_byteAt 0 (x.1 0 13) x - 48, ?_, ?_, ?_⟩
            · intro z
              have := hv.1 z
              have m1 : (10 * x.1 0 16).toInt = 10 * (x.1 0 16).toInt := mlI rfl rfl (by omega) (by omega)
              have m2 := adI (x := 10 * x.1 0 16) (y := F_X8_byteAt 0 (x.1 0 13) x) m1 hby (by omega) (by omega)
              have m3 := sbI (x := 10 * x.1 0 16 + F_X8_byteAt 0 (x.1 0 13) x) (y := 48) (b := 48) m2 rfl (by omega) (by omega)
              rw [m3, this, z]; omega
            · intro z
              have := hv.2.1 z
              have hbf := hok f
              have m1 : (10 * x.1 0 16).toInt = 10 * (x.1 0 16).toInt := mlI rfl rfl (by omega) (by omega)
              have m2 := adI (x := 10 * x.1 0 16) (y := F_X8_byteAt 0 (x.1 0 13) x) m1 hby (by omega) (by omega)
              have m3 := sbI (x := 10 * x.1 0 16 + F_X8_byteAt 0 (x.1 0 13) x) (y := 48) (b := 48) m2 rfl (by omega) (by omega)
              rw [m3, this, z]; omega
            · rw [if_pos c2, up1_n _ _ (Or.inr (by decide))]
          · refine ⟨x.1 0 16, fun z => by omega, fun z => by omega, ?_⟩
            rw [if_neg c2, up1_n _ _ (Or.inr (by decide))]
        rw [ep.2]
        have e5 : (x.1 0 13 + 1).toInt = (x.1 0 13).toInt + 1 := adI rfl rfl (by omega) (by omega)
        generalize hx3 : up1 (up1 x 0 16 w) 0 13 (x.1 0 13 + 1) = x3
        have n3 : ∀ a b : Nat, (a ≠ 0 ∨ (b ≠ 13 ∧ b ≠ 16)) → x3.1 a b = x.1 a b := fun a b z => by rw [← hx3, up1_n _ _ (by omega), up1_n _ _ (by omega)]
        have x35 : (x3.1 0 13).toInt = (x.1 0 13).toInt + 1 := by rw [← hx3, up1_s]; exact e5
        have x36 : x3.1 0 16 = w := by rw [← hx3, up1_n _ _ (Or.inr (by decide)), up1_s]
        obtain ⟨x2, q1, q2, q3, q4, q5⟩ := ih x3 (ms_s hm x35 (by omega)) (by omega) (by omega) (by rw [BM_f (n3 0 12 (by omega)) (fun i => n3 5 i (by omega))]; exact hx) (by rw [n3 0 14 (by omega)]; exact h14) ⟨fun z => by omega, fun z => by rw [x36]; exact hw (by omega), fun z => by rw [x36]; exact ep.1 (by omega)⟩
        refine ⟨x2, q1, by rw [q2, x35, rn_s hB (by omega) c], fun a b z => by rw [q3 a b z, n3 a b z], q4, q5⟩
      · refine ⟨x, ?_, (rn_e c).symm, fun _ _ _ => rfl, hv.2.1, hv.2.2⟩
        rw [lp_s]
        generalize lp P140 (fun _ => v) n = sf
        rw [e140]
        simp only [xl_d]
        rw [if_pos (hin.mpr c), hd]
        by_cases c2 : 2 < (x.1 0 13).toInt - f
        · rw [if_pos c2, if_pos (by omega)]
        · rw [if_neg c2, if_neg (by omega)]
  -- what stands behind the blanks
  have K8 : ∀ (sf : St → St) (x : St), 0 ≤ (x.1 0 13).toInt → (x.1 0 13).toInt ≤ L → BM 0 x = B → (x.1 0 17).toInt = 0 → ¬ B (x.1 0 13).toInt = 32 → TKm B (x.1 0 13).toInt x (P8 sf x) := by
    intro sf x hp hpL hx hx0 hn
    generalize hy : P8 sf x = y
    rw [e8] at hy
    simp only [xl_d] at hy
    have hby := byM 0 (x.1 0 13) x hp
    rw [hx] at hby
    rw [if_neg (by rw [hby]; exact hn)] at hy
    generalize hx1 : up1 x 0 14 (x.1 0 13) = x1 at hy
    have n1 : ∀ a b : Nat, (a ≠ 0 ∨ b ≠ 14) → x1.1 a b = x.1 a b := fun a b z => by rw [← hx1, up1_n _ _ (by omega)]
    have x14 : x1.1 0 14 = x.1 0 13 := by rw [← hx1, up1_s]
    have hb1 : BM 0 x1 = B := by rw [BM_f (n1 0 12 (by omega)) (fun i => n1 5 i (by omega))]; exact hx
    have hby1 := byM 0 (x.1 0 13) x1 hp
    rw [hb1] at hby1
    have hia := inI (x := F_X8_byteAt 0 (x.1 0 13) x1) (b := 97) (c := 122) x1 rfl rfl
    have hid := inI (x := F_X8_byteAt 0 (x.1 0 13) x1) (b := 48) (c := 57) x1 rfl rfl
    rw [hby1] at hia hid
    rw [hby1] at hy
    have hf : (x.1 0 13).toInt = (x.1 0 13).toInt := rfl
    have hbf := hok (x.1 0 13).toInt
    have ks := kd_sp (B (x.1 0 13).toInt)
    have hq := rq_r hB hp hpL
    have n13 := n1 0 13 (by omega)
    generalize hfe : (x.1 0 13).toInt = f at *
    by_cases cE : B f < 0
    · rw [if_pos cE] at hy
      have k0 := ks.1 (by omega)
      have nb : ¬ bad B f := fun z => by rcases z with z | z <;> omega
      have hr := (rq_n (B := B) (f := f) (by omega) (by omega)).1 k0
      subst hy
      refine ⟨fun a b w => by rw [up1_n _ _ (by omega), n1 a b (by omega)], by rw [up1_n _ _ (Or.inr (by decide)), x14]; exact hfe, fun z => absurd z nb, fun _ => ⟨?_, ?_, ?_, fun z => by omega⟩⟩
      · rw [up1_n _ _ (Or.inr (by decide)), n1 0 17 (by omega)]; exact hx0
      · rw [up1_s, k0]; rfl
      · rw [up1_n _ _ (Or.inr (by decide)), n13, hr]; exact hfe
    · rw [if_neg cE] at hy
      by_cases cA : 97 ≤ B f ∧ B f ≤ 122
      · rw [if_neg (fun z => hia.mp z cA)] at hy
        have k1 := ks.2.1 cA.1 cA.2
        have nb : ¬ bad B f := fun z => by rcases z with z | z <;> omega
        have hr : rq B f = rn 97 122 B f := by unfold rq; rw [if_pos cA]
        generalize hx2 : up1 x1 0 15 1 = x2 at hy
        have n2 : ∀ a b : Nat, (a ≠ 0 ∨ (b ≠ 14 ∧ b ≠ 15)) → x2.1 a b = x.1 a b := fun a b z => by rw [← hx2, up1_n _ _ (by omega), n1 a b (by omega)]
        have x213 : x2.1 0 13 = x.1 0 13 := n2 0 13 (by omega)
        obtain ⟨-, q2, q3⟩ := L82 _ x2 (Nat.lt_succ_self _) (by rw [x213, hfe]; exact hp) (by rw [x213, hfe]; exact hpL) (by rw [BM_f (n2 0 12 (by omega)) (fun i => n2 5 i (by omega))]; exact hx)
        rw [hy] at q2 q3
        rw [x213, hfe, ← hr] at q2
        refine ⟨fun a b w => by rw [q3 a b (by omega), n2 a b (by omega)], ?_, fun z => absurd z nb, fun _ => ⟨?_, ?_, q2, fun z => by omega⟩⟩
        · rw [q3 0 14 (by omega), ← hx2, up1_n _ _ (Or.inr (by decide)), x14]; exact hfe
        · rw [q3 0 17 (by omega), n2 0 17 (by omega)]; exact hx0
        · rw [q3 0 15 (by omega), ← hx2, up1_s, k1]; rfl
      · rw [if_pos (hia.mpr cA)] at hy
        by_cases cD : 48 ≤ B f ∧ B f ≤ 57
        · rw [if_neg (fun z => hid.mp z cD)] at hy
          have k2 := ks.2.2.1 cD.1 cD.2
          have hr : rq B f = rn 48 57 B f := by unfold rq; rw [if_neg cA, if_pos cD]
          have hgt := hq.2.2 (by omega)
          generalize hx2 : up1 (up1 x1 0 15 2) 0 16 0 = x2 at hy
          have n2 : ∀ a b : Nat, (a ≠ 0 ∨ (b ≠ 14 ∧ b ≠ 15 ∧ b ≠ 16)) → x2.1 a b = x.1 a b := fun a b z => by rw [← hx2, up1_n _ _ (by omega), up1_n _ _ (by omega), n1 a b (by omega)]
          have x213 : x2.1 0 13 = x.1 0 13 := n2 0 13 (by omega)
          have x214 : x2.1 0 14 = x.1 0 13 := by rw [← hx2, up1_n _ _ (Or.inr (by decide)), up1_n _ _ (Or.inr (by decide)), x14]
          have x215 : x2.1 0 15 = 2 := by rw [← hx2, up1_n _ _ (Or.inr (by decide)), up1_s]
          have x216 : x2.1 0 16 = 0 := by rw [← hx2, up1_s]
          obtain ⟨x3, q1, q2, q3, q4, q5⟩ := L140 f (by omega) _ x2 (Nat.lt_succ_self _) (by rw [x213, hfe]; exact Int.le_refl _) (by rw [x213, hfe]; exact hpL) (by rw [BM_f (n2 0 12 (by omega)) (fun i => n2 5 i (by omega))]; exact hx) (by rw [x214, hfe]) ⟨fun _ => by rw [x216]; rfl, fun z => by rw [x213, hfe] at z; omega, fun z => by rw [x213, hfe] at z; omega⟩
          rw [hy] at q1
          rw [x213, hfe, ← hr] at q2
          have w17 : (x3.1 0 17).toInt = 0 := by rw [q3 0 17 (by omega), n2 0 17 (by omega)]; exact hx0
          have w14 : (x3.1 0 14).toInt = f := by rw [q3 0 14 (by omega), x214]; exact hfe
          have w15 : (x3.1 0 15).toInt = 2 := by rw [q3 0 15 (by omega), x215]; rfl
          have B236 : ∀ (z : Int32) (s : St), J236 z s = F_X8_needs 0 z 1 s := fun z s => by rw [e236]; simp only [xl_d]
          rw [B236, q2] at q1
          by_cases hb2 : f + 2 < rq B f
          · rw [if_pos hb2, neeM w17 (by decide)] at q1
            subst q1
            refine ⟨fun a b w => ?_, ?_, fun _ => ⟨?_, ?_⟩, fun w => absurd (Or.inr ⟨k2, hb2⟩) w⟩
            · rw [up1_n _ _ (by omega), up1_n _ _ (by omega), q3 a b (by omega), n2 a b (by omega)]
            · rw [up1_n _ _ (Or.inr (by decide)), up1_n _ _ (Or.inr (by decide))]; exact w14
            · rw [up1_n _ _ (Or.inr (by decide)), up1_s]; rfl
            · rw [up1_s]; exact w14
          · rw [if_neg hb2, neeM_o (by decide)] at q1
            subst q1
            refine ⟨fun a b w => by rw [q3 a b (by omega), n2 a b (by omega)], w14, fun w => ?_, fun _ => ⟨w17, by rw [w15, k2], q2, fun _ => vl_of hgt hb2 (fun z => q4 (by omega)) (fun z => q5 (by omega))⟩⟩
            rcases w with w | w <;> omega
        · rw [if_pos (hid.mpr cD)] at hy
          generalize hx2 : up1 x1 0 15 3 = x2 at hy
          have n2 : ∀ a b : Nat, (a ≠ 0 ∨ (b ≠ 14 ∧ b ≠ 15)) → x2.1 a b = x.1 a b := fun a b z => by rw [← hx2, up1_n _ _ (by omega), n1 a b (by omega)]
          have x214 : x2.1 0 14 = x.1 0 13 := by rw [← hx2, up1_n _ _ (Or.inr (by decide)), x14]
          have x215 : x2.1 0 15 = 3 := by rw [← hx2, up1_s]
          have B260 : ∀ (z : Int32) (s : St), J260 z s = up1 (F_X8_needs 0 z 1 s) 0 13 ((F_X8_needs 0 z 1 s).1 0 13 + 1) := fun z s => by rw [e260]; simp only [xl_d]
          have w17 : (x2.1 0 17).toInt = 0 := by rw [n2 0 17 (by omega)]; exact hx0
          by_cases cS : B f = 59
          · rw [if_pos cS, B260, neeM_o (by decide)] at hy
            have k3 := ks.2.2.2.1 cS
            have nb : ¬ bad B f := fun z => by rcases z with z | z <;> omega
            have hr := (rq_n (B := B) (f := f) (by omega) (by omega)).2 (by omega)
            subst hy
            refine ⟨fun a b w => by rw [up1_n _ _ (by omega), n2 a b (by omega)], by rw [up1_n _ _ (Or.inr (by decide)), x214]; exact hfe, fun z => absurd z nb, fun _ => ⟨?_, ?_, ?_, fun z => by omega⟩⟩
            · rw [up1_n _ _ (Or.inr (by decide))]; exact w17
            · rw [up1_n _ _ (Or.inr (by decide)), x215, k3]; rfl
            · rw [up1_s, n2 0 13 (by omega), hr]
              have := adI (x := x.1 0 13) (y := 1) (b := 1) hfe rfl (by omega) (by omega)
              exact this
          · rw [if_neg cS, B260, neeM w17 (by decide)] at hy
            have k5 := ks.2.2.2.2 (by omega) cA cD cS
            subst hy
            refine ⟨fun a b w => ?_, ?_, fun _ => ⟨?_, ?_⟩, fun w => absurd (Or.inl k5) w⟩
            · rw [up1_n _ _ (by omega), up1_n _ _ (by omega), up1_n _ _ (by omega), n2 a b (by omega)]
            · rw [up1_n _ _ (Or.inr (by decide)), up1_n _ _ (Or.inr (by decide)), up1_n _ _ (Or.inr (by decide)), x214]; exact hfe
            · rw [up1_n _ _ (Or.inr (by decide)), up1_n _ _ (Or.inr (by decide)), up1_s]; rfl
            · rw [up1_n _ _ (Or.inr (by decide)), up1_s, x214]; exact hfe
  have L8 : ∀ (n : Nat) (x : St), (2147483647 - (x.1 0 13).toInt).toNat < n → 0 ≤ (x.1 0 13).toInt → (x.1 0 13).toInt ≤ L → BM 0 x = B → (x.1 0 17).toInt = 0 → TKm B (skp B (x.1 0 13).toInt) x (lp P8 (fun _ => v) n x) := by
    intro n
    induction n with
    | zero => intro x hm; exact absurd hm (Nat.not_lt_zero _)
    | succ n ih =>
      intro x hm hp hpL hx hx0
      have hby := byM 0 (x.1 0 13) x hp
      rw [hx] at hby
      have hbb := hok (x.1 0 13).toInt
      rw [lp_s]
      by_cases c : B (x.1 0 13).toInt = 32
      · have ep : P8 (lp P8 (fun _ => v) n) x = lp P8 (fun _ => v) n (up1 x 0 13 (x.1 0 13 + 1)) := by
          generalize lp P8 (fun _ => v) n = sf
          rw [e8]
          simp only [xl_d]
          rw [if_pos (by rw [hby]; exact c)]
        rw [ep]
        have e5 : (x.1 0 13 + 1).toInt = (x.1 0 13).toInt + 1 := adI rfl rfl (by omega) (by omega)
        generalize hx3 : up1 x 0 13 (x.1 0 13 + 1) = x3
        have n3 : ∀ a b : Nat, (a ≠ 0 ∨ b ≠ 13) → x3.1 a b = x.1 a b := fun a b z => by rw [← hx3, up1_n _ _ (by omega)]
        have x35 : (x3.1 0 13).toInt = (x.1 0 13).toInt + 1 := by rw [← hx3, up1_s]; exact e5
        have q := ih x3 (by omega) (by omega) (by omega) (by rw [BM_f (n3 0 12 (by omega)) (fun i => n3 5 i (by omega))]; exact hx) (by rw [n3 0 17 (by omega)]; exact hx0)
        rw [x35, ← skp_s hB c] at q
        exact ⟨fun a b z => by rw [q.1 a b z, n3 a b (by omega)], q.2⟩
      · rw [skp_e c]
        exact K8 _ x hp hpL hx hx0 c
  simp only [xl_d] at hu
  rw [if_neg (by omega)] at hu
  rw [← hu]
  exact L8 _ v (Nat.lt_succ_self _) h5.1 h5.2 hb h0
/-! the two readings, side by side -/
/-- stars told so far -/
def DS (c m : St) : Prop := (c.1 3 3 = m.1 0 6 ∧ 0 ≤ (m.1 0 6).toInt ∧ (m.1 0 6).toInt ≤ 5) ∧ ∀ i : Nat, (i : Int) < (m.1 0 6).toInt → c.1 4 i = m.1 4 (4 * i) ∧ c.1 5 i = m.1 4 (4 * i + 1) ∧ c.1 6 i = m.1 4 (4 * i + 2) ∧ 0 ≤ (m.1 4 (4 * i + 2)).toInt ∧ (m.1 4 (4 * i + 2)).toInt ≤ 6
/-- walkers -/
def DW (c m : St) : Prop := (c.1 3 6 = m.1 0 7 ∧ 0 ≤ (m.1 0 7).toInt ∧ (m.1 0 7).toInt ≤ 3) ∧ ∀ i : Nat, (i : Int) < (m.1 0 7).toInt → c.1 7 i = m.1 4 (20 + i) ∧ 0 ≤ (m.1 4 (20 + i)).toInt ∧ (m.1 4 (20 + i)).toInt ≤ 3
/-- plain numbers -/
def DF (c m : St) : Prop := (c.1 3 7 = m.1 4 23 ∧ (m.1 4 23).toInt = 0) ∧ c.1 3 8 = m.1 4 24 ∧ c.1 3 9 = m.1 4 25 ∧ c.1 3 10 = m.1 4 26 ∧ (c.1 8 3 = m.1 4 27 ∧ 0 ≤ (m.1 4 27).toInt ∧ (m.1 4 27).toInt ≤ 99) ∧ c.1 3 11 = m.1 4 28 ∧ (c.1 8 0 = m.1 4 29 ∧ (m.1 4 29).toInt = 0) ∧ (c.1 8 1 = m.1 4 30 ∧ (m.1 4 30).toInt = 0) ∧ (c.1 8 2 = m.1 4 31 ∧ (m.1 4 31).toInt = 0) ∧ (c.1 3 17 = m.1 4 41 ∧ (m.1 4 41).toInt = 0)
/-- the plan, the stars known, the highest star that is named -/
def DP (c m : St) : Prop := (c.1 3 14 = m.1 4 32 ∧ 0 ≤ (m.1 4 32).toInt ∧ (m.1 4 32).toInt ≤ 8) ∧ (c.1 3 4 = m.1 0 8 ∧ 0 ≤ (m.1 0 8).toInt ∧ (m.1 0 8).toInt ≤ 31) ∧ (∀ i : Nat, (i : Int) < (m.1 4 32).toInt → c.1 9 i = m.1 4 (33 + i) ∧ 0 ≤ (m.1 4 (33 + i)).toInt ∧ (m.1 4 (33 + i)).toInt ≤ 6) ∧ (∀ s : Nat, s ≤ 5 → ((m.1 0 10).toInt < (s : Int) ↔ ((m.1 0 8).toInt < ((2 ^ s : Nat) : Int) ∧ ∀ i : Nat, (i : Int) < (m.1 4 32).toInt → (m.1 4 (33 + i)).toInt < 5 → (m.1 4 (33 + i)).toInt < (s : Int))))
/-- which lines were told -/
def DT (c m : St) : Prop := (m.1 0 9 = c.1 1 7 <<< 7 ∧ 0 ≤ (c.1 1 7).toInt ∧ (c.1 1 7).toInt ≤ 15) ∧ ((c.1 1 7).toInt < 8 → (m.1 4 32).toInt = 0)
def Dr (c m : St) : Prop := DS c m ∧ DW c m ∧ DF c m ∧ DP c m ∧ DT c m
theorem DS.fr {c m c2 m2 : St} (h : DS c m) (hc : ∀ b : Nat, c2.1 3 3 = c.1 3 3 ∧ c2.1 4 b = c.1 4 b ∧ c2.1 5 b = c.1 5 b ∧ c2.1 6 b = c.1 6 b) (h6 : m2.1 0 6 = m.1 0 6) (hm : ∀ b : Nat, b < 20 → m2.1 4 b = m.1 4 b) : DS c2 m2 := by
  unfold DS at h ⊢
  rw [(hc 0).1, h6]
  refine ⟨h.1, fun i hi => ?_⟩
  rw [(hc i).2.1, (hc i).2.2.1, (hc i).2.2.2, hm _ (by omega), hm _ (by omega), hm _ (by omega)]
  exact h.2 i hi
theorem DW.fr {c m c2 m2 : St} (h : DW c m) (hc : ∀ b : Nat, c2.1 3 6 = c.1 3 6 ∧ c2.1 7 b = c.1 7 b) (h7 : m2.1 0 7 = m.1 0 7) (hm : ∀ b : Nat, 20 ≤ b → b < 23 → m2.1 4 b = m.1 4 b) : DW c2 m2 := by
  unfold DW at h ⊢
  rw [(hc 0).1, h7]
  refine ⟨h.1, fun i hi => ?_⟩
  rw [(hc i).2, hm _ (by omega) (by omega)]
  exact h.2 i hi
theorem DF.fr {c m c2 m2 : St} (h : DF c m) (hc : ∀ b : Nat, 7 ≤ b → ¬ b = 14 → c2.1 3 b = c.1 3 b) (h8 : ∀ b : Nat, c2.1 8 b = c.1 8 b) (hm : ∀ b : Nat, 23 ≤ b → b < 32 ∨ b = 41 → m2.1 4 b = m.1 4 b) : DF c2 m2 := by
  unfold DF at h ⊢
  rw [hc 7 (by omega) (by omega), hc 8 (by omega) (by omega), hc 9 (by omega) (by omega), hc 10 (by omega) (by omega), hc 11 (by omega) (by omega), hc 17 (by omega) (by omega), h8, h8, h8, h8, hm 23 (by omega) (by omega), hm 24 (by omega) (by omega), hm 25 (by omega) (by omega), hm 26 (by omega) (by omega), hm 27 (by omega) (by omega), hm 28 (by omega) (by omega), hm 29 (by omega) (by omega), hm 30 (by omega) (by omega), hm 31 (by omega) (by omega), hm 41 (by omega) (by omega)]
  exact h
theorem DP.fr {c m c2 m2 : St} (h : DP c m) (hc : c2.1 3 14 = c.1 3 14 ∧ c2.1 3 4 = c.1 3 4) (h9 : ∀ b : Nat, c2.1 9 b = c.1 9 b) (h8 : m2.1 0 8 = m.1 0 8) (h10 : m2.1 0 10 = m.1 0 10) (hm : ∀ b : Nat, 32 ≤ b → b < 41 → m2.1 4 b = m.1 4 b) : DP c2 m2 := by
  unfold DP at h ⊢
  rw [hc.1, hc.2, h8, h10, hm 32 (by omega) (by omega)]
  obtain ⟨a1, a2, a3, a4⟩ := h
  refine ⟨a1, a2, fun i hi => ?_, fun s hs => ?_⟩
  · rw [h9, hm _ (by omega) (by omega)]; exact a3 i hi
  · rw [a4 s hs]
    constructor
    · intro z
      exact ⟨z.1, fun i hi => by rw [hm _ (by omega) (by omega)]; exact z.2 i hi⟩
    · intro z
      exact ⟨z.1, fun i hi => by have := z.2 i hi; rw [hm _ (by omega) (by omega)] at this; exact this⟩
theorem DT.fr {c m c2 m2 : St} (h : DT c m) (hc : c2.1 1 7 = c.1 1 7) (h9 : m2.1 0 9 = m.1 0 9) (hm : m2.1 4 32 = m.1 4 32) : DT c2 m2 := by
  unfold DT at h ⊢
  rw [hc, h9, hm]
  exact h
theorem Dr.fr {c m c2 m2 : St} (h : Dr c m) (hc : ∀ a b : Nat, (a ≠ 1 ∨ b = 7) → c2.1 a b = c.1 a b) (hm : ∀ a b : Nat, (a ≠ 0 ∨ b < 13) → m2.1 a b = m.1 a b) : Dr c2 m2 :=
  ⟨h.1.fr (fun b => ⟨hc _ _ (by omega), hc _ _ (by omega), hc _ _ (by omega), hc _ _ (by omega)⟩) (hm _ _ (by omega)) (fun b _ => hm _ _ (by omega)), h.2.1.fr (fun b => ⟨hc _ _ (by omega), hc _ _ (by omega)⟩) (hm _ _ (by omega)) (fun b _ _ => hm _ _ (by omega)), h.2.2.1.fr (fun b _ _ => hc _ _ (by omega)) (fun b => hc _ _ (by omega)) (fun b _ _ => hm _ _ (by omega)), h.2.2.2.1.fr ⟨hc _ _ (by omega), hc _ _ (by omega)⟩ (fun b => hc _ _ (by omega)) (hm _ _ (by omega)) (hm _ _ (by omega)) (fun b _ _ => hm _ _ (by omega)), h.2.2.2.2.fr (hc _ _ (by omega)) (hm _ _ (by omega)) (hm _ _ (by omega))⟩
/-- a fault at the same place -/
def Fl (c m : St) : Prop := ¬ (c.1 1 8).toInt = 0 ∧ 0 < (m.1 0 17).toInt ∧ (c.1 1 9).toInt = (m.1 0 18).toInt
def TP (B : Int → Int) (L : Int) (c m : St) : Prop := BC 1 c = B ∧ BM 0 m = B ∧ (c.1 1 1).toInt = L
/-- the same token -/
def TT (q : Int) (B : Int → Int) (L : Int) (c m : St) : Prop := (c.1 1 3).toInt = (m.1 0 15).toInt ∧ (c.1 1 4).toInt = (m.1 0 14).toInt ∧ (c.1 1 5).toInt = (m.1 0 13).toInt ∧ (0 ≤ (m.1 0 14).toInt ∧ (m.1 0 14).toInt ≤ (m.1 0 13).toInt ∧ (m.1 0 13).toInt ≤ L ∧ q ≤ (m.1 0 13).toInt) ∧ (m.1 0 15).toInt = kd (B (m.1 0 14).toInt) ∧ (m.1 0 13).toInt = rq B (m.1 0 14).toInt ∧ ((m.1 0 15).toInt = 2 → (c.1 1 6).toInt = (m.1 0 16).toInt ∧ 0 ≤ (m.1 0 16).toInt ∧ (m.1 0 16).toInt ≤ 99)
/-- what the token's steps leave alone -/
def FC (c c2 : St) : Prop := ∀ a b : Nat, (a ≠ 1 ∨ b < 3 ∨ b = 7 ∨ 10 ≤ b) → c2.1 a b = c.1 a b
def FM (m m2 : St) : Prop := ∀ a b : Nat, (a ≠ 0 ∨ b < 13 ∨ 19 ≤ b) → m2.1 a b = m.1 a b
theorem FC.rf (c : St) : FC c c := fun _ _ _ => rfl
theorem FM.rf (m : St) : FM m m := fun _ _ _ => rfl
theorem FC.tr {a b c : St} (h : FC a b) (g : FC b c) : FC a c := fun x y z => by rw [g x y z, h x y z]
theorem FM.tr {a b c : St} (h : FM a b) (g : FM b c) : FM a c := fun x y z => by rw [g x y z, h x y z]
theorem FC.bc {c c2 : St} (h : FC c c2) : BC 1 c2 = BC 1 c := BC_f (h 1 1 (by omega)) (fun i => h 2 i (by omega))
theorem FM.bm {m m2 : St} (h : FM m m2) : BM 0 m2 = BM 0 m := BM_f (h 0 12 (by omega)) (fun i => h 5 i (by omega))
/-- what is told of the drafts must not look at the token -/
def Stb (D : St → St → Prop) : Prop := ∀ c m c2 m2 : St, FC c c2 → FM m m2 → D c m → D c2 m2
def RT (q : Int) (D : St → St → Prop) (B : Int → Int) (L : Int) (c m : St) : Prop := TP B L c m ∧ (Fl c m ∨ ((c.1 1 8).toInt = 0 ∧ (m.1 0 17).toInt = 0 ∧ TT q B L c m ∧ D c m))
/-- the same place -/
def RS (q : Int) (D : St → St → Prop) (B : Int → Int) (L : Int) (c m : St) : Prop := TP B L c m ∧ (Fl c m ∨ ((c.1 1 8).toInt = 0 ∧ (m.1 0 17).toInt = 0 ∧ (c.1 1 5).toInt = (m.1 0 13).toInt ∧ (0 ≤ (m.1 0 13).toInt ∧ (m.1 0 13).toInt ≤ L ∧ q ≤ (m.1 0 13).toInt) ∧ D c m))
/-- the reference has the next token already -/
def AA (B : Int → Int) (f : Int) (m : St) : Prop := (m.1 0 14).toInt = f ∧ (bad B f → (m.1 0 17).toInt = 1 ∧ (m.1 0 18).toInt = f) ∧ (¬ bad B f → (m.1 0 17).toInt = 0 ∧ (m.1 0 15).toInt = kd (B f) ∧ (m.1 0 13).toInt = rq B f ∧ (kd (B f) = 2 → (m.1 0 16).toInt = vl B f))
def RA (q : Int) (D : St → St → Prop) (B : Int → Int) (L : Int) (c m : St) : Prop := TP B L c m ∧ (Fl c m ∨ ((c.1 1 8).toInt = 0 ∧ (0 ≤ (c.1 1 5).toInt ∧ (c.1 1 5).toInt ≤ L ∧ q ≤ (c.1 1 5).toInt) ∧ AA B (skp B (c.1 1 5).toInt) m ∧ D c m))
theorem RT.s {D : St → St → Prop} {q : Int} {B : Int → Int} {L : Int} {c m : St} (h : RT q D B L c m) : RS q D B L c m := ⟨h.1, h.2.imp id (fun z => ⟨z.1, z.2.1, z.2.2.1.2.2.1, ⟨Int.le_trans z.2.2.1.2.2.2.1.1 z.2.2.1.2.2.2.1.2.1, z.2.2.1.2.2.2.1.2.2⟩, z.2.2.2⟩)⟩
theorem TP.fr {B : Int → Int} {L : Int} {c m c2 m2 : St} (h : TP B L c m) (hc : FC c c2) (hm : FM m m2) : TP B L c2 m2 := ⟨by rw [hc.bc]; exact h.1, by rw [hm.bm]; exact h.2.1, by rw [hc 1 1 (by omega)]; exact h.2.2⟩
theorem Dr.tk {c m c2 m2 : St} (h : Dr c m) (hc : FC c c2) (hm : FM m m2) : Dr c2 m2 := h.fr (fun a b z => hc a b (by omega)) (fun a b z => hm a b (by omega))
theorem takeC_x {c : St} (h : ¬ (c.1 1 8).toInt = 0) : F_X5_takeToken 1 c = c := by
  generalize hu : F_X5_takeToken 1 c = u
  unfold F_X5_takeToken at hu
  obtain ⟨J231, e231, hu⟩ := xl_e hu
  obtain ⟨J202, e202, hu⟩ := xl_e hu
  obtain ⟨P134, e134, hu⟩ := xl_e hu
  obtain ⟨J131, e131, hu⟩ := xl_e hu
  obtain ⟨J126, e126, hu⟩ := xl_e hu
  obtain ⟨J92, e92, hu⟩ := xl_e hu
  obtain ⟨J56, e56, hu⟩ := xl_e hu
  obtain ⟨P18, e18, hu⟩ := xl_e hu
  simp only [xl_d] at hu
  rw [if_neg h] at hu
  exact hu.symm
theorem nextM_x {m : St} (h : 0 < (m.1 0 17).toInt) : F_X8_next1 0 m = m := by
  generalize hu : F_X8_next1 0 m = u
  unfold F_X8_next1 at hu
  obtain ⟨J260, e260, hu⟩ := xl_e hu
  obtain ⟨J236, e236, hu⟩ := xl_e hu
  obtain ⟨P140, e140, hu⟩ := xl_e hu
  obtain ⟨P82, e82, hu⟩ := xl_e hu
  obtain ⟨P8, e8, hu⟩ := xl_e hu
  simp only [xl_d] at hu
  rw [if_pos h] at hu
  exact hu.symm
/-- the class takes the token that the reference has -/
theorem RA.take {D : St → St → Prop} {q : Int} {B : Int → Int} {L : Int} {c m : St} (hS : Stb D) (hB : okB B L) (h : RA q D B L c m) : RT q D B L (F_X5_takeToken 1 c) m ∧ FC c (F_X5_takeToken 1 c) ∧ (((F_X5_takeToken 1 c).1 1 8).toInt = 0 → q ≤ ((F_X5_takeToken 1 c).1 1 4).toInt) := by
  obtain ⟨hT, h | ⟨h0, h5, hA, hD⟩⟩ := h
  · rw [takeC_x h.1]
    exact ⟨⟨hT, Or.inl h⟩, FC.rf c, fun z => absurd z h.1⟩
  · have hk := tokC hB hT.1 h0 ⟨h5.1, h5.2.1⟩
    have hs := skp_r hB h5.1 h5.2.1
    have hq := rq_r hB (f := skp B (c.1 1 5).toInt) (by omega) hs.2.1
    generalize F_X5_takeToken 1 c = u at hk ⊢
    generalize skp B (c.1 1 5).toInt = f at hA hk hs hq
    obtain ⟨k1, k2, k3, k4⟩ := hk
    obtain ⟨a1, a2, a3⟩ := hA
    refine ⟨⟨hT.fr k1 (FM.rf m), ?_⟩, k1, fun _ => by omega⟩
    by_cases hb : bad B f
    · have q1 := k3 hb
      have q2 := a2 hb
      exact Or.inl ⟨by omega, by omega, by omega⟩
    · have q1 := k4 hb
      have q2 := a3 hb
      refine Or.inr ⟨q1.1, q2.1, ⟨by omega, by omega, by omega, ⟨by omega, by rw [q2.2.2.1]; omega, by rw [q2.2.2.1]; omega, by rw [q2.2.2.1]; omega⟩, by rw [q2.2.1, a1], by rw [q2.2.2.1, a1], fun z => ?_⟩, hS _ _ _ _ k1 (FM.rf m) hD⟩
      have z2 : kd (B f) = 2 := by omega
      have v1 := q1.2.2.2 z2
      have v2 := q2.2.2.2 z2
      have v3 := vl_r hB (f := f) (by omega) hs.2.1 z2 (fun y => hb (Or.inr ⟨z2, y⟩))
      omega
/-- the reference takes the next token -/
theorem RS.next {D : St → St → Prop} {q : Int} {B : Int → Int} {L : Int} {c m : St} (hS : Stb D) (hB : okB B L) (h : RS q D B L c m) : RA q D B L c (F_X8_next1 0 m) ∧ FM m (F_X8_next1 0 m) := by
  obtain ⟨hT, h | ⟨h0, h1, h2, h3, hD⟩⟩ := h
  · rw [nextM_x h.2.1]
    exact ⟨⟨hT, Or.inl h⟩, FM.rf m⟩
  · have hk := tokM hB hT.2.1 h1 ⟨h3.1, h3.2.1⟩
    rw [← h2] at hk
    obtain ⟨k1, k2⟩ := hk
    exact ⟨⟨hT.fr (FC.rf c) k1, Or.inr ⟨h0, by omega, k2, hS _ _ _ _ (FC.rf c) k1 hD⟩⟩, k1⟩
theorem needC_ok {d : Int32} {c : St} (h : (c.1 1 3).toInt = d.toInt) : F_X5_need 1 d c = c := by
  simp only [F_X5_need, xl_d]
  rw [if_pos h]
theorem needC_no {d : Int32} {c : St} (h : ¬ (c.1 1 3).toInt = d.toInt) : F_X5_need 1 d c = F_X5_refuse 1 2 (c.1 1 4) c := by
  simp only [F_X5_need, xl_d]
  rw [if_neg h]
theorem wiC {a b : Int32} {c : St} : F_X5_needWithin 1 a b c = if a.toInt ≤ (c.1 1 6).toInt ∧ (c.1 1 6).toInt ≤ b.toInt then c else F_X5_refuse 1 3 (c.1 1 4) c := by
  simp only [F_X5_needWithin, xl_d]
  by_cases c1 : (c.1 1 6).toInt < a.toInt
  · rw [if_pos c1, if_neg (by omega)]
  · rw [if_neg c1]
    by_cases c2 : b.toInt < (c.1 1 6).toInt
    · rw [if_pos c2, if_neg (by omega)]
    · rw [if_neg c2, if_pos (by omega)]
theorem needC_x {d : Int32} {c : St} (h : ¬ (c.1 1 8).toInt = 0) : F_X5_need 1 d c = c := by
  by_cases z : (c.1 1 3).toInt = d.toInt
  · exact needC_ok z
  · rw [needC_no z, refC_x h]
theorem wiC_x {a b : Int32} {c : St} (h : ¬ (c.1 1 8).toInt = 0) : F_X5_needWithin 1 a b c = c := by
  rw [wiC, refC_x h]
  split <;> rfl
theorem lookM {a b : Int32} {m : St} : F_X8_looked 0 a b m = if (m.1 0 17).toInt = 0 then (if (m.1 0 15).toInt = 2 then (if a.toInt ≤ (m.1 0 16).toInt ∧ (m.1 0 16).toInt ≤ b.toInt then (m.1 0 16, m) else (0, up1 (up1 m 0 17 3) 0 18 (m.1 0 14))) else (0, up1 (up1 m 0 17 2) 0 18 (m.1 0 14))) else (0, m) := by
  have c2 : (2 : Int32).toInt = 2 := rfl
  have c3 : (3 : Int32).toInt = 3 := rfl
  generalize hu : F_X8_looked 0 a b m = u
  unfold F_X8_looked at hu
  obtain ⟨J49, e49, hu⟩ := xl_e hu
  obtain ⟨J25, e25, hu⟩ := xl_e hu
  obtain ⟨J21, e21, hu⟩ := xl_e hu
  simp only [xl_d] at hu
  have E49 : ∀ x : St, J49 x = if (x.1 0 17).toInt = 0 then (x.1 0 16, x) else (0, x) := fun x => by rw [e49]; simp only [xl_d]
  have E25 : ∀ x : St, J25 x = if (x.1 0 17).toInt = 0 then J49 (F_X8_needs 0 (F_X8_in (x.1 0 16).toInt64 a.toInt64 b.toInt64 x) 3 x) else J49 x := fun x => by rw [e25]; simp only [xl_d]
  have E21 : ∀ x : Int32, J21 x = J25 (F_X8_needs 0 x 2 m) := fun x => by rw [e21]; simp only [xl_d]
  by_cases h0 : (m.1 0 17).toInt = 0
  · rw [if_pos h0] at hu ⊢
    by_cases h2 : (m.1 0 15).toInt = 2
    · rw [if_pos h2, E21, neeM_o (by decide), E25, if_pos h0] at hu
      rw [if_pos h2]
      have hin := inI (x := m.1 0 16) (b := a.toInt64) (c := b.toInt64) m (i64_of a) (i64_of b)
      by_cases c : a.toInt ≤ (m.1 0 16).toInt ∧ (m.1 0 16).toInt ≤ b.toInt
      · rw [if_pos c]
        rw [neeM_o (fun z => hin.mp z c), E49, if_pos h0] at hu
        exact hu.symm
      · rw [if_neg c]
        rw [neeM h0 (hin.mpr c), E49, if_neg (by rw [up1_n _ _ (Or.inr (by decide)), up1_s]; omega)] at hu
        exact hu.symm
    · rw [if_neg h2, E21, neeM h0 (by decide), E25, if_neg (by rw [up1_n _ _ (Or.inr (by decide)), up1_s]; omega), E49, if_neg (by rw [up1_n _ _ (Or.inr (by decide)), up1_s]; omega)] at hu
      rw [if_neg h2]
      exact hu.symm
  · rw [if_neg h0, E25, if_neg h0, E49, if_neg h0] at hu
    rw [if_neg h0]
    exact hu.symm
theorem FC.rf89 {c : St} {x y : Int32} : FC c (up1 (up1 c 1 8 x) 1 9 y) := fun a b z => by rw [up1_n _ _ (by omega), up1_n _ _ (by omega)]
theorem FM.rf78 {m : St} {x y : Int32} : FM m (up1 (up1 m 0 17 x) 0 18 y) := fun a b z => by rw [up1_n _ _ (by omega), up1_n _ _ (by omega)]
theorem Fl.new {c m : St} {x y z w : Int32} (hx : ¬ x.toInt = 0) (hz : 0 < z.toInt) (e : y.toInt = w.toInt) : Fl (up1 (up1 c 1 8 x) 1 9 y) (up1 (up1 m 0 17 z) 0 18 w) := by
  refine ⟨?_, ?_, ?_⟩
  · rw [up1_n _ _ (Or.inr (by decide)), up1_s]; exact hx
  · rw [up1_n _ _ (Or.inr (by decide)), up1_s]; exact hz
  · rw [up1_s, up1_s]; exact e
/-- a number is looked at -/
theorem RA.num {D : St → St → Prop} {q : Int} {B : Int → Int} {L : Int} {c m : St} (hS : Stb D) (hB : okB B L) (h : RA q D B L c m) (a b : Int32) : RT q D B L (F_X5_takeNumber 1 a b c).2 (F_X8_looked 0 a b m).2 ∧ FC c (F_X5_takeNumber 1 a b c).2 ∧ FM m (F_X8_looked 0 a b m).2 ∧ (((F_X5_takeNumber 1 a b c).2.1 1 8).toInt = 0 → (F_X5_takeNumber 1 a b c).1 = (F_X8_looked 0 a b m).1 ∧ a.toInt ≤ (F_X8_looked 0 a b m).1.toInt ∧ (F_X8_looked 0 a b m).1.toInt ≤ b.toInt) ∧ ((¬ (c.1 1 8).toInt = 0) → ¬ ((F_X5_takeNumber 1 a b c).2.1 1 8).toInt = 0) ∧ ((¬ ((F_X5_takeNumber 1 a b c).2.1 1 8).toInt = 0) → (F_X5_takeNumber 1 a b c).1 = a ∧ (F_X8_looked 0 a b m).1 = 0) := by
  have hx : ∀ u : St, F_X5_takeToken 1 c = u → ¬ (c.1 1 8).toInt = 0 → u = c := fun u e z => by rw [← e, takeC_x z]
  replace hx := hx _ rfl
  obtain ⟨hR, hf, -⟩ := h.take hS hB
  have c2 : (2 : Int32).toInt = 2 := rfl
  have c3 : (3 : Int32).toInt = 3 := rfl
  have c0 : (0 : Int32).toInt = 0 := rfl
  rw [lookM]
  simp only [F_X5_takeNumber, xl_d]
  generalize F_X5_takeToken 1 c = u at hx hR hf ⊢
  obtain ⟨hT, h | ⟨h0, h1, hTT, hD⟩⟩ := hR
  · rw [needC_x h.1, wiC_x h.1, if_neg h.1, if_neg (by have := h.2.1; omega)]
    exact ⟨⟨hT, Or.inl h⟩, hf, FM.rf m, fun z => absurd z h.1, fun _ => h.1, fun _ => ⟨rfl, rfl⟩⟩
  · rw [if_pos h1]
    obtain ⟨t1, t2, t3, t4, t5, t6, t7⟩ := hTT
    by_cases hk : (m.1 0 15).toInt = 2
    · rw [if_pos hk, needC_ok (by omega), wiC]
      obtain ⟨v1, v2, v3⟩ := t7 hk
      rw [v1]
      by_cases hv : a.toInt ≤ (m.1 0 16).toInt ∧ (m.1 0 16).toInt ≤ b.toInt
      · rw [if_pos hv, if_pos hv, if_pos h0]
        exact ⟨⟨hT, Or.inr ⟨h0, h1, ⟨t1, t2, t3, t4, t5, t6, t7⟩, hD⟩⟩, hf, FM.rf m, fun _ => ⟨Int32.toInt_inj.mp v1, hv⟩, fun z => by rw [hx z] at h0; exact absurd h0 z, fun z => absurd h0 z⟩
      · rw [if_neg hv, if_neg hv, refC h0, if_neg (by rw [up1_n _ _ (Or.inr (by decide)), up1_s]; omega)]
        exact ⟨⟨hT.fr FC.rf89 FM.rf78, Or.inl (Fl.new (by omega) (by omega) t2)⟩, hf.tr FC.rf89, FM.rf78, fun z => by rw [up1_n _ _ (Or.inr (by decide)), up1_s] at z; omega, fun _ => by rw [up1_n _ _ (Or.inr (by decide)), up1_s]; omega, fun _ => ⟨rfl, rfl⟩⟩
    · rw [if_neg hk, needC_no (by omega), refC h0, wiC_x (by rw [up1_n _ _ (Or.inr (by decide)), up1_s]; omega), if_neg (by rw [up1_n _ _ (Or.inr (by decide)), up1_s]; omega)]
      exact ⟨⟨hT.fr FC.rf89 FM.rf78, Or.inl (Fl.new (by omega) (by omega) t2)⟩, hf.tr FC.rf89, FM.rf78, fun z => by rw [up1_n _ _ (Or.inr (by decide)), up1_s] at z; omega, fun _ => by rw [up1_n _ _ (Or.inr (by decide)), up1_s]; omega, fun _ => ⟨rfl, rfl⟩⟩
/-- a number, and the next token of the reference -/
theorem RA.rnum {D : St → St → Prop} {q : Int} {B : Int → Int} {L : Int} {c m : St} (hS : Stb D) (hB : okB B L) (h : RA q D B L c m) (a b : Int32) : RA q D B L (F_X5_takeNumber 1 a b c).2 (F_X8_readNumber 0 a b m).2 ∧ FC c (F_X5_takeNumber 1 a b c).2 ∧ FM m (F_X8_readNumber 0 a b m).2 ∧ (((F_X5_takeNumber 1 a b c).2.1 1 8).toInt = 0 → (F_X5_takeNumber 1 a b c).1 = (F_X8_readNumber 0 a b m).1 ∧ a.toInt ≤ (F_X8_readNumber 0 a b m).1.toInt ∧ (F_X8_readNumber 0 a b m).1.toInt ≤ b.toInt) ∧ ((¬ (c.1 1 8).toInt = 0) → ¬ ((F_X5_takeNumber 1 a b c).2.1 1 8).toInt = 0) ∧ ((¬ ((F_X5_takeNumber 1 a b c).2.1 1 8).toInt = 0) → (F_X5_takeNumber 1 a b c).1 = a ∧ (F_X8_readNumber 0 a b m).1 = 0) := by
  obtain ⟨h1, h2, h3, h4⟩ := h.num hS hB a b
  obtain ⟨q1, q2⟩ := h1.s.next hS hB
  have e : F_X8_readNumber 0 a b m = ((F_X8_looked 0 a b m).1, F_X8_next1 0 (F_X8_looked 0 a b m).2) := by simp only [F_X8_readNumber, xl_d, xm_d]
  rw [e]
  exact ⟨q1, h2, h3.tr q2, h4⟩
/-- what the reference does with the token where the line must end -/
def stM (m : St) : St := if (m.1 0 17).toInt = 0 then (if (m.1 0 15).toInt = 3 then m else up1 (up1 m 0 17 2) 0 18 (m.1 0 14)) else m
theorem RA.stop {D : St → St → Prop} {q : Int} {B : Int → Int} {L : Int} {c m : St} (hS : Stb D) (hB : okB B L) (h : RA q D B L c m) : RT q D B L (F_X5_takeStop 1 c) (stM m) ∧ FC c (F_X5_takeStop 1 c) ∧ FM m (stM m) ∧ ((¬ (c.1 1 8).toInt = 0) → ¬ ((F_X5_takeStop 1 c).1 1 8).toInt = 0) := by
  have hx : ∀ u : St, F_X5_takeToken 1 c = u → ¬ (c.1 1 8).toInt = 0 → u = c := fun u e z => by rw [← e, takeC_x z]
  replace hx := hx _ rfl
  obtain ⟨hR, hf, -⟩ := h.take hS hB
  have c2 : (2 : Int32).toInt = 2 := rfl
  have c3 : (3 : Int32).toInt = 3 := rfl
  unfold stM
  simp only [F_X5_takeStop, xl_d]
  generalize F_X5_takeToken 1 c = u at hx hR hf ⊢
  obtain ⟨hT, h | ⟨h0, h1, hTT, hD⟩⟩ := hR
  · rw [needC_x h.1, if_neg (by have := h.2.1; omega)]
    exact ⟨⟨hT, Or.inl h⟩, hf, FM.rf m, fun _ => h.1⟩
  · rw [if_pos h1]
    obtain ⟨t1, t2, t3⟩ := id hTT
    by_cases hk : (m.1 0 15).toInt = 3
    · rw [if_pos hk, needC_ok (by omega)]
      exact ⟨⟨hT, Or.inr ⟨h0, h1, hTT, hD⟩⟩, hf, FM.rf m, fun z => by rw [hx z] at h0; exact absurd h0 z⟩
    · rw [if_neg hk, needC_no (by omega), refC h0]
      exact ⟨⟨hT.fr FC.rf89 FM.rf78, Or.inl (Fl.new (by omega) (by omega) t2)⟩, hf.tr FC.rf89, FM.rf78, fun _ => by rw [up1_n _ _ (Or.inr (by decide)), up1_s]; omega⟩
/-! lines -/
theorem xm_e {α β γ : Type} {x : α × β} {f : α → β → γ} {r : γ} (h : xm x f = r) : ∃ a b, (a, b) = x ∧ f a b = r := ⟨x.1, x.2, rfl, h⟩
theorem Dr_stb : Stb Dr := fun _ _ _ _ hc hm h => h.tk hc hm
/-- writes into the drafts -/
def WC (c c2 : St) : Prop := (∀ b : Nat, b ≠ 7 → c2.1 1 b = c.1 1 b) ∧ ∀ b : Nat, c2.1 2 b = c.1 2 b
def WM (m m2 : St) : Prop := (∀ b : Nat, 11 ≤ b → m2.1 0 b = m.1 0 b) ∧ ∀ b : Nat, m2.1 5 b = m.1 5 b
theorem WC.rf (c : St) : WC c c := ⟨fun _ _ => rfl, fun _ => rfl⟩
theorem WM.rf (m : St) : WM m m := ⟨fun _ _ => rfl, fun _ => rfl⟩
theorem WC.tr {a b c : St} (h : WC a b) (g : WC b c) : WC a c := ⟨fun x z => by rw [g.1 x z, h.1 x z], fun x => by rw [g.2, h.2]⟩
theorem WM.tr {a b c : St} (h : WM a b) (g : WM b c) : WM a c := ⟨fun x z => by rw [g.1 x z, h.1 x z], fun x => by rw [g.2, h.2]⟩
theorem WC.up {c : St} {k j : Nat} {x : Int32} (h : (k ≠ 1 ∧ k ≠ 2) ∨ (k = 1 ∧ j = 7)) : WC c (up1 c k j x) := ⟨fun b z => up1_n _ _ (by omega), fun b => up1_n _ _ (by omega)⟩
theorem WM.up {m : St} {k j : Nat} {x : Int32} (h : (k ≠ 0 ∧ k ≠ 5) ∨ (k = 0 ∧ j < 11)) : WM m (up1 m k j x) := ⟨fun b z => up1_n _ _ (by omega), fun b => up1_n _ _ (by omega)⟩
theorem TP.wr {B : Int → Int} {L : Int} {c m c2 m2 : St} (h : TP B L c m) (hc : WC c c2) (hm : WM m m2) : TP B L c2 m2 := ⟨by rw [BC_f (hc.1 1 (by omega)) hc.2]; exact h.1, by rw [BM_f (hm.1 12 (by omega)) hm.2]; exact h.2.1, by rw [hc.1 1 (by omega)]; exact h.2.2⟩
theorem Fl.wr {c m c2 m2 : St} (h : Fl c m) (hc : WC c c2) (hm : WM m m2) : Fl c2 m2 := by
  unfold Fl at h ⊢
  rw [hc.1 8 (by omega), hc.1 9 (by omega), hm.1 17 (by omega), hm.1 18 (by omega)]
  exact h
theorem TT.wr {q : Int} {B : Int → Int} {L : Int} {c m c2 m2 : St} (h : TT q B L c m) (hc : WC c c2) (hm : WM m m2) : TT q B L c2 m2 := by
  unfold TT at h ⊢
  rw [hc.1 3 (by omega), hc.1 4 (by omega), hc.1 5 (by omega), hc.1 6 (by omega), hm.1 13 (by omega), hm.1 14 (by omega), hm.1 15 (by omega), hm.1 16 (by omega)]
  exact h
theorem AA.wr {B : Int → Int} {f : Int} {m m2 : St} (h : AA B f m) (hm : WM m m2) : AA B f m2 := by
  unfold AA at h ⊢
  rw [hm.1 13 (by omega), hm.1 14 (by omega), hm.1 15 (by omega), hm.1 16 (by omega), hm.1 17 (by omega), hm.1 18 (by omega)]
  exact h
theorem RT.wr {D D2 : St → St → Prop} {q : Int} {B : Int → Int} {L : Int} {c m c2 m2 : St} (h : RT q D B L c m) (hc : WC c c2) (hm : WM m m2) (hD : (c.1 1 8).toInt = 0 → D c m → D2 c2 m2) : RT q D2 B L c2 m2 := by
  obtain ⟨hT, h | ⟨h0, h1, hTT, hd⟩⟩ := h
  · exact ⟨hT.wr hc hm, Or.inl (h.wr hc hm)⟩
  · exact ⟨hT.wr hc hm, Or.inr ⟨by rw [hc.1 8 (by omega)]; exact h0, by rw [hm.1 17 (by omega)]; exact h1, hTT.wr hc hm, hD h0 hd⟩⟩
theorem RA.wr {D D2 : St → St → Prop} {q : Int} {B : Int → Int} {L : Int} {c m c2 m2 : St} (h : RA q D B L c m) (hc : WC c c2) (hm : WM m m2) (hD : (c.1 1 8).toInt = 0 → D c m → D2 c2 m2) : RA q D2 B L c2 m2 := by
  obtain ⟨hT, h | ⟨h0, h1, hA, hd⟩⟩ := h
  · exact ⟨hT.wr hc hm, Or.inl (h.wr hc hm)⟩
  · refine ⟨hT.wr hc hm, Or.inr ⟨by rw [hc.1 8 (by omega)]; exact h0, by rw [hc.1 5 (by omega)]; exact h1, ?_, hD h0 hd⟩⟩
    rw [hc.1 5 (by omega)]
    exact hA.wr hm
/-- a check that both make -/
theorem RT.chk {D D2 : St → St → Prop} {q : Int} {B : Int → Int} {L : Int} {c m : St} (h : RT q D B L c m) {p : Prop} {ip : Decidable p} {z e e2 : Int32} (he : ¬ e.toInt = 0) (he2 : 0 < e2.toInt) (hp : (c.1 1 8).toInt = 0 → (m.1 0 17).toInt = 0 → D c m → (p ↔ ¬ z.toInt = 0)) (hD : (c.1 1 8).toInt = 0 → D c m → p → D2 c m) : RT q D2 B L (@ite St p ip c (F_X5_refuse 1 e (c.1 1 4) c)) (F_X8_needs 0 z e2 m) := by
  obtain ⟨hT, h | ⟨h0, h1, hTT, hd⟩⟩ := h
  · rw [refC_x h.1, neeM_x (by have := h.2.1; omega)]
    have e1 : @ite St p ip c c = c := by split <;> rfl
    rw [e1]
    exact ⟨hT, Or.inl h⟩
  · by_cases q : p
    · rw [if_pos q, neeM_o ((hp h0 h1 hd).mp q)]
      exact ⟨hT, Or.inr ⟨h0, h1, hTT, hD h0 hd q⟩⟩
    · rw [if_neg q, refC h0, neeM h1 (by rw [hp h0 h1 hd] at q; omega)]
      exact ⟨hT.fr FC.rf89 FM.rf78, Or.inl (Fl.new he he2 hTT.2.1)⟩
theorem stM_f (m : St) : FM m (stM m) := by
  unfold stM
  split
  · split
    · exact FM.rf m
    · exact FM.rf78
  · exact FM.rf m
theorem stM_w {m m2 : St} (h : WM m m2) : WM (stM m) (stM m2) := by
  unfold stM
  rw [h.1 17 (by omega), h.1 15 (by omega), h.1 14 (by omega)]
  split
  · split
    · exact h
    · refine ⟨fun b z => ?_, fun b => ?_⟩
      · by_cases b8 : b = 18
        · subst b8; rw [up1_s, up1_s]
        · rw [up1_n _ _ (by omega), up1_n (v := up1 m 0 17 2) _ (by omega)]
          by_cases b7 : b = 17
          · subst b7; rw [up1_s, up1_s]
          · rw [up1_n _ _ (by omega), up1_n _ _ (by omega)]; exact h.1 b z
      · rw [up1_n _ _ (by omega), up1_n _ _ (by omega), up1_n _ _ (by omega), up1_n _ _ (by omega)]; exact h.2 b
  · exact h
theorem stM_x {m : St} (h : 0 < (m.1 0 17).toInt) : stM m = m := by
  unfold stM
  rw [if_neg (by omega)]
theorem rnM_x {m : St} (h : 0 < (m.1 0 17).toInt) (a b : Int32) : F_X8_readNumber 0 a b m = (0, m) := by
  simp only [F_X8_readNumber, xl_d, xm_d]
  rw [lookM, if_neg (by omega)]
  simp only
  rw [nextM_x h]
/-- the reference's way behind the name -/
def tailM (y : Int32) (m : St) : St := if 0 < ((F_X8_next1 0 m).1 0 17).toInt then F_X8_next1 0 m else F_X8_next1 0 (stM (F_X8_readLineOf 0 y (F_X8_next1 0 m)))
theorem RT.fin {D : St → St → Prop} {q : Int} {B : Int → Int} {L : Int} {c m : St} (hS : Stb D) (hB : okB B L) (h : RT q D B L c m) (y : Int32) {rest : St → St} (hln : ∀ c m : St, RA q D B L c m → RT q Dr B L (rest c) (stM (F_X8_readLineOf 0 y m))) (hfx : ∀ m : St, 0 < (m.1 0 17).toInt → WM m (F_X8_readLineOf 0 y m)) : RA q Dr B L (rest c) (tailM y m) := by
  obtain ⟨hA, -⟩ := h.s.next hS hB
  have hq := hln _ _ hA
  unfold tailM
  generalize F_X8_next1 0 m = m2 at hA hq ⊢
  by_cases hf : 0 < (m2.1 0 17).toInt
  · rw [if_pos hf]
    have hw := hfx m2 hf
    have hw17 := hw.1 17 (by omega)
    rw [stM_x (by rw [hw17]; exact hf)] at hq
    obtain ⟨hT, q | q⟩ := hq
    · refine ⟨⟨hT.1, hA.1.2.1, hT.2.2⟩, Or.inl ⟨q.1, hf, ?_⟩⟩
      rw [q.2.2, hw.1 18 (by omega)]
    · have := q.2.1
      rw [hw17] at this
      omega
  · rw [if_neg hf]
    exact (hq.s.next Dr_stb hB).1
/-! a walker -/
def walkC (a : Int32) (c : St) : St := if ((F_X5_takeStop 1 c).1 1 8).toInt = 0 then (F_X0_addWalker 3 a (F_X5_takeStop 1 c)).2 else F_X5_takeStop 1 c
theorem readWalkerC (a : Int32) (c : St) : F_X5_readWalker 1 a c = walkC a (if (c.1 3 6).toInt < 3 then c else F_X5_refuse 1 5 (c.1 1 4) c) := by
  simp only [F_X5_readWalker, xl_d, xm_d, Nat.reduceAdd, walkC]
  split <;> rfl
def DWk (c m : St) : Prop := Dr c m ∧ (m.1 0 7).toInt < 3
theorem DWk_stb : Stb DWk := fun _ _ _ _ hc hm h => ⟨h.1.tk hc hm, by rw [hm 0 7 (by omega)]; exact h.2⟩
theorem walkM (a : Int32) (m : St) (ha : 0 ≤ a.toInt ∧ a.toInt ≤ 3) : F_X8_readLineOf 0 a m = up1 (up1 m 4 ((20 : Int32) + m.1 0 7).toNatClampNeg a) 0 7 (m.1 0 7 + 1) := by
  simp only [F_X8_readLineOf, xl_d, xm_d, Nat.reduceAdd]
  rw [if_neg (by omega), if_neg (by omega), if_neg (by omega), if_neg (by omega), if_neg (by omega), if_neg (by omega), if_neg (by omega), up1_n _ _ (Or.inl (by decide))]
theorem ln_walk {q : Int} {B : Int → Int} {L : Int} (hB : okB B L) {a : Int32} (ha : 0 ≤ a.toInt ∧ a.toInt ≤ 3) (c m : St) (h : RA q DWk B L c m) : RT q Dr B L (walkC a c) (stM (F_X8_readLineOf 0 a m)) := by
  obtain ⟨h1, hc, hm, hb⟩ := h.stop DWk_stb hB
  rw [walkM a m ha]
  generalize hm2 : up1 (up1 m 4 ((20 : Int32) + m.1 0 7).toNatClampNeg a) 0 7 (m.1 0 7 + 1) = m2
  have w1 : WM m m2 := by rw [← hm2]; exact (WM.up (by omega)).tr (WM.up (by omega))
  unfold walkC
  generalize F_X5_takeStop 1 c = c1 at h1 hc hb ⊢
  have f2 := stM_f m2
  have w2 := stM_w w1
  by_cases h0 : (c1.1 1 8).toInt = 0
  · rw [if_pos h0]
    obtain ⟨hT, h1 | ⟨-, g1, hTT, hd⟩⟩ := h1
    · exact absurd h0 h1.1
    · obtain ⟨⟨dS, dW, dF, dP, dT⟩, hlt⟩ := hd
      have e7 : (stM m).1 0 7 = m.1 0 7 := hm 0 7 (by omega)
      have hw := dW.1
      rw [e7] at hw hlt
      have hcn := cnI (x := m.1 0 7) (by omega)
      have e20 : ((20 : Int32) + m.1 0 7).toInt = 20 + (m.1 0 7).toInt := adI rfl rfl (by omega) (by omega)
      have hcn2 := cnI (x := (20 : Int32) + m.1 0 7) (by omega)
      have e1 : (m.1 0 7 + 1).toInt = (m.1 0 7).toInt + 1 := adI rfl rfl (by omega) (by omega)
      have ex : (F_X0_addWalker 3 a c1).2 = up1 (up1 c1 7 (c1.1 3 6).toNatClampNeg a) 3 6 (c1.1 3 6 + 1) := by
        simp only [F_X0_addWalker, xl_d, Nat.reduceAdd]
        rw [if_pos (by rw [hw.1]; omega)]
      rw [ex, hw.1]
      generalize hc2 : up1 (up1 c1 7 (m.1 0 7).toNatClampNeg a) 3 6 (m.1 0 7 + 1) = c2
      have nc : ∀ x y : Nat, (x ≠ 7 ∧ (x ≠ 3 ∨ y ≠ 6)) → c2.1 x y = c1.1 x y := fun x y z => by rw [← hc2, up1_n _ _ (by omega), up1_n _ _ (by omega)]
      have nm : ∀ x y : Nat, ((x ≠ 4 ∨ y ≠ ((20 : Int32) + m.1 0 7).toNatClampNeg) ∧ (x ≠ 0 ∨ y < 7 ∨ (7 < y ∧ y < 13))) → (stM m2).1 x y = (stM m).1 x y := fun x y z => by rw [f2 x y (by omega), hm x y (by omega), ← hm2, up1_n _ _ (by omega), up1_n _ _ (by omega)]
      have nm7 : (stM m2).1 0 7 = m.1 0 7 + 1 := by rw [f2 0 7 (by omega), ← hm2, up1_s]
      refine ⟨hT.wr (by rw [← hc2]; exact (WC.up (by omega)).tr (WC.up (by omega))) w2, Or.inr ⟨by rw [nc 1 8 (by omega)]; exact h0, by rw [w2.1 17 (by omega)]; exact g1, hTT.wr (by rw [← hc2]; exact (WC.up (by omega)).tr (WC.up (by omega))) w2, ?_, ?_, ?_, ?_, ?_⟩⟩
      · exact dS.fr (fun b => ⟨nc _ _ (by omega), nc _ _ (by omega), nc _ _ (by omega), nc _ _ (by omega)⟩) (nm _ _ (by omega)) (fun b _ => nm _ _ (by omega))
      · refine ⟨⟨by rw [nm7, ← hc2, up1_s], by rw [nm7]; omega, by rw [nm7]; omega⟩, fun i hi => ?_⟩
        rw [nm7] at hi
        by_cases ei : i = (m.1 0 7).toNatClampNeg
        · have z1 : c2.1 7 i = a := by rw [← hc2, up1_n _ _ (by omega), ei, up1_s]
          have z2 : (stM m2).1 4 (20 + i) = a := by
            rw [f2 4 (20 + i) (by omega), ← hm2, up1_n _ _ (by omega), show 20 + i = ((20 : Int32) + m.1 0 7).toNatClampNeg by omega, up1_s]
          rw [z1, z2]
          exact ⟨rfl, ha⟩
        · have z1 : c2.1 7 i = c1.1 7 i := by rw [← hc2, up1_n _ _ (by omega), up1_n _ _ (by omega)]
          rw [z1, nm 4 (20 + i) (by omega)]
          exact dW.2 i (by rw [e7]; omega)
      · exact dF.fr (fun b _ _ => nc _ _ (by omega)) (fun b => nc _ _ (by omega)) (fun b _ _ => nm _ _ (by omega))
      · exact dP.fr ⟨nc _ _ (by omega), nc _ _ (by omega)⟩ (fun b => nc _ _ (by omega)) (nm _ _ (by omega)) (nm _ _ (by omega)) (fun b _ _ => nm _ _ (by omega))
      · exact dT.fr (nc _ _ (by omega)) (nm _ _ (by omega)) (nm _ _ (by omega))
  · rw [if_neg h0]
    exact h1.wr (WC.rf c1) w2 (fun z => absurd z h0)
/-! a star -/
def starC (c : St) : St :=
  xm (F_X5_takeNumber 1 0 9 c) fun r1 u2 => xm (F_X5_takeNumber 1 r1 9 u2) fun r4 u5 => xm (F_X5_takeNumber 1 0 6 u5) fun r7 u8 => xl (F_X5_takeStop 1 u8) fun u10 => xl (u10.1 1 8) fun x12 => if x12.toInt = 0 then (xm (F_X0_addStar 3 r1 r4 r7 u10) fun _ u15 => u15) else u10
theorem readStarC (c : St) : F_X5_readStar 1 c = starC (if (c.1 3 3).toInt < 5 then c else F_X5_refuse 1 5 (c.1 1 4) c) := by
  simp only [F_X5_readStar, xl_d, xm_d, Nat.reduceAdd, starC]
  split <;> rfl
def DSt (c m : St) : Prop := Dr c m ∧ (m.1 0 6).toInt < 5
theorem DSt_stb : Stb DSt := fun _ _ _ _ hc hm h => ⟨h.1.tk hc hm, by rw [hm 0 6 (by omega)]; exact h.2⟩
/-- a row that isn't counted yet may be written -/
theorem DSt.w {c m : St} (h : DSt c m) {i : Int32} {t : Int} (x : Int32) (ht : 0 ≤ t ∧ t < 4) (hi : i.toInt = 4 * (m.1 0 6).toInt + t) : DSt c (up1 m 4 i.toNatClampNeg x) := by
  obtain ⟨⟨dS, dW, dF, dP, dT⟩, hlt⟩ := h
  have hs := dS.1
  have hcn := cnI (x := i) (by omega)
  have nm : ∀ a b : Nat, (a ≠ 4 ∨ b ≠ i.toNatClampNeg) → (up1 m 4 i.toNatClampNeg x).1 a b = m.1 a b := fun a b z => up1_n _ _ z
  refine ⟨⟨?_, dW.fr (fun b => ⟨rfl, rfl⟩) (nm _ _ (by omega)) (fun b _ _ => nm _ _ (by omega)), dF.fr (fun b _ _ => rfl) (fun b => rfl) (fun b _ _ => nm _ _ (by omega)), dP.fr ⟨rfl, rfl⟩ (fun b => rfl) (nm _ _ (by omega)) (nm _ _ (by omega)) (fun b _ _ => nm _ _ (by omega)), dT.fr rfl (nm _ _ (by omega)) (nm _ _ (by omega))⟩, by rw [nm 0 6 (by omega)]; exact hlt⟩
  refine ⟨by rw [nm 0 6 (by omega)]; exact hs, fun j hj => ?_⟩
  rw [nm 0 6 (by omega)] at hj
  rw [nm _ _ (by omega), nm _ _ (by omega), nm _ _ (by omega)]
  exact dS.2 j hj
set_option maxHeartbeats 1000000 in
theorem ln_star {q : Int} {B : Int → Int} {L : Int} (hB : okB B L) (c m : St) (h : RA q DSt B L c m) : RT q Dr B L (starC c) (stM (F_X8_readLineOf 0 4 m)) := by
  have c4 : (4 : Int32).toInt = 4 := rfl
  have e0 : F_X8_readLineOf 0 4 m = F_X8_readStar 0 m := by
    simp only [F_X8_readLineOf, xl_d, xm_d]
    rw [if_pos (by decide)]
  rw [e0]
  generalize hmm : F_X8_readStar 0 m = mm
  unfold F_X8_readStar at hmm
  generalize hcc : starC c = cc
  unfold starC at hcc
  obtain ⟨x1, ex1, hmm⟩ := xl_e hmm
  obtain ⟨x2, ex2, hmm⟩ := xl_e hmm
  obtain ⟨x3, ex3, hmm⟩ := xl_e hmm
  obtain ⟨r4, u5, eq1, hmm⟩ := xm_e hmm
  obtain ⟨v9, ev9, hmm⟩ := xl_e hmm
  obtain ⟨x10, ex10, hmm⟩ := xl_e hmm
  obtain ⟨x12, ex12, hmm⟩ := xl_e hmm
  obtain ⟨r13, u14, eq2, hmm⟩ := xm_e hmm
  obtain ⟨v17, ev17, hmm⟩ := xl_e hmm
  obtain ⟨x18, ex18, hmm⟩ := xl_e hmm
  obtain ⟨r19, u20, eq3, hmm⟩ := xm_e hmm
  obtain ⟨v24, ev24, hmm⟩ := xl_e hmm
  obtain ⟨x25, ex25, hmm⟩ := xl_e hmm
  obtain ⟨x26, ex26, hmm⟩ := xl_e hmm
  obtain ⟨v27, ev27, hmm⟩ := xl_e hmm
  subst hmm
  obtain ⟨s1, c2, ec1, hcc⟩ := xm_e hcc
  obtain ⟨s4, c5, ec2, hcc⟩ := xm_e hcc
  obtain ⟨s7, c8, ec3, hcc⟩ := xm_e hcc
  obtain ⟨c10, ec4, hcc⟩ := xl_e hcc
  obtain ⟨y12, ey12, hcc⟩ := xl_e hcc
  -- the first
  obtain ⟨a1, a2, a3, a4, a5, a6⟩ := h.rnum DSt_stb hB 0 9
  rw [← ec1, ← eq1] at a1 a4 a6
  rw [← ec1] at a2 a5
  rw [← eq1] at a3
  have k6 : u5.1 0 6 = m.1 0 6 := a3 0 6 (by omega)
  have es1 : s1 = r4 := by
    by_cases z : (c2.1 1 8).toInt = 0
    · exact (a4 z).1
    · exact (a6 z).1.trans (a6 z).2.symm
  have ew1 : x12 = r4 := by rw [ex12, ev9, up1_s]
  have A1 : RA q DSt B L c2 v9 := by
    rw [ev9]
    refine a1.wr (WC.rf _) (WM.up (by omega)) (fun z hd => hd.w r4 (t := 0) (by omega) ?_)
    have hs := hd.1.1.1
    rw [k6] at hs ⊢
    have m1 : x2.toInt = 4 * (m.1 0 6).toInt := by rw [ex2, ex1]; exact mlI rfl rfl (by omega) (by omega)
    rw [ex3]
    exact adI m1 rfl (by omega) (by omega)
  -- the second
  obtain ⟨b1, b2, b3, b4, b5, b6⟩ := A1.rnum DSt_stb hB s1 9
  rw [ew1, ← es1] at eq2
  rw [← ec2, ← eq2] at b1 b4 b6
  rw [← ec2] at b2 b5
  rw [← eq2] at b3
  have k6b : v9.1 0 6 = m.1 0 6 := by rw [ev9, up1_n _ _ (by omega)]; exact k6
  have k6c : u14.1 0 6 = m.1 0 6 := by rw [b3 0 6 (by omega)]; exact k6b
  have A2 : RA q DSt B L c5 v17 := by
    rw [ev17]
    refine b1.wr (WC.rf _) (WM.up (by omega)) (fun z hd => hd.w r13 (t := 1) (by omega) ?_)
    have hs := hd.1.1.1
    rw [k6c] at hs ⊢
    have m1 : x2.toInt = 4 * (m.1 0 6).toInt := by rw [ex2, ex1]; exact mlI rfl rfl (by omega) (by omega)
    rw [ex10]
    exact adI m1 rfl (by omega) (by omega)
  -- the third
  obtain ⟨d1, d2, d3, d4, d5, d6⟩ := A2.rnum DSt_stb hB 0 6
  rw [← ec3, ← eq3] at d1 d4 d6
  rw [← ec3] at d2 d5
  rw [← eq3] at d3
  have k6d : v17.1 0 6 = m.1 0 6 := by rw [ev17, up1_n _ _ (by omega)]; exact k6c
  have k6e : u20.1 0 6 = m.1 0 6 := by rw [d3 0 6 (by omega)]; exact k6d
  have A3 : RA q DSt B L c8 v24 := by
    rw [ev24]
    refine d1.wr (WC.rf _) (WM.up (by omega)) (fun z hd => hd.w r19 (t := 2) (by omega) ?_)
    have hs := hd.1.1.1
    rw [k6e] at hs ⊢
    have m1 : x2.toInt = 4 * (m.1 0 6).toInt := by rw [ex2, ex1]; exact mlI rfl rfl (by omega) (by omega)
    rw [ex18]
    exact adI m1 rfl (by omega) (by omega)
  have k6f : v24.1 0 6 = m.1 0 6 := by rw [ev24, up1_n _ _ (by omega)]; exact k6e
  obtain ⟨f1, f2, f3, f4⟩ := A3.stop DSt_stb hB
  rw [← ec4] at f1 f2 f4
  have w1 : WM v24 v27 := by rw [ev27]; exact WM.up (by omega)
  have g2 := stM_f v27
  have w2 := stM_w w1
  by_cases h0 : (c10.1 1 8).toInt = 0
  · rw [ey12, if_pos h0] at hcc
    have z8 : (c8.1 1 8).toInt = 0 := Decidable.byContradiction (fun z => f4 z h0)
    have z5 : (c5.1 1 8).toInt = 0 := Decidable.byContradiction (fun z => d5 z z8)
    have z2 : (c2.1 1 8).toInt = 0 := Decidable.byContradiction (fun z => b5 z z5)
    have es4 : s4 = r13 := (b4 z5).1
    have es7 : s7 = r19 := (d4 z8).1
    obtain ⟨hT, f1 | ⟨-, q1, hTT, hd⟩⟩ := f1
    · exact absurd h0 f1.1
    · obtain ⟨⟨dS, dW, dF, dP, dT⟩, hlt⟩ := hd
      have e6 : (stM v24).1 0 6 = m.1 0 6 := by rw [f3 0 6 (by omega)]; exact k6f
      have hw := dS.1
      rw [e6] at hw hlt
      have hcn := cnI (x := m.1 0 6) (by omega)
      have m1 : x2.toInt = 4 * (m.1 0 6).toInt := by rw [ex2, ex1]; exact mlI rfl rfl (by omega) (by omega)
      have i3 : x3.toInt = 4 * (m.1 0 6).toInt + 0 := by rw [ex3]; exact adI m1 rfl (by omega) (by omega)
      have i10 : x10.toInt = 4 * (m.1 0 6).toInt + 1 := by rw [ex10]; exact adI m1 rfl (by omega) (by omega)
      have i18 : x18.toInt = 4 * (m.1 0 6).toInt + 2 := by rw [ex18]; exact adI m1 rfl (by omega) (by omega)
      have n3 := cnI (x := x3) (by omega)
      have n10 := cnI (x := x10) (by omega)
      have n18 := cnI (x := x18) (by omega)
      have e1 : (m.1 0 6 + 1).toInt = (m.1 0 6).toInt + 1 := adI rfl rfl (by omega) (by omega)
      have x26' : x26 = m.1 0 6 + 1 := by rw [ex26, ex25, k6f]
      have ex : (F_X0_addStar 3 s1 s4 s7 c10).2 = up1 (up1 (up1 (up1 c10 4 (c10.1 3 3).toNatClampNeg s1) 5 (c10.1 3 3).toNatClampNeg s4) 6 (c10.1 3 3).toNatClampNeg s7) 3 3 (c10.1 3 3 + 1) := by
        simp only [F_X0_addStar, xl_d, Nat.reduceAdd]
        rw [if_pos (by rw [hw.1]; omega)]
      rw [xm_d, ex, hw.1] at hcc
      have nc : ∀ x y : Nat, ((x < 4 ∨ 6 < x) ∧ (x ≠ 3 ∨ y ≠ 3)) → cc.1 x y = c10.1 x y := fun x y z => by rw [← hcc, up1_n _ _ (by omega), up1_n _ _ (by omega), up1_n _ _ (by omega), up1_n _ _ (by omega)]
      have nm : ∀ x y : Nat, (x ≠ 0 ∨ y < 6 ∨ (6 < y ∧ y < 13)) → (stM v27).1 x y = (stM v24).1 x y := fun x y z => by rw [g2 x y (by omega), f3 x y (by omega), ev27, up1_n _ _ (by omega)]
      have nm6 : (stM v27).1 0 6 = m.1 0 6 + 1 := by rw [g2 0 6 (by omega), ev27, up1_s, x26']
      have wc : WC c10 cc := ⟨fun b z => nc _ _ (by omega), fun b => nc _ _ (by omega)⟩
      refine ⟨hT.wr wc w2, Or.inr ⟨by rw [nc 1 8 (by omega)]; exact h0, by rw [w2.1 17 (by omega)]; exact q1, hTT.wr wc w2, ?_, ?_, ?_, ?_, ?_⟩⟩
      · refine ⟨⟨by rw [nm6, ← hcc, up1_s], by rw [nm6]; omega, by rw [nm6]; omega⟩, fun i hi => ?_⟩
        rw [nm6] at hi
        rw [nm _ _ (by omega), nm _ _ (by omega), nm _ _ (by omega), f3 4 _ (by omega), f3 4 _ (by omega), f3 4 _ (by omega)]
        by_cases ei : i = (m.1 0 6).toNatClampNeg
        · have z1 : cc.1 4 i = s1 := by rw [← hcc, up1_n _ _ (by omega), up1_n _ _ (by omega), up1_n _ _ (by omega), ei, up1_s]
          have z2 : cc.1 5 i = s4 := by rw [← hcc, up1_n _ _ (by omega), up1_n _ _ (by omega), ei, up1_s]
          have z3 : cc.1 6 i = s7 := by rw [← hcc, up1_n _ _ (by omega), ei, up1_s]
          have y3 : v24.1 4 (4 * i + 2) = r19 := by rw [ev24, show 4 * i + 2 = x18.toNatClampNeg by omega, up1_s]
          have y2 : v24.1 4 (4 * i + 1) = r13 := by rw [ev24, up1_n _ _ (by omega), d3 4 _ (by omega), ev17, show 4 * i + 1 = x10.toNatClampNeg by omega, up1_s]
          have y1 : v24.1 4 (4 * i) = r4 := by rw [ev24, up1_n _ _ (by omega), d3 4 _ (by omega), ev17, up1_n _ _ (by omega), b3 4 _ (by omega), ev9, show 4 * i = x3.toNatClampNeg by omega, up1_s]
          rw [z1, z2, z3, y1, y2, y3, es1, es4, es7]
          have rg : 0 ≤ r19.toInt ∧ r19.toInt ≤ 6 := (d4 z8).2
          exact ⟨rfl, rfl, rfl, by omega, by omega⟩
        · have z1 : cc.1 4 i = c10.1 4 i := by rw [← hcc, up1_n _ _ (by omega), up1_n _ _ (by omega), up1_n _ _ (by omega), up1_n _ _ (by omega)]
          have z2 : cc.1 5 i = c10.1 5 i := by rw [← hcc, up1_n _ _ (by omega), up1_n _ _ (by omega), up1_n _ _ (by omega), up1_n _ _ (by omega)]
          have z3 : cc.1 6 i = c10.1 6 i := by rw [← hcc, up1_n _ _ (by omega), up1_n _ _ (by omega), up1_n _ _ (by omega), up1_n _ _ (by omega)]
          have := dS.2 i (by rw [e6]; omega)
          rw [f3 4 _ (by omega), f3 4 _ (by omega), f3 4 _ (by omega)] at this
          rw [z1, z2, z3]
          exact this
      · exact dW.fr (fun b => ⟨nc _ _ (by omega), nc _ _ (by omega)⟩) (nm _ _ (by omega)) (fun b _ _ => nm _ _ (by omega))
      · exact dF.fr (fun b _ _ => nc _ _ (by omega)) (fun b => nc _ _ (by omega)) (fun b _ _ => nm _ _ (by omega))
      · exact dP.fr ⟨nc _ _ (by omega), nc _ _ (by omega)⟩ (fun b => nc _ _ (by omega)) (nm _ _ (by omega)) (nm _ _ (by omega)) (fun b _ _ => nm _ _ (by omega))
      · exact dT.fr (nc _ _ (by omega)) (nm _ _ (by omega)) (nm _ _ (by omega))
  · rw [ey12, if_neg h0] at hcc
    subst hcc
    exact f1.wr (WC.rf _) w2 (fun z => absurd z h0)
/-! lines that are told once; numbers -/
def kb (x s : Int32) : Int32 := x ||| ((1 : Int32) <<< (s &&& 31))
theorem withBit1 (x s : Int32) (v : St) : F_X7_withBit x s 1 v = kb x s := by
  simp only [F_X7_withBit, xl_d, kb]
  rw [if_neg (by decide)]
theorem tell_t : ∀ n : Nat, n < 16 → ∀ j : Nat, j < 4 → (((Int32.ofNat n &&& Int32.ofNat (2 ^ j)).toInt = 0 ↔ (((Int32.ofNat n <<< 7) >>> (Int32.ofNat (j + 7) &&& 31)) &&& 1).toInt = 0) ∧ kb (Int32.ofNat n <<< 7) (Int32.ofNat (j + 7)) = (Int32.ofNat n ||| Int32.ofNat (2 ^ j)) <<< 7 ∧ (0 ≤ (Int32.ofNat n ||| Int32.ofNat (2 ^ j)).toInt ∧ (Int32.ofNat n ||| Int32.ofNat (2 ^ j)).toInt ≤ 15) ∧ ((Int32.ofNat n ||| Int32.ofNat (2 ^ j)).toInt < 8 → (Int32.ofNat n).toInt < 8) ∧ (j = 3 → (Int32.ofNat n &&& Int32.ofNat (2 ^ j)).toInt = 0 → (Int32.ofNat n).toInt < 8) ∧ (j = 3 → ¬ (Int32.ofNat n ||| Int32.ofNat (2 ^ j)).toInt < 8)) := by decide +kernel
theorem i32_of {x : Int32} {n : Nat} (h : x.toInt = n) (hn : n < 2147483648) : x = Int32.ofNat n := Int32.toInt_inj.mp (by rw [Int32.toInt_ofNat_of_lt (by omega)]; exact h)
/-- what the reference does with a line that may come once -/
def toldM (y : Int32) (m : St) : St := up1 (F_X8_needs 0 (if ((m.1 0 9 >>> (y &&& 31)) &&& 1).toInt = 0 then 1 else 0) 4 m) 0 9 (kb (m.1 0 9) y)
/-- no plan yet, if it's the plan that is told -/
def DTl (j : Nat) (c m : St) : Prop := Dr c m ∧ (j = 3 → (m.1 4 32).toInt = 0 ∧ ¬ (c.1 1 7).toInt < 8)
theorem DTl_stb (j : Nat) : Stb (DTl j) := fun _ _ _ _ hc hm h => ⟨h.1.tk hc hm, fun z => by rw [hm 4 32 (by omega), hc 1 7 (by omega)]; exact h.2 z⟩
theorem RT.tell {q : Int} {B : Int → Int} {L : Int} {c m : St} (h : RT q Dr B L c m) {a y : Int32} {j : Nat} (hj : j < 4) (ha : a = Int32.ofNat (2 ^ j)) (hy : y = Int32.ofNat (j + 7)) : RT q (DTl j) B L (F_X5_tellOnce 1 a c) (toldM y m) := by
  have key : ∀ c m : St, Dr c m → ((c.1 1 7 &&& a).toInt = 0 ↔ ((m.1 0 9 >>> (y &&& 31)) &&& 1).toInt = 0) ∧ kb (m.1 0 9) y = (c.1 1 7 ||| a) <<< 7 ∧ (0 ≤ (c.1 1 7 ||| a).toInt ∧ (c.1 1 7 ||| a).toInt ≤ 15) ∧ ((c.1 1 7 ||| a).toInt < 8 → (c.1 1 7).toInt < 8) ∧ (j = 3 → (c.1 1 7 &&& a).toInt = 0 → (c.1 1 7).toInt < 8) ∧ (j = 3 → ¬ (c.1 1 7 ||| a).toInt < 8) := by
    intro c m hd
    obtain ⟨q1, q2, q3⟩ := hd.2.2.2.2.1
    obtain ⟨n, hn⟩ := Int.eq_ofNat_of_zero_le q2
    have t := tell_t n (by omega) j hj
    rw [q1, i32_of (n := n) hn (by omega), ha, hy]
    exact t
  have ex : F_X5_tellOnce 1 a c = up1 (if (c.1 1 7 &&& a).toInt = 0 then c else F_X5_refuse 1 4 (c.1 1 4) c) 1 7 (c.1 1 7 ||| a) := by
    simp only [F_X5_tellOnce, xl_d]
    by_cases z : (c.1 1 7 &&& a).toInt = 0
    · rw [if_pos z, if_pos z]
    · rw [if_neg z, if_neg z]
      by_cases f : (c.1 1 8).toInt = 0
      · rw [refC f, up1_n _ _ (Or.inr (by decide)), up1_n _ _ (Or.inr (by decide))]
      · rw [refC_x f]
  have c1 : (1 : Int32).toInt = 1 := rfl
  have c0 : (0 : Int32).toInt = 0 := rfl
  rw [ex]
  unfold toldM
  have hk := h.chk (D2 := fun c2 m2 => Dr c2 m2 ∧ c2.1 1 7 = c.1 1 7 ∧ m2.1 0 9 = m.1 0 9 ∧ (c.1 1 7 &&& a).toInt = 0 ∧ Dr c m) (p := (c.1 1 7 &&& a).toInt = 0) (ip := inferInstance) (z := if ((m.1 0 9 >>> (y &&& 31)) &&& 1).toInt = 0 then 1 else 0) (e := 4) (e2 := 4) (by decide) (by decide) (fun _ _ hd => by
    rw [(key c m hd).1]
    split <;> omega) (fun _ hd z => ⟨hd, rfl, rfl, z, hd⟩)
  refine hk.wr (WC.up (by omega)) (WM.up (by omega)) (fun _ hd => ?_)
  obtain ⟨⟨dS, dW, dF, dP, dT⟩, s1, s2, s3, hd0⟩ := hd
  obtain ⟨-, k2, k3, k4, k5, k6⟩ := key c m hd0
  generalize (if (c.1 1 7 &&& a).toInt = 0 then c else F_X5_refuse 1 4 (c.1 1 4) c) = cx at *
  generalize F_X8_needs 0 (if ((m.1 0 9 >>> (y &&& 31)) &&& 1).toInt = 0 then 1 else 0) 4 m = mx at *
  have nc : ∀ x z : Nat, (x ≠ 1 ∨ z ≠ 7) → (up1 cx 1 7 (c.1 1 7 ||| a)).1 x z = cx.1 x z := fun x z w => up1_n _ _ w
  have nm : ∀ x z : Nat, (x ≠ 0 ∨ z ≠ 9) → (up1 mx 0 9 (kb (m.1 0 9) y)).1 x z = mx.1 x z := fun x z w => up1_n _ _ w
  refine ⟨⟨?_, ?_, ?_, ?_, ?_⟩, fun z => ?_⟩
  · exact dS.fr (fun b => ⟨nc _ _ (by omega), nc _ _ (by omega), nc _ _ (by omega), nc _ _ (by omega)⟩) (nm _ _ (by omega)) (fun b _ => nm _ _ (by omega))
  · exact dW.fr (fun b => ⟨nc _ _ (by omega), nc _ _ (by omega)⟩) (nm _ _ (by omega)) (fun b _ _ => nm _ _ (by omega))
  · exact dF.fr (fun b _ _ => nc _ _ (by omega)) (fun b => nc _ _ (by omega)) (fun b _ _ => nm _ _ (by omega))
  · exact dP.fr ⟨nc _ _ (by omega), nc _ _ (by omega)⟩ (fun b => nc _ _ (by omega)) (nm _ _ (by omega)) (nm _ _ (by omega)) (fun b _ _ => nm _ _ (by omega))
  · refine ⟨⟨by rw [up1_s, up1_s]; exact k2, by rw [up1_s]; exact k3.1, by rw [up1_s]; exact k3.2⟩, fun z => ?_⟩
    rw [up1_s] at z
    rw [nm 4 32 (by omega)]
    exact dT.2 (by rw [s1]; exact k4 z)
  · rw [nm 4 32 (by omega), up1_s]
    exact ⟨dT.2 (by rw [s1]; exact k5 z s3), k6 z⟩
/-- a plain number of the draft -/
theorem Dr.num {c m : St} (h : Dr c m) {ka ja jb : Nat} (x : Int32) (hj : (ka = 3 ∧ ja = 8 ∧ jb = 24) ∨ (ka = 3 ∧ ja = 9 ∧ jb = 25) ∨ (ka = 3 ∧ ja = 10 ∧ jb = 26) ∨ (ka = 8 ∧ ja = 3 ∧ jb = 27 ∧ 0 ≤ x.toInt ∧ x.toInt ≤ 99) ∨ (ka = 3 ∧ ja = 11 ∧ jb = 28)) : Dr (up1 c ka ja x) (up1 m 4 jb x) := by
  obtain ⟨dS, dW, dF, dP, dT⟩ := h
  have nc : ∀ a b : Nat, (a ≠ ka ∨ b ≠ ja) → (up1 c ka ja x).1 a b = c.1 a b := fun a b w => up1_n _ _ w
  have nm : ∀ a b : Nat, (a ≠ 4 ∨ b ≠ jb) → (up1 m 4 jb x).1 a b = m.1 a b := fun a b w => up1_n _ _ w
  have sc : (up1 c ka ja x).1 ka ja = x := up1_s _ _ _ _
  have sm : (up1 m 4 jb x).1 4 jb = x := up1_s _ _ _ _
  refine ⟨?_, ?_, ?_, ?_, ?_⟩
  · exact dS.fr (fun b => ⟨nc _ _ (by omega), nc _ _ (by omega), nc _ _ (by omega), nc _ _ (by omega)⟩) (nm _ _ (by omega)) (fun b _ => nm _ _ (by omega))
  · exact dW.fr (fun b => ⟨nc _ _ (by omega), nc _ _ (by omega)⟩) (nm _ _ (by omega)) (fun b _ _ => nm _ _ (by omega))
  · obtain ⟨q1, q2, q3, q4, q5, q6, q7, q8, q9, q10⟩ := dF
    rcases hj with ⟨rfl, rfl, rfl⟩ | ⟨rfl, rfl, rfl⟩ | ⟨rfl, rfl, rfl⟩ | ⟨rfl, rfl, rfl, hx⟩ | ⟨rfl, rfl, rfl⟩
    · refine ⟨?_, ?_, ?_, ?_, ?_, ?_, ?_, ?_, ?_, ?_⟩
      all_goals first | (rw [sc, sm]; done) | (simp only [nc _ _ (show (3 : Nat) ≠ 3 ∨ (7 : Nat) ≠ 8 by decide), nc _ _ (show (3 : Nat) ≠ 3 ∨ (9 : Nat) ≠ 8 by decide), nc _ _ (show (3 : Nat) ≠ 3 ∨ (10 : Nat) ≠ 8 by decide), nc _ _ (show (3 : Nat) ≠ 3 ∨ (11 : Nat) ≠ 8 by decide), nc _ _ (show (3 : Nat) ≠ 3 ∨ (17 : Nat) ≠ 8 by decide), nc 8 0 (by decide), nc 8 1 (by decide), nc 8 2 (by decide), nc 8 3 (by decide), nm 4 23 (by decide), nm 4 25 (by decide), nm 4 26 (by decide), nm 4 27 (by decide), nm 4 28 (by decide), nm 4 29 (by decide), nm 4 30 (by decide), nm 4 31 (by decide), nm 4 41 (by decide)]; assumption)
    · refine ⟨?_, ?_, ?_, ?_, ?_, ?_, ?_, ?_, ?_, ?_⟩
      all_goals first | (rw [sc, sm]; done) | (simp only [nc 3 7 (by decide), nc 3 8 (by decide), nc 3 10 (by decide), nc 3 11 (by decide), nc 3 17 (by decide), nc 8 0 (by decide), nc 8 1 (by decide), nc 8 2 (by decide), nc 8 3 (by decide), nm 4 23 (by decide), nm 4 24 (by decide), nm 4 26 (by decide), nm 4 27 (by decide), nm 4 28 (by decide), nm 4 29 (by decide), nm 4 30 (by decide), nm 4 31 (by decide), nm 4 41 (by decide)]; assumption)
    · refine ⟨?_, ?_, ?_, ?_, ?_, ?_, ?_, ?_, ?_, ?_⟩
      all_goals first | (rw [sc, sm]; done) | (simp only [nc 3 7 (by decide), nc 3 8 (by decide), nc 3 9 (by decide), nc 3 11 (by decide), nc 3 17 (by decide), nc 8 0 (by decide), nc 8 1 (by decide), nc 8 2 (by decide), nc 8 3 (by decide), nm 4 23 (by decide), nm 4 24 (by decide), nm 4 25 (by decide), nm 4 27 (by decide), nm 4 28 (by decide), nm 4 29 (by decide), nm 4 30 (by decide), nm 4 31 (by decide), nm 4 41 (by decide)]; assumption)
    · refine ⟨?_, ?_, ?_, ?_, ⟨by rw [sc, sm], by rw [sm]; exact hx.1, by rw [sm]; exact hx.2⟩, ?_, ?_, ?_, ?_, ?_⟩
      all_goals (simp only [nc 3 7 (by decide), nc 3 8 (by decide), nc 3 9 (by decide), nc 3 10 (by decide), nc 3 11 (by decide), nc 3 17 (by decide), nc 8 0 (by decide), nc 8 1 (by decide), nc 8 2 (by decide), nm 4 23 (by decide), nm 4 24 (by decide), nm 4 25 (by decide), nm 4 26 (by decide), nm 4 28 (by decide), nm 4 29 (by decide), nm 4 30 (by decide), nm 4 31 (by decide), nm 4 41 (by decide)]; assumption)
    · refine ⟨?_, ?_, ?_, ?_, ?_, ?_, ?_, ?_, ?_, ?_⟩
      all_goals first | (rw [sc, sm]; done) | (simp only [nc 3 7 (by decide), nc 3 8 (by decide), nc 3 9 (by decide), nc 3 10 (by decide), nc 3 17 (by decide), nc 8 0 (by decide), nc 8 1 (by decide), nc 8 2 (by decide), nc 8 3 (by decide), nm 4 23 (by decide), nm 4 24 (by decide), nm 4 25 (by decide), nm 4 26 (by decide), nm 4 27 (by decide), nm 4 29 (by decide), nm 4 30 (by decide), nm 4 31 (by decide), nm 4 41 (by decide)]; assumption)
  · exact dP.fr ⟨nc _ _ (by omega), nc _ _ (by omega)⟩ (fun b => nc _ _ (by omega)) (nm _ _ (by omega)) (nm _ _ (by omega)) (fun b _ _ => nm _ _ (by omega))
  · exact dT.fr (nc _ _ (by omega)) (nm _ _ (by omega)) (nm _ _ (by omega))
/-- a number is read into a plain place of the draft -/
theorem RA.put {q : Int} {B : Int → Int} {L : Int} (hB : okB B L) {c m : St} (h : RA q Dr B L c m) (a b : Int32) {ka ja jb : Nat} (hj : (ka = 3 ∧ ja = 8 ∧ jb = 24) ∨ (ka = 3 ∧ ja = 9 ∧ jb = 25) ∨ (ka = 3 ∧ ja = 10 ∧ jb = 26) ∨ (ka = 8 ∧ ja = 3 ∧ jb = 27 ∧ a.toInt = 0 ∧ b.toInt = 99)) : RA q Dr B L (up1 (F_X5_takeNumber 1 a b c).2 ka ja (F_X5_takeNumber 1 a b c).1) (up1 (F_X8_readNumber 0 a b m).2 4 jb (F_X8_readNumber 0 a b m).1) := by
  obtain ⟨a1, a2, a3, a4, a5, a6⟩ := h.rnum Dr_stb hB a b
  rcases hj with ⟨rfl, rfl, rfl⟩ | ⟨rfl, rfl, rfl⟩ | ⟨rfl, rfl, rfl⟩ | ⟨rfl, rfl, rfl, h0, h9⟩
  · refine a1.wr (WC.up (by omega)) (WM.up (by omega)) (fun z hd => ?_)
    rw [(a4 z).1]
    have := (a4 z).2
    exact hd.num _ (Or.inl ⟨rfl, rfl, rfl⟩)
  · refine a1.wr (WC.up (by omega)) (WM.up (by omega)) (fun z hd => ?_)
    rw [(a4 z).1]
    have := (a4 z).2
    exact hd.num _ (Or.inr (Or.inl ⟨rfl, rfl, rfl⟩))
  · refine a1.wr (WC.up (by omega)) (WM.up (by omega)) (fun z hd => ?_)
    rw [(a4 z).1]
    have := (a4 z).2
    exact hd.num _ (Or.inr (Or.inr (Or.inl ⟨rfl, rfl, rfl⟩)))
  · refine a1.wr (WC.up (by omega)) (WM.up (by omega)) (fun z hd => ?_)
    rw [(a4 z).1]
    have := (a4 z).2
    exact hd.num _ (Or.inr (Or.inr (Or.inr (Or.inl ⟨rfl, rfl, rfl, by omega, by omega⟩))))
def wellC (c : St) : St :=
  xm (F_X5_takeNumber 1 1 40 c) fun r3 u4 => xl (up1 u4 3 8 r3) fun v6 => xm (F_X5_takeNumber 1 0 9 v6) fun r7 u8 => xl (up1 u8 3 9 r7) fun v10 => F_X5_takeStop 1 v10
def windC (c : St) : St := xm (F_X5_takeNumber 1 0 10 c) fun r3 u4 => xl (up1 u4 3 10 r3) fun v6 => F_X5_takeStop 1 v6
def waterC (c : St) : St := xm (F_X5_takeNumber 1 0 99 c) fun r3 u4 => xl (up1 u4 8 3 r3) fun v6 => F_X5_takeStop 1 v6
theorem readWellC (c : St) : F_X5_readWell 1 c = wellC (F_X5_tellOnce 1 1 c) := by simp only [F_X5_readWell, wellC, xl_d, xm_d, Nat.reduceAdd]
theorem readWindC (c : St) : F_X5_readWind 1 c = windC (F_X5_tellOnce 1 2 c) := by simp only [F_X5_readWind, windC, xl_d, xm_d, Nat.reduceAdd]
theorem readWaterC (c : St) : F_X5_readWater 1 c = waterC (F_X5_tellOnce 1 4 c) := by simp only [F_X5_readWater, waterC, xl_d, xm_d, Nat.reduceAdd]
theorem RA.dr {j : Nat} {q : Int} {B : Int → Int} {L : Int} {c m : St} (h : RA q (DTl j) B L c m) : RA q Dr B L c m := h.wr (WC.rf c) (WM.rf m) (fun _ z => z.1)
theorem ln_well {q : Int} {B : Int → Int} {L : Int} (hB : okB B L) (c m : St) (h : RA q (DTl 0) B L c m) : RT q Dr B L (wellC c) (stM (F_X8_readLineOf 0 7 m)) := by
  have A1 := h.dr.put hB 1 40 (ka := 3) (ja := 8) (jb := 24) (by omega)
  have A2 := A1.put hB 0 9 (ka := 3) (ja := 9) (jb := 25) (by omega)
  have e : F_X8_readLineOf 0 7 m = up1 (F_X8_readNumber 0 0 9 (up1 (F_X8_readNumber 0 1 40 m).2 4 24 (F_X8_readNumber 0 1 40 m).1)).2 4 25 (F_X8_readNumber 0 0 9 (up1 (F_X8_readNumber 0 1 40 m).2 4 24 (F_X8_readNumber 0 1 40 m).1)).1 := by
    simp only [F_X8_readLineOf, xl_d, xm_d, Nat.reduceAdd]
    rw [if_neg (by decide), if_neg (by decide), if_neg (by decide), if_pos (by decide)]
    rfl
  rw [e]
  simp only [wellC, xl_d, xm_d]
  exact (A2.stop Dr_stb hB).1
theorem ln_wind {q : Int} {B : Int → Int} {L : Int} (hB : okB B L) (c m : St) (h : RA q (DTl 1) B L c m) : RT q Dr B L (windC c) (stM (F_X8_readLineOf 0 8 m)) := by
  have A1 := h.dr.put hB 0 10 (ka := 3) (ja := 10) (jb := 26) (by omega)
  have e : F_X8_readLineOf 0 8 m = up1 (F_X8_readNumber 0 0 10 m).2 4 26 (F_X8_readNumber 0 0 10 m).1 := by
    simp only [F_X8_readLineOf, xl_d, xm_d, Nat.reduceAdd]
    rw [if_neg (by decide), if_neg (by decide), if_neg (by decide), if_neg (by decide), if_pos (by decide)]
    rfl
  rw [e]
  simp only [windC, xl_d, xm_d]
  exact (A1.stop Dr_stb hB).1
theorem ln_water {q : Int} {B : Int → Int} {L : Int} (hB : okB B L) (c m : St) (h : RA q (DTl 2) B L c m) : RT q Dr B L (waterC c) (stM (F_X8_readLineOf 0 9 m)) := by
  have c9 : (99 : Int32).toInt = 99 := rfl
  have c0 : (0 : Int32).toInt = 0 := rfl
  have A1 := h.dr.put hB 0 99 (ka := 8) (ja := 3) (jb := 27) (by omega)
  have e : F_X8_readLineOf 0 9 m = up1 (F_X8_readNumber 0 0 99 m).2 4 27 (F_X8_readNumber 0 0 99 m).1 := by
    simp only [F_X8_readLineOf, xl_d, xm_d, Nat.reduceAdd]
    rw [if_neg (by decide), if_neg (by decide), if_neg (by decide), if_neg (by decide), if_neg (by decide), if_pos (by decide)]
    rfl
  rw [e]
  simp only [waterC, xl_d, xm_d]
  exact (A1.stop Dr_stb hB).1
/-! known, cloud -/
def knC (y : Int32) (v : St) : St := xl (F_X5_takeStop 1 v) fun u1 => if (u1.1 1 8).toInt = 0 then up1 u1 3 4 (kb (u1.1 3 4) y) else u1
def clC (y : Int32) (v : St) : St := xl (F_X5_takeStop 1 v) fun u1 => if (u1.1 1 8).toInt = 0 then up1 u1 3 11 (kb (u1.1 3 11) y) else u1
theorem bit01 (x : Int32) : (x &&& 1).toInt = 0 ∨ (x &&& 1).toInt = 1 := by
  have := anI (x := x) (y := 1) (b := 1) rfl (by decide)
  omega
theorem isKn (k : Nat) (a : Int32) (v : St) : (F_X0_isKnown k a v).toInt = 0 ↔ ((v.1 k 4 >>> (a &&& 31)) &&& 1).toInt = 0 := by
  have c1 : (1 : Int32).toInt = 1 := rfl
  have c0 : (0 : Int32).toInt = 0 := rfl
  have hb := bit01 (v.1 k 4 >>> (a &&& 31))
  simp only [F_X0_isKnown, xl_d]
  split <;> omega
theorem isCl (k : Nat) (a : Int32) (v : St) : (F_X0_isCloudy k a v).toInt = 0 ↔ ((v.1 k 11 >>> (a &&& 31)) &&& 1).toInt = 0 := by
  have c1 : (1 : Int32).toInt = 1 := rfl
  have c0 : (0 : Int32).toInt = 0 := rfl
  have hb := bit01 (v.1 k 11 >>> (a &&& 31))
  simp only [F_X0_isCloudy, xl_d]
  split <;> omega
theorem readKnownC (c : St) : F_X5_readKnown 1 c = (let q := F_X5_takeNumber 1 0 4 c; knC q.1 (if ¬ (q.2.1 1 8).toInt = 0 ∨ ((q.2.1 3 4 >>> (q.1 &&& 31)) &&& 1).toInt = 0 then q.2 else F_X5_refuse 1 4 (q.2.1 1 4) q.2)) := by
  simp only [F_X5_readKnown, xl_d, xm_d, Nat.reduceAdd, withBit1]
  generalize F_X5_takeNumber 1 0 4 c = q
  by_cases z : (q.2.1 1 8).toInt = 0
  · rw [if_pos z]
    by_cases w : ((q.2.1 3 4 >>> (q.1 &&& 31)) &&& 1).toInt = 0
    · rw [if_pos ((isKn 3 q.1 q.2).mpr w), if_pos (Or.inr w)]
      simp only [knC, xl_d]
    · have nn : ¬ (¬ (q.2.1 1 8).toInt = 0 ∨ ((q.2.1 3 4 >>> (q.1 &&& 31)) &&& 1).toInt = 0) := fun y => by
        rcases y with y | y
        · exact y z
        · exact w y
      rw [if_neg (fun y => w ((isKn 3 q.1 q.2).mp y)), if_neg nn]
      simp only [knC, xl_d]
  · rw [if_neg z, if_pos (Or.inl z)]
    simp only [knC, xl_d]
theorem readCloudC (c : St) : F_X5_readCloud 1 c = (let q := F_X5_takeNumber 1 0 9 c; clC q.1 (if ¬ (q.2.1 1 8).toInt = 0 ∨ ((q.2.1 3 11 >>> (q.1 &&& 31)) &&& 1).toInt = 0 then q.2 else F_X5_refuse 1 4 (q.2.1 1 4) q.2)) := by
  simp only [F_X5_readCloud, xl_d, xm_d, Nat.reduceAdd, withBit1]
  generalize F_X5_takeNumber 1 0 9 c = q
  by_cases z : (q.2.1 1 8).toInt = 0
  · rw [if_pos z]
    by_cases w : ((q.2.1 3 11 >>> (q.1 &&& 31)) &&& 1).toInt = 0
    · rw [if_pos ((isCl 3 q.1 q.2).mpr w), if_pos (Or.inr w)]
      simp only [clC, xl_d]
    · have nn : ¬ (¬ (q.2.1 1 8).toInt = 0 ∨ ((q.2.1 3 11 >>> (q.1 &&& 31)) &&& 1).toInt = 0) := fun y => by
        rcases y with y | y
        · exact y z
        · exact w y
      rw [if_neg (fun y => w ((isCl 3 q.1 q.2).mp y)), if_neg nn]
      simp only [clC, xl_d]
  · rw [if_neg z, if_pos (Or.inl z)]
    simp only [clC, xl_d]
/-- what the class will still do when the line has ended -/
def DKn (y : Int32) (c m : St) : Prop := Dr (up1 c 3 4 (kb (c.1 3 4) y)) m
def DCl (y : Int32) (c m : St) : Prop := Dr (up1 c 3 11 (kb (c.1 3 11) y)) m
theorem FC.up {c c2 : St} {k j : Nat} {x : Int32} (h : FC c c2) : FC (up1 c k j x) (up1 c2 k j x) := fun a b z => by
  by_cases e : a = k ∧ b = j
  · obtain ⟨rfl, rfl⟩ := e
    rw [up1_s, up1_s]
  · rw [up1_n _ _ (by omega), up1_n _ _ (by omega)]
    exact h a b z
theorem DKn_stb (y : Int32) : Stb (DKn y) := fun c m c2 m2 hc hm h => by
  unfold DKn at h ⊢
  rw [hc 3 4 (by omega)]
  exact h.tk hc.up hm
theorem DCl_stb (y : Int32) : Stb (DCl y) := fun c m c2 m2 hc hm h => by
  unfold DCl at h ⊢
  rw [hc 3 11 (by omega)]
  exact h.tk hc.up hm
theorem kb_t : ∀ k : Nat, k < 32 → ∀ s : Nat, s < 5 → (0 ≤ (kb (Int32.ofNat k) (Int32.ofNat s)).toInt ∧ (kb (Int32.ofNat k) (Int32.ofNat s)).toInt ≤ 31) ∧ ∀ t : Nat, t < 6 → ((kb (Int32.ofNat k) (Int32.ofNat s)).toInt < ((2 ^ t : Nat) : Int) ↔ ((Int32.ofNat k).toInt < ((2 ^ t : Nat) : Int) ∧ s < t)) := by decide +kernel
theorem Dr.known {c m : St} (h : Dr c m) {y hi : Int32} (hy : 0 ≤ y.toInt ∧ y.toInt ≤ 4) (hh : hi.toInt = if (m.1 0 10).toInt < y.toInt then y.toInt else (m.1 0 10).toInt) : DKn y c (up1 (up1 m 0 8 (kb (m.1 0 8) y)) 0 10 hi) := by
  obtain ⟨dS, dW, dF, dP, dT⟩ := h
  obtain ⟨p1, ⟨p2, p3⟩, p4, p5⟩ := dP
  unfold DKn
  have nc : ∀ a b : Nat, (a ≠ 3 ∨ b ≠ 4) → (up1 c 3 4 (kb (c.1 3 4) y)).1 a b = c.1 a b := fun a b w => up1_n _ _ w
  have nm : ∀ a b : Nat, (a ≠ 0 ∨ (b ≠ 8 ∧ b ≠ 10)) → (up1 (up1 m 0 8 (kb (m.1 0 8) y)) 0 10 hi).1 a b = m.1 a b := fun a b w => by rw [up1_n _ _ (by omega), up1_n _ _ (by omega)]
  have m8 : (up1 (up1 m 0 8 (kb (m.1 0 8) y)) 0 10 hi).1 0 8 = kb (m.1 0 8) y := by rw [up1_n _ _ (by omega), up1_s]
  have m10 : (up1 (up1 m 0 8 (kb (m.1 0 8) y)) 0 10 hi).1 0 10 = hi := up1_s _ _ _ _
  obtain ⟨k, hk⟩ := Int.eq_ofNat_of_zero_le p3.1
  obtain ⟨s, hs⟩ := Int.eq_ofNat_of_zero_le hy.1
  have t := kb_t k (by omega) s (by omega)
  rw [← i32_of (x := m.1 0 8) hk (by omega), ← i32_of (x := y) hs (by omega)] at t
  refine ⟨?_, ?_, ?_, ?_, ?_⟩
  · exact dS.fr (fun b => ⟨nc _ _ (by omega), nc _ _ (by omega), nc _ _ (by omega), nc _ _ (by omega)⟩) (nm _ _ (by omega)) (fun b _ => nm _ _ (by omega))
  · exact dW.fr (fun b => ⟨nc _ _ (by omega), nc _ _ (by omega)⟩) (nm _ _ (by omega)) (fun b _ _ => nm _ _ (by omega))
  · exact dF.fr (fun b _ _ => nc _ _ (by omega)) (fun b => nc _ _ (by omega)) (fun b _ _ => nm _ _ (by omega))
  · refine ⟨by rw [nc 3 14 (by omega), nm 4 32 (by omega)]; exact p1, ⟨by rw [up1_s, m8, p2], by rw [m8]; exact t.1⟩, fun i hi2 => ?_, fun u hu => ?_⟩
    · rw [nm 4 32 (by omega)] at hi2
      rw [nc 9 i (by omega), nm 4 _ (by omega)]
      exact p4 i hi2
    · rw [m10, m8, nm 4 32 (by omega), t.2 u (by omega)]
      have := p5 u hu
      have e : ∀ i : Nat, (up1 (up1 m 0 8 (kb (m.1 0 8) y)) 0 10 hi).1 4 (33 + i) = m.1 4 (33 + i) := fun i => nm 4 _ (by omega)
      simp only [e]
      constructor
      · intro z
        have z1 : (m.1 0 10).toInt < (u : Int) := by rw [hh] at z; split at z <;> omega
        have z2 : y.toInt < (u : Int) := by rw [hh] at z; split at z <;> omega
        exact ⟨⟨(this.mp z1).1, by omega⟩, (this.mp z1).2⟩
      · intro z
        have z1 := this.mpr ⟨z.1.1, z.2⟩
        have z2 := z.1.2
        rw [hh]
        split <;> omega
  · exact dT.fr (nc _ _ (by omega)) (nm _ _ (by omega)) (nm _ _ (by omega))
theorem ln_known {q : Int} {B : Int → Int} {L : Int} (hB : okB B L) (c m : St) (h : RA q Dr B L c m) : RT q Dr B L (F_X5_readKnown 1 c) (stM (F_X8_readLineOf 0 5 m)) := by
  have c1 : (1 : Int32).toInt = 1 := rfl
  have c0 : (0 : Int32).toInt = 0 := rfl
  have c4 : (4 : Int32).toInt = 4 := rfl
  have e0 : F_X8_readLineOf 0 5 m = F_X8_readKnown 0 m := by
    simp only [F_X8_readLineOf, xl_d, xm_d]
    rw [if_neg (by decide), if_pos (by decide)]
  rw [e0, readKnownC]
  generalize hmm : F_X8_readKnown 0 m = mm
  unfold F_X8_readKnown at hmm
  obtain ⟨J67, e67, hmm⟩ := xl_e hmm
  obtain ⟨J64, e64, hmm⟩ := xl_e hmm
  obtain ⟨J31, e31, hmm⟩ := xl_e hmm
  obtain ⟨r13, u14, eq, hmm⟩ := xm_e hmm
  obtain ⟨a1, a2, a3, a4, a5, a6⟩ := h.num Dr_stb hB 0 4
  generalize F_X5_takeNumber 1 0 4 c = q at a1 a2 a4 a5 a6 ⊢
  obtain ⟨r, cc⟩ := q
  rw [← eq] at a1 a3 a4 a6
  simp only at a1 a2 a3 a4 a5 a6 ⊢
  simp only [xl_d] at hmm
  have E67 : ∀ x : St, J67 x = F_X8_next1 0 x := fun x => by rw [e67]; simp only [xl_d]
  have E64 : ∀ (z : Int32) (x : St), J64 z x = F_X8_next1 0 (up1 x 0 10 z) := fun z x => by rw [e64]; simp only [xl_d]; rw [E67]
  have E31 : ∀ (y z : Int32) (x : St), J31 y z x = F_X8_next1 0 (up1 (up1 (F_X8_needs 0 z 4 x) 0 8 (kb ((F_X8_needs 0 z 4 x).1 0 8) y)) 0 10 (if ((F_X8_needs 0 z 4 x).1 0 10).toInt < y.toInt then y else (F_X8_needs 0 z 4 x).1 0 10)) := fun y z x => by
    rw [e31]
    simp only [xl_d]
    rw [E64, E64, up1_n _ _ (Or.inr (by decide))]
    unfold kb
    split <;> rfl
  by_cases h0 : (cc.1 1 8).toInt = 0
  · obtain ⟨b1, b2⟩ := a4 h0
    have hfm : (u14.1 0 17).toInt = 0 := by
      rcases a1.2 with z | z
      · exact absurd h0 z.1
      · exact z.2.1
    rw [if_pos hfm] at hmm
    have hz : ∃ z : Int32, (¬ z.toInt = 0 ↔ ((u14.1 0 8 >>> (r13 &&& 31)) &&& 1).toInt = 0) ∧ J31 r13 z u14 = mm := by
      by_cases w : ((u14.1 0 8 >>> (r13 &&& 31)) &&& 1).toInt = 0
      · rw [if_pos w] at hmm
        exact ⟨1, by omega, hmm⟩
      · rw [if_neg w] at hmm
        exact ⟨0, by omega, hmm⟩
    obtain ⟨z, hz, hmm⟩ := hz
    rw [E31] at hmm
    have hk := a1.chk (D2 := Dr) (p := ¬ (cc.1 1 8).toInt = 0 ∨ ((cc.1 3 4 >>> (r &&& 31)) &&& 1).toInt = 0) (ip := inferInstance) (z := z) (e := 4) (e2 := 4) (by decide) (by decide) (fun _ _ hd => by
      rw [hz, b1, hd.2.2.2.1.2.1.1]
      constructor
      · intro w
        rcases w with w | w
        · exact absurd h0 w
        · exact w
      · exact Or.inr) (fun _ hd _ => hd)
    rw [← b1] at b2
    generalize (if ¬ (cc.1 1 8).toInt = 0 ∨ ((cc.1 3 4 >>> (r &&& 31)) &&& 1).toInt = 0 then cc else F_X5_refuse 1 4 (cc.1 1 4) cc) = c3 at hk ⊢
    generalize F_X8_needs 0 z 4 u14 = m3 at hk hmm
    have hw : RT q (DKn r) B L c3 (up1 (up1 m3 0 8 (kb (m3.1 0 8) r13)) 0 10 (if (m3.1 0 10).toInt < r13.toInt then r13 else m3.1 0 10)) := by
      refine hk.wr (WC.rf c3) ((WM.up (by omega)).tr (WM.up (by omega))) (fun _ hd => ?_)
      rw [← b1]
      refine hd.known ⟨by omega, by omega⟩ ?_
      split <;> rfl
    have hA := (hw.s.next (DKn_stb r) hB).1
    rw [hmm] at hA
    obtain ⟨g1, g2, g3, g4⟩ := hA.stop (DKn_stb r) hB
    simp only [knC, xl_d]
    generalize F_X5_takeStop 1 c3 = c4 at g1 ⊢
    by_cases q : (c4.1 1 8).toInt = 0
    · rw [if_pos q]
      exact g1.wr (WC.up (by omega)) (WM.rf _) (fun _ hd => hd)
    · rw [if_neg q]
      exact g1.wr (WC.rf _) (WM.rf _) (fun w => absurd w q)
  · have hfl : Fl cc u14 := by
      rcases a1.2 with z | z
      · exact z
      · exact absurd z.1 h0
    rw [if_neg (by have := hfl.2.1; omega), E67, nextM_x hfl.2.1] at hmm
    subst hmm
    rw [if_pos (Or.inl h0), stM_x hfl.2.1]
    simp only [knC, F_X5_takeStop, xl_d]
    rw [takeC_x h0, needC_x h0, if_neg h0]
    exact a1
theorem ln_cloud {q : Int} {B : Int → Int} {L : Int} (hB : okB B L) (c m : St) (h : RA q Dr B L c m) : RT q Dr B L (F_X5_readCloud 1 c) (stM (F_X8_readLineOf 0 6 m)) := by
  have c1 : (1 : Int32).toInt = 1 := rfl
  have c0 : (0 : Int32).toInt = 0 := rfl
  have n28 : (28 : Int32).toNatClampNeg = 28 := rfl
  have e0 : F_X8_readLineOf 0 6 m = F_X8_readCloud 0 m := by
    simp only [F_X8_readLineOf, xl_d, xm_d]
    rw [if_neg (by decide), if_neg (by decide), if_pos (by decide)]
  rw [e0, readCloudC]
  generalize hmm : F_X8_readCloud 0 m = mm
  unfold F_X8_readCloud at hmm
  rw [n28] at hmm
  obtain ⟨J52, e52, hmm⟩ := xl_e hmm
  obtain ⟨J35, e35, hmm⟩ := xl_e hmm
  obtain ⟨r13, u14, eq, hmm⟩ := xm_e hmm
  obtain ⟨a1, a2, a3, a4, a5, a6⟩ := h.num Dr_stb hB 0 9
  generalize F_X5_takeNumber 1 0 9 c = q at a1 a2 a4 a5 a6 ⊢
  obtain ⟨r, cc⟩ := q
  rw [← eq] at a1 a3 a4 a6
  simp only at a1 a2 a3 a4 a5 a6 ⊢
  simp only [xl_d, Nat.reduceAdd] at hmm
  have E52 : ∀ x : St, J52 x = F_X8_next1 0 x := fun x => by rw [e52]; simp only [xl_d]
  have E35 : ∀ (y z : Int32) (x : St), J35 y z x = F_X8_next1 0 (up1 (F_X8_needs 0 z 4 x) 4 28 (kb ((F_X8_needs 0 z 4 x).1 4 28) y)) := fun y z x => by
    rw [e35]
    simp only [xl_d, Nat.reduceAdd]
    rw [E52]
    rfl
  by_cases h0 : (cc.1 1 8).toInt = 0
  · obtain ⟨b1, b2⟩ := a4 h0
    have hfm : (u14.1 0 17).toInt = 0 := by
      rcases a1.2 with z | z
      · exact absurd h0 z.1
      · exact z.2.1
    rw [if_pos hfm] at hmm
    have hz : ∃ z : Int32, (¬ z.toInt = 0 ↔ ((u14.1 4 28 >>> (r13 &&& 31)) &&& 1).toInt = 0) ∧ J35 r13 z u14 = mm := by
      by_cases w : ((u14.1 4 28 >>> (r13 &&& 31)) &&& 1).toInt = 0
      · rw [if_pos w] at hmm
        exact ⟨1, by omega, hmm⟩
      · rw [if_neg w] at hmm
        exact ⟨0, by omega, hmm⟩
    obtain ⟨z, hz, hmm⟩ := hz
    rw [E35] at hmm
    have hk := a1.chk (D2 := Dr) (p := ¬ (cc.1 1 8).toInt = 0 ∨ ((cc.1 3 11 >>> (r &&& 31)) &&& 1).toInt = 0) (ip := inferInstance) (z := z) (e := 4) (e2 := 4) (by decide) (by decide) (fun _ _ hd => by
      rw [hz, b1, hd.2.2.1.2.2.2.2.2.1]
      constructor
      · intro w
        rcases w with w | w
        · exact absurd h0 w
        · exact w
      · exact Or.inr) (fun _ hd _ => hd)
    generalize (if ¬ (cc.1 1 8).toInt = 0 ∨ ((cc.1 3 11 >>> (r &&& 31)) &&& 1).toInt = 0 then cc else F_X5_refuse 1 4 (cc.1 1 4) cc) = c3 at hk ⊢
    generalize F_X8_needs 0 z 4 u14 = m3 at hk hmm
    have hw : RT q (DCl r) B L c3 (up1 m3 4 28 (kb (m3.1 4 28) r13)) := by
      refine hk.wr (WC.rf c3) (WM.up (by omega)) (fun _ hd => ?_)
      unfold DCl
      rw [← b1, hd.2.2.1.2.2.2.2.2.1]
      exact hd.num _ (by omega)
    have hA := (hw.s.next (DCl_stb r) hB).1
    rw [hmm] at hA
    obtain ⟨g1, g2, g3, g4⟩ := hA.stop (DCl_stb r) hB
    simp only [clC, xl_d]
    generalize F_X5_takeStop 1 c3 = c4 at g1 ⊢
    by_cases q : (c4.1 1 8).toInt = 0
    · rw [if_pos q]
      exact g1.wr (WC.up (by omega)) (WM.rf _) (fun _ hd => hd)
    · rw [if_neg q]
      exact g1.wr (WC.rf _) (WM.rf _) (fun w => absurd w q)
  · have hfl : Fl cc u14 := by
      rcases a1.2 with z | z
      · exact z
      · exact absurd z.1 h0
    rw [if_neg (by have := hfl.2.1; omega), E52, nextM_x hfl.2.1] at hmm
    subst hmm
    rw [if_pos (Or.inl h0), stM_x hfl.2.1]
    simp only [clC, F_X5_takeStop, xl_d]
    rw [takeC_x h0, needC_x h0, if_neg h0]
    exact a1
/-! the plan -/
theorem RT.nd3 {D : St → St → Prop} {q : Int} {B : Int → Int} {L : Int} {c m : St} (h : RT q D B L c m) : RT q D B L (F_X5_need 1 3 c) (stM m) := by
  have c2 : (2 : Int32).toInt = 2 := rfl
  have c3 : (3 : Int32).toInt = 3 := rfl
  unfold stM
  obtain ⟨hT, h | ⟨h0, h1, hTT, hD⟩⟩ := h
  · rw [needC_x h.1, if_neg (by have := h.2.1; omega)]
    exact ⟨hT, Or.inl h⟩
  · rw [if_pos h1]
    obtain ⟨t1, t2, t3⟩ := id hTT
    by_cases hk : (m.1 0 15).toInt = 3
    · rw [if_pos hk, needC_ok (by omega)]
      exact ⟨hT, Or.inr ⟨h0, h1, hTT, hD⟩⟩
    · rw [if_neg hk, needC_no (by omega), refC h0]
      exact ⟨hT.fr FC.rf89 FM.rf78, Or.inl (Fl.new (by omega) (by omega) t2)⟩
theorem lookM_x {a b : Int32} {m : St} (h : ¬ (m.1 0 17).toInt = 0) : F_X8_looked 0 a b m = (0, m) := by rw [lookM, if_neg h]
def aimC (v : St) : St := if ((F_X5_needWithin 1 0 6 v).1 1 8).toInt = 0 then (if (F_X0_addAim 3 ((F_X5_needWithin 1 0 6 v).1 1 6) (F_X5_needWithin 1 0 6 v)).1.toInt = 0 then F_X5_refuse 1 5 ((F_X0_addAim 3 ((F_X5_needWithin 1 0 6 v).1 1 6) (F_X5_needWithin 1 0 6 v)).2.1 1 4) (F_X0_addAim 3 ((F_X5_needWithin 1 0 6 v).1 1 6) (F_X5_needWithin 1 0 6 v)).2 else (F_X0_addAim 3 ((F_X5_needWithin 1 0 6 v).1 1 6) (F_X5_needWithin 1 0 6 v)).2) else F_X5_needWithin 1 0 6 v
def planP (self : Int32 → St → St) (y : Int32) (v : St) : St := if 8 < y.toInt then F_X5_need 1 3 v else (if (v.1 1 8).toInt = 0 then (if (v.1 1 3).toInt = 2 then self (y + 1) (F_X5_takeToken 1 (aimC v)) else F_X5_need 1 3 v) else F_X5_need 1 3 v)
def planC (v0 c : St) : St := lp planP (fun _ _ => v0) ((2147483647 - (0 : Int32).toInt).toNat + 1) 0 (F_X5_takeToken 1 c)
theorem readPlanC (c : St) : F_X5_readPlan 1 c = planC c (F_X5_tellOnce 1 8 c) := by
  generalize hu : F_X5_readPlan 1 c = u
  unfold F_X5_readPlan at hu
  obtain ⟨J80, e80, hu⟩ := xl_e hu
  obtain ⟨P12, e12, hu⟩ := xl_e hu
  simp only [xl_d] at hu
  have ep : P12 = planP := by
    funext self y v
    rw [e12]
    have E80 : ∀ x : St, J80 x = F_X5_need 1 3 x := fun x => by rw [e80]; simp only [xl_d]
    simp only [xl_d, xm_d, E80, planP, aimC, Nat.reduceAdd]
    repeat' split
    all_goals rfl
  rw [ep] at hu
  rw [← hu]
  rfl
def aimM (v : St) : St :=
  if ((F_X8_looked 0 0 6 (F_X8_needs 0 (if (v.1 4 32).toInt < 8 then 1 else 0) 5 v)).2.1 0 17).toInt = 0 then
    up1 (up1 (up1 (F_X8_looked 0 0 6 (F_X8_needs 0 (if (v.1 4 32).toInt < 8 then 1 else 0) 5 v)).2 4 ((33 : Int32) + (F_X8_looked 0 0 6 (F_X8_needs 0 (if (v.1 4 32).toInt < 8 then 1 else 0) 5 v)).2.1 4 32).toNatClampNeg (F_X8_looked 0 0 6 (F_X8_needs 0 (if (v.1 4 32).toInt < 8 then 1 else 0) 5 v)).1) 4 32 ((up1 (F_X8_looked 0 0 6 (F_X8_needs 0 (if (v.1 4 32).toInt < 8 then 1 else 0) 5 v)).2 4 ((33 : Int32) + (F_X8_looked 0 0 6 (F_X8_needs 0 (if (v.1 4 32).toInt < 8 then 1 else 0) 5 v)).2.1 4 32).toNatClampNeg (F_X8_looked 0 0 6 (F_X8_needs 0 (if (v.1 4 32).toInt < 8 then 1 else 0) 5 v)).1).1 4 32 + 1)) 0 10 (if (F_X8_looked 0 0 6 (F_X8_needs 0 (if (v.1 4 32).toInt < 8 then 1 else 0) 5 v)).1.toInt < 5 ∧ ((F_X8_looked 0 0 6 (F_X8_needs 0 (if (v.1 4 32).toInt < 8 then 1 else 0) 5 v)).2.1 0 10).toInt < (F_X8_looked 0 0 6 (F_X8_needs 0 (if (v.1 4 32).toInt < 8 then 1 else 0) 5 v)).1.toInt then (F_X8_looked 0 0 6 (F_X8_needs 0 (if (v.1 4 32).toInt < 8 then 1 else 0) 5 v)).1 else (F_X8_looked 0 0 6 (F_X8_needs 0 (if (v.1 4 32).toInt < 8 then 1 else 0) 5 v)).2.1 0 10)
  else (F_X8_looked 0 0 6 (F_X8_needs 0 (if (v.1 4 32).toInt < 8 then 1 else 0) 5 v)).2
def planM (self : St → St) (v : St) : St := if (v.1 0 17).toInt = 0 then (if (v.1 0 15).toInt = 2 then self (F_X8_next1 0 (aimM v)) else v) else v
theorem readPlanM (m : St) : F_X8_readPlan 0 m = lp planM (fun _ => m) (tm (m.1 0 13).toInt (m.1 0 17).toInt (m.1 0 15).toInt + 1) m := by
  generalize hu : F_X8_readPlan 0 m = u
  unfold F_X8_readPlan at hu
  have n32 : (32 : Int32).toNatClampNeg = 32 := rfl
  rw [n32] at hu
  obtain ⟨P0, e0, hu⟩ := xl_e hu
  have ep : P0 = planM := by
    funext self v
    generalize hy : P0 self v = y
    rw [e0] at hy
    obtain ⟨J104, e104, hy⟩ := xl_e hy
    obtain ⟨J101, e101, hy⟩ := xl_e hy
    obtain ⟨J97, e97, hy⟩ := xl_e hy
    obtain ⟨J33, e33, hy⟩ := xl_e hy
    have E104 : ∀ x : St, J104 x = self (F_X8_next1 0 x) := fun x => by rw [e104]; simp only [xl_d]
    have E101 : ∀ (z : Int32) (x : St), J101 z x = self (F_X8_next1 0 (up1 x 0 10 z)) := fun z x => by rw [e101]; simp only [xl_d]; rw [E104]
    have E97 : ∀ x : St, J97 x = self (F_X8_next1 0 (up1 x 0 10 (x.1 0 10))) := fun x => by rw [e97]; simp only [xl_d]; rw [E101]
    simp only [xl_d, Nat.reduceAdd] at hy
    unfold planM
    by_cases h1 : (v.1 0 17).toInt = 0
    · rw [if_pos h1] at hy ⊢
      by_cases h2 : (v.1 0 15).toInt = 2
      · rw [if_pos h2] at hy ⊢
        have hy2 : J33 (if (v.1 4 32).toInt < 8 then 1 else 0) v = y := by
          by_cases w : (v.1 4 32).toInt < 8
          · rw [if_pos w] at hy ⊢; exact hy
          · rw [if_neg w] at hy ⊢; exact hy
        rw [e33] at hy2
        simp only [xl_d, xm_d, Nat.reduceAdd] at hy2
        unfold aimM
        generalize F_X8_looked 0 0 6 (F_X8_needs 0 (if (v.1 4 32).toInt < 8 then 1 else 0) 5 v) = qq at hy2 ⊢
        by_cases h3 : (qq.2.1 0 17).toInt = 0
        · rw [if_pos h3] at hy2 ⊢
          rw [E101, E97] at hy2
          have x10 : ∀ (x1 x2 : Int32) (i : Nat), (up1 (up1 qq.2 4 i x1) 4 32 x2).1 0 10 = qq.2.1 0 10 := fun x1 x2 i => by rw [up1_n _ _ (by omega), up1_n _ _ (by omega)]
          rw [x10] at hy2
          rw [← hy2]
          by_cases w1 : qq.1.toInt < 5
          · rw [if_pos w1]
            by_cases w2 : (qq.2.1 0 10).toInt < qq.1.toInt
            · rw [if_pos w2, if_pos ⟨w1, w2⟩]
            · rw [if_neg w2, if_neg (fun z => w2 z.2)]
          · rw [if_neg w1, if_neg (fun z => w1 z.1)]
        · rw [if_neg h3, E104] at hy2
          rw [if_neg h3]
          exact hy2.symm
      · rw [if_neg h2] at hy ⊢; exact hy.symm
    · rw [if_neg h1] at hy ⊢; exact hy.symm
  rw [ep] at hu
  exact hu.symm
def Dpl (i : Nat) (c m : St) : Prop := Dr c m ∧ (m.1 4 32).toInt = (i : Int) ∧ ¬ (c.1 1 7).toInt < 8
theorem Dpl_stb (i : Nat) : Stb (Dpl i) := fun _ _ _ _ hc hm h => ⟨h.1.tk hc hm, by rw [hm 4 32 (by omega)]; exact h.2.1, by rw [hc 1 7 (by omega)]; exact h.2.2⟩
theorem Dpl.aim {i : Nat} {c m : St} (h : Dpl i c m) (hi : i < 8) {x n hh : Int32} {ii : Nat} (hx : 0 ≤ x.toInt ∧ x.toInt ≤ 6) (hn : n.toInt = (i : Int) + 1) (hii : ii = 33 + i) (hhh : hh.toInt = if x.toInt < 5 ∧ (m.1 0 10).toInt < x.toInt then x.toInt else (m.1 0 10).toInt) : Dpl (i + 1) (up1 (up1 c 9 i x) 3 14 n) (up1 (up1 (up1 m 4 ii x) 4 32 n) 0 10 hh) := by
  obtain ⟨⟨dS, dW, dF, dP, dT⟩, h1, h2⟩ := h
  obtain ⟨p1, p2, p4, p5⟩ := dP
  subst hii
  have nc : ∀ a b : Nat, (a ≠ 9 ∧ (a ≠ 3 ∨ b ≠ 14)) → (up1 (up1 c 9 i x) 3 14 n).1 a b = c.1 a b := fun a b w => by rw [up1_n _ _ (by omega), up1_n _ _ (by omega)]
  have nm : ∀ a b : Nat, ((a ≠ 4 ∨ (b ≠ 32 ∧ b ≠ 33 + i)) ∧ (a ≠ 0 ∨ b ≠ 10)) → (up1 (up1 (up1 m 4 (33 + i) x) 4 32 n) 0 10 hh).1 a b = m.1 a b := fun a b w => by rw [up1_n _ _ (by omega), up1_n _ _ (by omega), up1_n _ _ (by omega)]
  have m32 : (up1 (up1 (up1 m 4 (33 + i) x) 4 32 n) 0 10 hh).1 4 32 = n := by rw [up1_n _ _ (by omega), up1_s]
  have m10 : (up1 (up1 (up1 m 4 (33 + i) x) 4 32 n) 0 10 hh).1 0 10 = hh := up1_s _ _ _ _
  have mi : (up1 (up1 (up1 m 4 (33 + i) x) 4 32 n) 0 10 hh).1 4 (33 + i) = x := by rw [up1_n _ _ (by omega), up1_n _ _ (by omega), up1_s]
  have mj : ∀ j : Nat, j ≠ i → (up1 (up1 (up1 m 4 (33 + i) x) 4 32 n) 0 10 hh).1 4 (33 + j) = m.1 4 (33 + j) := fun j w => nm _ _ (by omega)
  refine ⟨⟨?_, ?_, ?_, ?_, ?_⟩, by rw [m32, hn]; omega, by rw [nc 1 7 (by omega)]; exact h2⟩
  · exact dS.fr (fun b => ⟨nc _ _ (by omega), nc _ _ (by omega), nc _ _ (by omega), nc _ _ (by omega)⟩) (nm _ _ (by omega)) (fun b _ => nm _ _ (by omega))
  · exact dW.fr (fun b => ⟨nc _ _ (by omega), nc _ _ (by omega)⟩) (nm _ _ (by omega)) (fun b _ _ => nm _ _ (by omega))
  · exact dF.fr (fun b _ _ => nc _ _ (by omega)) (fun b => nc _ _ (by omega)) (fun b _ _ => nm _ _ (by omega))
  · refine ⟨⟨by rw [m32, up1_s], by rw [m32]; omega, by rw [m32]; omega⟩, by rw [nc 3 4 (by omega), nm 0 8 (by omega)]; exact p2, fun j hj => ?_, fun s hs => ?_⟩
    · rw [m32] at hj
      by_cases e : j = i
      · subst e
        rw [mi, up1_n _ _ (by omega), up1_s]
        exact ⟨rfl, hx⟩
      · rw [mj j e, up1_n _ _ (by omega), up1_n _ _ (by omega)]
        exact p4 j (by omega)
    · rw [m10, nm 0 8 (by omega), m32, hn]
      have old := p5 s hs
      constructor
      · intro z
        have z1 : (m.1 0 10).toInt < (s : Int) := by rw [hhh] at z; split at z <;> omega
        refine ⟨(old.mp z1).1, fun j hj hj5 => ?_⟩
        by_cases e : j = i
        · subst e
          rw [mi] at hj5 ⊢
          rw [hhh] at z
          split at z <;> omega
        · rw [mj j e] at hj5 ⊢
          exact (old.mp z1).2 j (by omega) hj5
      · intro z
        have z1 := old.mpr ⟨z.1, fun j hj hj5 => by
          have := z.2 j (by omega)
          rw [mj j (by omega)] at this
          exact this hj5⟩
        have z2 := z.2 i (by omega)
        rw [mi] at z2
        rw [hhh]
        split <;> omega
  · refine ⟨by rw [nc 1 7 (by omega), nm 0 9 (by omega)]; exact dT.1, fun z => ?_⟩
    rw [nc 1 7 (by omega)] at z
    exact absurd z h2
theorem RT.aim {q : Int} {B : Int → Int} {L : Int} {i : Nat} {c m : St} (h : RT q (Dpl i) B L c m) (h0 : (c.1 1 8).toInt = 0) (hk : (m.1 0 15).toInt = 2) : RT q (Dpl (i + 1)) B L (aimC c) (aimM m) := by
  have c0 : (0 : Int32).toInt = 0 := rfl
  have c6 : (6 : Int32).toInt = 6 := rfl
  have c5 : (5 : Int32).toInt = 5 := rfl
  have c3 : (3 : Int32).toInt = 3 := rfl
  have c1 : (1 : Int32).toInt = 1 := rfl
  obtain ⟨hT, h | ⟨-, h1, hTT, hd⟩⟩ := h
  · exact absurd h0 h.1
  · obtain ⟨t1, t2, t3, t4, t5, t6, t7⟩ := id hTT
    obtain ⟨v1, v2, v3⟩ := t7 hk
    have hp := hd.1.2.2.2.1.1
    have hpi := hd.2.1
    unfold aimC aimM
    rw [wiC, v1]
    by_cases hi : i < 8
    · rw [if_pos (show (m.1 4 32).toInt < 8 by omega), neeM_o (show ¬ (1 : Int32).toInt = 0 by decide), lookM, if_pos h1, if_pos hk]
      by_cases hv : (0 : Int32).toInt ≤ (m.1 0 16).toInt ∧ (m.1 0 16).toInt ≤ (6 : Int32).toInt
      · rw [if_pos hv, if_pos hv]
        simp only
        have ea : F_X0_addAim 3 (c.1 1 6) c = (1, up1 (up1 c 9 (c.1 3 14).toNatClampNeg (c.1 1 6)) 3 14 (c.1 3 14 + 1)) := by
          simp only [F_X0_addAim, xl_d, Nat.reduceAdd]
          rw [if_pos (by rw [hp.1]; omega)]
        rw [if_pos h0, ea, if_pos h1]
        simp only
        rw [if_neg (by decide), up1_n _ _ (Or.inr (by
          have e33 : ((33 : Int32) + m.1 4 32).toInt = 33 + (m.1 4 32).toInt := adI rfl rfl (by omega) (by omega)
          have := cnI (x := (33 : Int32) + m.1 4 32) (by omega)
          omega))]
        have e6 : c.1 1 6 = m.1 0 16 := Int32.toInt_inj.mp v1
        rw [e6, hp.1]
        have hcn := cnI (x := m.1 4 32) (by omega)
        have e33 : ((33 : Int32) + m.1 4 32).toInt = 33 + (m.1 4 32).toInt := adI rfl rfl (by omega) (by omega)
        have hcn2 := cnI (x := (33 : Int32) + m.1 4 32) (by omega)
        have e1 : (m.1 4 32 + 1).toInt = (m.1 4 32).toInt + 1 := adI rfl rfl (by omega) (by omega)
        have ei : (m.1 4 32).toNatClampNeg = i := by omega
        rw [ei]
        have hDn := hd.aim hi (x := m.1 0 16) (n := m.1 4 32 + 1) (ii := ((33 : Int32) + m.1 4 32).toNatClampNeg) (hh := if (m.1 0 16).toInt < 5 ∧ (m.1 0 10).toInt < (m.1 0 16).toInt then m.1 0 16 else m.1 0 10) (by omega) (by omega) (by omega) (by split <;> rfl)
        have wc : WC c (up1 (up1 c 9 i (m.1 0 16)) 3 14 (m.1 4 32 + 1)) := (WC.up (by omega)).tr (WC.up (by omega))
        have wm : WM m (up1 (up1 (up1 m 4 ((33 : Int32) + m.1 4 32).toNatClampNeg (m.1 0 16)) 4 32 (m.1 4 32 + 1)) 0 10 (if (m.1 0 16).toInt < 5 ∧ (m.1 0 10).toInt < (m.1 0 16).toInt then m.1 0 16 else m.1 0 10)) := ((WM.up (by omega)).tr (WM.up (by omega))).tr (WM.up (by omega))
        exact ⟨hT.wr wc wm, Or.inr ⟨by rw [wc.1 8 (by omega)]; exact h0, by rw [wm.1 17 (by omega)]; exact h1, hTT.wr wc wm, hDn⟩⟩
      · rw [if_neg hv, if_neg hv, refC h0]
        simp only
        rw [if_neg (by rw [up1_n _ _ (Or.inr (by decide)), up1_s]; omega), if_neg (by rw [up1_n _ _ (Or.inr (by decide)), up1_s]; omega)]
        exact ⟨hT.fr FC.rf89 FM.rf78, Or.inl (Fl.new (by omega) (by omega) t2)⟩
    · rw [if_neg (show ¬ (m.1 4 32).toInt < 8 by omega), neeM h1 (show (0 : Int32).toInt = 0 by decide), lookM_x (show ¬ ((up1 (up1 m 0 17 5) 0 18 (m.1 0 14)).1 0 17).toInt = 0 by rw [up1_n _ _ (Or.inr (by decide)), up1_s]; omega)]
      simp only
      rw [if_neg (show ¬ ((up1 (up1 m 0 17 5) 0 18 (m.1 0 14)).1 0 17).toInt = 0 by rw [up1_n _ _ (Or.inr (by decide)), up1_s]; omega)]
      by_cases hv : (0 : Int32).toInt ≤ (m.1 0 16).toInt ∧ (m.1 0 16).toInt ≤ (6 : Int32).toInt
      · rw [if_pos hv, if_pos h0]
        have ea : F_X0_addAim 3 (c.1 1 6) c = (0, c) := by
          simp only [F_X0_addAim, xl_d, Nat.reduceAdd]
          rw [if_neg (by rw [hp.1]; omega)]
        rw [ea]
        simp only
        rw [if_pos (by decide), refC h0]
        exact ⟨hT.fr FC.rf89 FM.rf78, Or.inl (Fl.new (by omega) (by omega) t2)⟩
      · rw [if_neg hv, refC h0, if_neg (by rw [up1_n _ _ (Or.inr (by decide)), up1_s]; omega)]
        exact ⟨hT.fr FC.rf89 FM.rf78, Or.inl (Fl.new (by omega) (by omega) t2)⟩
theorem tm_0 {p f s : Int} (hf : f = 0) (hs : ¬ s = 0) : 1 ≤ p ∨ True → p ≤ 160 → 1 ≤ tm p f s := fun _ hp => by
  unfold tm
  rw [if_pos ⟨hf, hs⟩]
  omega
theorem RA.plan {B : Int → Int} {L : Int} {q : Int} (hB : okB B L) (v0 w0 : St) : ∀ (n i : Nat) (y : Int32) (c m : St) (a b : Nat), y.toInt = (i : Int) → i + n = 9 → RT q (Dpl i) B L c m → (2147483647 - y.toInt).toNat < a → 0 < b → ((m.1 0 17).toInt = 0 → tm (m.1 0 13).toInt (m.1 0 17).toInt (m.1 0 15).toInt < b) → RT q Dr B L (lp planP (fun _ _ => v0) a y c) (stM (lp planM (fun _ => w0) b m)) := by
  have hL := hB.2.1
  intro n
  induction n with
  | zero =>
    intro i y c m a b hy hin h ha hb hm
    obtain ⟨a, rfl⟩ : ∃ k, a = k + 1 := ⟨a - 1, by omega⟩
    obtain ⟨b, rfl⟩ : ∃ k, b = k + 1 := ⟨b - 1, by omega⟩
    obtain ⟨hT, h | ⟨h0, h1, hTT, hd⟩⟩ := h
    · rw [lp_s, lp_s]
      unfold planP planM
      rw [if_pos (by omega), needC_x h.1, if_neg (by have := h.2.1; omega), stM_x h.2.1]
      exact ⟨hT, Or.inl h⟩
    · have := hd.1.2.2.2.1.1
      have := hd.2.1
      omega
  | succ n ih =>
    intro i y c m a b hy hin h ha hb hm
    obtain ⟨a, rfl⟩ : ∃ k, a = k + 1 := ⟨a - 1, by omega⟩
    obtain ⟨b, rfl⟩ : ∃ k, b = k + 1 := ⟨b - 1, by omega⟩
    rw [lp_s, lp_s]
    generalize hsc : lp planP (fun _ _ => v0) a = sc
    generalize hsm : lp planM (fun _ => w0) b = sm
    unfold planP planM
    rw [if_neg (by omega)]
    by_cases h0 : (c.1 1 8).toInt = 0
    · have h1 : (m.1 0 17).toInt = 0 := by
        rcases h.2 with z | z
        · exact absurd h0 z.1
        · exact z.2.1
      have hTT : TT q B L c m := by
        rcases h.2 with z | z
        · exact absurd h0 z.1
        · exact z.2.2.1
      rw [if_pos h0, if_pos h1]
      by_cases hk : (m.1 0 15).toInt = 2
      · rw [if_pos (by rw [hTT.1]; exact hk), if_pos hk]
        have hbd := h.aim h0 hk
        have hp : (m.1 0 13).toInt = (c.1 1 5).toInt := hTT.2.2.1.symm
        have hA := (hbd.s.next (Dpl_stb (i + 1)) hB).1
        have hR := (hA.take (Dpl_stb (i + 1)) hB).1
        have hr2 := hTT.2.2.2.1
        -- where the reference stands then
        have hq : ((F_X8_next1 0 (aimM m)).1 0 17).toInt = 0 → (m.1 0 13).toInt ≤ ((F_X8_next1 0 (aimM m)).1 0 13).toInt ∧ ((F_X8_next1 0 (aimM m)).1 0 13).toInt ≤ 160 ∧ (¬ ((F_X8_next1 0 (aimM m)).1 0 15).toInt = 0 → (m.1 0 13).toInt < ((F_X8_next1 0 (aimM m)).1 0 13).toInt) := by
          intro z
          rcases hA.2 with w | w
          · have := w.2.1; omega
          · obtain ⟨w1, w2, w3, w4⟩ := w
            have e5 : (aimC c).1 1 5 = c.1 1 5 := by
              rcases hbd.2 with u | u
              · exact absurd w1 u.1
              · have : ((aimC c).1 1 5).toInt = (c.1 1 5).toInt := by
                  have k1 := u.2.2.1.2.2.1
                  have k2 : (aimM m).1 0 13 = m.1 0 13 := by
                    unfold aimM
                    by_cases g1 : (m.1 4 32).toInt < 8
                    · rw [if_pos g1, neeM_o (show ¬ (1 : Int32).toInt = 0 by decide), lookM, if_pos h1, if_pos hk]
                      by_cases g2 : (0 : Int32).toInt ≤ (m.1 0 16).toInt ∧ (m.1 0 16).toInt ≤ (6 : Int32).toInt
                      · rw [if_pos g2]
                        simp only
                        rw [if_pos h1, up1_n _ _ (by omega), up1_n _ _ (by omega), up1_n _ _ (by omega)]
                      · rw [if_neg g2]
                        simp only
                        rw [if_neg (by rw [up1_n _ _ (Or.inr (by decide)), up1_s]; decide), up1_n _ _ (Or.inr (by decide)), up1_n _ _ (Or.inr (by decide))]
                    · rw [if_neg g1, neeM h1 (show (0 : Int32).toInt = 0 by decide), lookM_x (show ¬ ((up1 (up1 m 0 17 5) 0 18 (m.1 0 14)).1 0 17).toInt = 0 by rw [up1_n _ _ (Or.inr (by decide)), up1_s]; decide)]
                      simp only
                      rw [if_neg (show ¬ ((up1 (up1 m 0 17 5) 0 18 (m.1 0 14)).1 0 17).toInt = 0 by rw [up1_n _ _ (Or.inr (by decide)), up1_s]; decide), up1_n _ _ (Or.inr (by decide)), up1_n _ _ (Or.inr (by decide))]
                  rw [k1, k2, hp]
                exact Int32.toInt_inj.mp this
            rw [e5, ← hp] at w2 w3
            have hs := skp_r hB w2.1 w2.2.1
            have hqq := rq_r hB (f := skp B (m.1 0 13).toInt) (by omega) hs.2.1
            have nb : ¬ bad B (skp B (m.1 0 13).toInt) := fun u => by have := (w3.2.1 u).1; omega
            have g := w3.2.2 nb
            refine ⟨by omega, by omega, fun u => ?_⟩
            have := hqq.2.2 (fun w => u (by rw [g.2.1]; exact kd_n w))
            omega
        rw [← hsc, ← hsm]
        have ey : (y + 1).toInt = y.toInt + 1 := adI rfl rfl (by omega) (by omega)
        have hmm := hm h1
        have htm := tm_0 (p := (m.1 0 13).toInt) h1 (show ¬ (m.1 0 15).toInt = 0 by omega) (Or.inr trivial) (by omega)
        refine ih (i + 1) (y + 1) _ _ a b (by omega) (by omega) hR (by omega) (by omega) (fun z => ?_)
        obtain ⟨g1, g2, g3⟩ := hq z
        exact Nat.lt_of_lt_of_le (tm_lt h1 (show ¬ (m.1 0 15).toInt = 0 by omega) g1 g2 (fun _ w => g3 w)) (Nat.le_of_lt_succ hmm)
      · rw [if_neg (by rw [hTT.1]; exact hk), if_neg hk]
        exact (h.wr (WC.rf c) (WM.rf m) (fun _ z => z.1)).nd3
    · rw [if_neg h0, needC_x h0]
      have hf : Fl c m := by
        rcases h.2 with z | z
        · exact z
        · exact absurd z.1 h0
      rw [if_neg (by have := hf.2.1; omega), stM_x hf.2.1]
      exact ⟨h.1, Or.inl hf⟩
theorem ln_plan {q : Int} {B : Int → Int} {L : Int} (hB : okB B L) (v0 : St) (c m : St) (h : RA q (DTl 3) B L c m) : RT q Dr B L (planC v0 c) (stM (F_X8_readLineOf 0 10 m)) := by
  have e0 : F_X8_readLineOf 0 10 m = F_X8_readPlan 0 m := by
    simp only [F_X8_readLineOf, xl_d, xm_d]
    rw [if_neg (by decide), if_neg (by decide), if_neg (by decide), if_neg (by decide), if_neg (by decide), if_neg (by decide), if_pos (by decide)]
  have h2 : RA q (Dpl 0) B L c m := h.wr (WC.rf c) (WM.rf m) (fun _ z => ⟨z.1, (z.2 rfl).1, (z.2 rfl).2⟩)
  have h3 := (h2.take (Dpl_stb 0) hB).1
  rw [e0, readPlanM]
  unfold planC
  obtain ⟨N, hN⟩ : ∃ N : Nat, N = (2147483647 - (0 : Int32).toInt).toNat := ⟨_, rfl⟩
  rw [← hN]
  exact RA.plan hB v0 m 9 0 0 _ m (N + 1) _ rfl rfl h3 (by rw [← hN]; exact Nat.lt_succ_self N) (Nat.succ_pos _) (fun _ => Nat.lt_succ_self _)
/-! names -/
theorem isNm {c : St} {B : Int → Int} (hb : BC 1 c = B) {i : Nat} (hi : i < 11) (hk : (c.1 1 3).toInt = 1) (hf : 0 ≤ (c.1 1 4).toInt ∧ (c.1 1 4).toInt ≤ (c.1 1 5).toInt ∧ (c.1 1 5).toInt ≤ 160) : (¬ (F_X5_isName 1 i c).toInt = 0) ↔ ((c.1 1 5).toInt = (c.1 1 4).toInt + (sln.getD i 0 : Nat) ∧ ∀ j : Nat, j < sln.getD i 0 → B ((c.1 1 4).toInt + (j : Int)) = (chz i j).toInt) := by
  have c0 : (0 : Int32).toInt = 0 := rfl
  have c1 : (1 : Int32).toInt = 1 := rfl
  have hsl := sl_rng i hi
  generalize hu : F_X5_isName 1 i c = u
  unfold F_X5_isName at hu
  obtain ⟨N, hN⟩ : ∃ N : Nat, N = (2147483647 - (0 : Int32).toInt).toNat := ⟨_, rfl⟩
  rw [← hN] at hu
  simp only [xl_d] at hu
  rw [if_pos hk] at hu
  have hs : (c.1 1 5 - c.1 1 4).toInt = (c.1 1 5).toInt - (c.1 1 4).toInt := sbI rfl rfl (by omega) (by omega)
  rw [hs] at hu
  by_cases hl : (c.1 1 5).toInt - (c.1 1 4).toInt = (sln.getD i 0 : Nat)
  · rw [if_pos hl] at hu
    generalize hP : (fun (self : Int32 → Int32) (y : Int32) => if y.toInt < (sln.getD i 0 : Nat) then (if (F_X5_byteAt 1 (c.1 1 4 + y) c).toInt = (chz i y.toNatClampNeg).toInt then self (y + 1) else (0 : Int32)) else (1 : Int32)) = P at hu
    have Lp : ∀ (n : Nat) (y : Int32), (2147483647 - y.toInt).toNat < n → 0 ≤ y.toInt → y.toInt ≤ (sln.getD i 0 : Nat) → ((¬ (lp P (fun _ => (0 : Int32)) n y).toInt = 0) ↔ ∀ j : Nat, y.toInt ≤ (j : Int) → j < sln.getD i 0 → B ((c.1 1 4).toInt + (j : Int)) = (chz i j).toInt) := by
      intro n
      induction n with
      | zero => intro y hm; exact absurd hm (Nat.not_lt_zero _)
      | succ n ih =>
        intro y hm h0 h1
        rw [lp_s]
        generalize hsf : lp P (fun _ => (0 : Int32)) n = sf at ih
        rw [← hP]
        simp only
        have ea : (c.1 1 4 + y).toInt = (c.1 1 4).toInt + y.toInt := adI rfl rfl (by omega) (by omega)
        have hby := byC 1 (c.1 1 4 + y) c
        rw [hb, ea] at hby
        have hcn := cnI (x := y) h0
        rw [hby]
        by_cases d : y.toInt < (sln.getD i 0 : Nat)
        · rw [if_pos d]
          by_cases e : B ((c.1 1 4).toInt + y.toInt) = (chz i y.toNatClampNeg).toInt
          · rw [if_pos e]
            have ey : (y + 1).toInt = y.toInt + 1 := adI rfl rfl (by omega) (by omega)
            rw [ih (y + 1) (by omega) (by omega) (by omega)]
            constructor
            · intro z j hj1 hj2
              by_cases ej : j = y.toNatClampNeg
              · rw [ej, hcn]; exact e
              · exact z j (by omega) hj2
            · intro z j hj1 hj2
              exact z j (by omega) hj2
          · rw [if_neg e]
            constructor
            · intro z; exact absurd rfl z
            · intro z
              exfalso
              have := z y.toNatClampNeg (by omega) (by omega)
              rw [hcn] at this
              exact e this
        · rw [if_neg d]
          constructor
          · intro _ j hj1 hj2; omega
          · intro _; decide
    have := Lp (N + 1) 0 (by rw [← hN]; exact Nat.lt_succ_self N) (by omega) (by omega)
    rw [hu] at this
    rw [this]
    constructor
    · intro z
      exact ⟨by omega, fun j hj => z j (by omega) hj⟩
    · intro z j _ hj
      exact z.2 j hj
  · rw [if_neg hl] at hu
    constructor
    · intro z; exact absurd (by rw [← hu]; rfl) z
    · intro z; omega
def n4 (B : Int → Int) (f b a0 a1 a2 a3 : Int) : Prop := b = f + 4 ∧ B f = a0 ∧ B (f + 1) = a1 ∧ B (f + 2) = a2 ∧ B (f + 3) = a3
def n5 (B : Int → Int) (f b a0 a1 a2 a3 a4 : Int) : Prop := b = f + 5 ∧ B f = a0 ∧ B (f + 1) = a1 ∧ B (f + 2) = a2 ∧ B (f + 3) = a3 ∧ B (f + 4) = a4
theorem isN4 {c : St} {B : Int → Int} (hb : BC 1 c = B) {i : Nat} (hi : i < 11) (hl : sln.getD i 0 = 4) (hk : (c.1 1 3).toInt = 1) (hf : 0 ≤ (c.1 1 4).toInt ∧ (c.1 1 4).toInt ≤ (c.1 1 5).toInt ∧ (c.1 1 5).toInt ≤ 160) {a0 a1 a2 a3 : Int} (k0 : (chz i 0).toInt = a0) (k1 : (chz i 1).toInt = a1) (k2 : (chz i 2).toInt = a2) (k3 : (chz i 3).toInt = a3) : (F_X5_isName 1 i c).toInt = 0 ↔ ¬ n4 B (c.1 1 4).toInt (c.1 1 5).toInt a0 a1 a2 a3 := by
  have h := isNm hb hi hk hf
  rw [hl] at h
  unfold n4
  have z0 : (c.1 1 4).toInt + ((0 : Nat) : Int) = (c.1 1 4).toInt := by omega
  have z1 : (c.1 1 4).toInt + ((1 : Nat) : Int) = (c.1 1 4).toInt + 1 := by omega
  have z2 : (c.1 1 4).toInt + ((2 : Nat) : Int) = (c.1 1 4).toInt + 2 := by omega
  have z3 : (c.1 1 4).toInt + ((3 : Nat) : Int) = (c.1 1 4).toInt + 3 := by omega
  constructor
  · intro hz ⟨g, g0, g1, g2, g3⟩
    refine h.mpr ⟨by omega, fun j hj => ?_⟩ hz
    rcases (show j = 0 ∨ j = 1 ∨ j = 2 ∨ j = 3 by omega) with rfl | rfl | rfl | rfl
    · rw [z0, k0]; exact g0
    · rw [z1, k1]; exact g1
    · rw [z2, k2]; exact g2
    · rw [z3, k3]; exact g3
  · intro hz
    refine Decidable.byContradiction (fun w => hz ?_)
    obtain ⟨g, gg⟩ := h.mp w
    refine ⟨by omega, ?_, ?_, ?_, ?_⟩
    · have := gg 0 (by omega); rw [z0, k0] at this; exact this
    · have := gg 1 (by omega); rw [z1, k1] at this; exact this
    · have := gg 2 (by omega); rw [z2, k2] at this; exact this
    · have := gg 3 (by omega); rw [z3, k3] at this; exact this
theorem isN5 {c : St} {B : Int → Int} (hb : BC 1 c = B) {i : Nat} (hi : i < 11) (hl : sln.getD i 0 = 5) (hk : (c.1 1 3).toInt = 1) (hf : 0 ≤ (c.1 1 4).toInt ∧ (c.1 1 4).toInt ≤ (c.1 1 5).toInt ∧ (c.1 1 5).toInt ≤ 160) {a0 a1 a2 a3 a4 : Int} (k0 : (chz i 0).toInt = a0) (k1 : (chz i 1).toInt = a1) (k2 : (chz i 2).toInt = a2) (k3 : (chz i 3).toInt = a3) (k4 : (chz i 4).toInt = a4) : (F_X5_isName 1 i c).toInt = 0 ↔ ¬ n5 B (c.1 1 4).toInt (c.1 1 5).toInt a0 a1 a2 a3 a4 := by
  have h := isNm hb hi hk hf
  rw [hl] at h
  unfold n5
  have z0 : (c.1 1 4).toInt + ((0 : Nat) : Int) = (c.1 1 4).toInt := by omega
  have z1 : (c.1 1 4).toInt + ((1 : Nat) : Int) = (c.1 1 4).toInt + 1 := by omega
  have z2 : (c.1 1 4).toInt + ((2 : Nat) : Int) = (c.1 1 4).toInt + 2 := by omega
  have z3 : (c.1 1 4).toInt + ((3 : Nat) : Int) = (c.1 1 4).toInt + 3 := by omega
  have z4 : (c.1 1 4).toInt + ((4 : Nat) : Int) = (c.1 1 4).toInt + 4 := by omega
  constructor
  · intro hz ⟨g, g0, g1, g2, g3, g4⟩
    refine h.mpr ⟨by omega, fun j hj => ?_⟩ hz
    rcases (show j = 0 ∨ j = 1 ∨ j = 2 ∨ j = 3 ∨ j = 4 by omega) with rfl | rfl | rfl | rfl | rfl
    · rw [z0, k0]; exact g0
    · rw [z1, k1]; exact g1
    · rw [z2, k2]; exact g2
    · rw [z3, k3]; exact g3
    · rw [z4, k4]; exact g4
  · intro hz
    refine Decidable.byContradiction (fun w => hz ?_)
    obtain ⟨g, gg⟩ := h.mp w
    refine ⟨by omega, ?_, ?_, ?_, ?_, ?_⟩
    · have := gg 0 (by omega); rw [z0, k0] at this; exact this
    · have := gg 1 (by omega); rw [z1, k1] at this; exact this
    · have := gg 2 (by omega); rw [z2, k2] at this; exact this
    · have := gg 3 (by omega); rw [z3, k3] at this; exact this
    · have := gg 4 (by omega); rw [z4, k4] at this; exact this
theorem isNx {c : St} (i : Nat) (hk : ¬ (c.1 1 3).toInt = 1) : (F_X5_isName 1 i c).toInt = 0 := by
  simp only [F_X5_isName, xl_d]
  rw [if_neg hk]
  rfl
theorem isM {m : St} {B : Int → Int} (hb : BM 0 m = B) (hf : 0 ≤ (m.1 0 14).toInt ∧ (m.1 0 14).toInt ≤ (m.1 0 13).toInt ∧ (m.1 0 13).toInt ≤ 160) (n a b d : Int32) : (¬ (F_X8_is 0 n a b d m).toInt = 0) ↔ ((m.1 0 13).toInt = (m.1 0 14).toInt + n.toInt ∧ B (m.1 0 14).toInt = a.toInt ∧ B ((m.1 0 14).toInt + 1) = b.toInt ∧ B ((m.1 0 14).toInt + 2) = d.toInt) := by
  have c0 : (0 : Int32).toInt = 0 := rfl
  have c1 : (1 : Int32).toInt = 1 := rfl
  have hs : (m.1 0 13 - m.1 0 14).toInt = (m.1 0 13).toInt - (m.1 0 14).toInt := sbI rfl rfl (by omega) (by omega)
  have e1 : (m.1 0 14 + 1).toInt = (m.1 0 14).toInt + 1 := adI rfl rfl (by omega) (by omega)
  have e2 : (m.1 0 14 + 2).toInt = (m.1 0 14).toInt + 2 := adI rfl rfl (by omega) (by omega)
  have b0 := byM 0 (m.1 0 14) m (by omega)
  have b1 := byM 0 (m.1 0 14 + 1) m (by omega)
  have b2 := byM 0 (m.1 0 14 + 2) m (by omega)
  rw [hb] at b0 b1 b2
  rw [e1] at b1
  rw [e2] at b2
  simp only [F_X8_is, xl_d]
  rw [hs, b0, b1, b2]
  repeat' split
  all_goals omega
theorem endM {m : St} {B : Int → Int} (hb : BM 0 m = B) (hf : 0 ≤ (m.1 0 14).toInt ∧ (m.1 0 14).toInt ≤ (m.1 0 13).toInt ∧ (m.1 0 13).toInt ≤ 160) (a b : Int32) : (¬ (F_X8_ends 0 a b m).toInt = 0) ↔ (B ((m.1 0 14).toInt + 3) = a.toInt ∧ (b.toInt = 0 ∨ B ((m.1 0 14).toInt + 4) = b.toInt)) := by
  have c0 : (0 : Int32).toInt = 0 := rfl
  have c1 : (1 : Int32).toInt = 1 := rfl
  have e1 : (m.1 0 14 + 3).toInt = (m.1 0 14).toInt + 3 := adI rfl rfl (by omega) (by omega)
  have e2 : (m.1 0 14 + 4).toInt = (m.1 0 14).toInt + 4 := adI rfl rfl (by omega) (by omega)
  have b1 := byM 0 (m.1 0 14 + 3) m (by omega)
  have b2 := byM 0 (m.1 0 14 + 4) m (by omega)
  rw [hb] at b1 b2
  rw [e1] at b1
  rw [e2] at b2
  simp only [F_X8_ends, xl_d]
  rw [b1, b2]
  repeat' split
  all_goals omega
theorem if2 {p : Prop} {ip : Decidable p} {a b : Int} {i1 : Decidable (a = 0)} {i2 : Decidable (b = 0)} {α : Type} {x y : α} (h : (¬ a = 0 ∧ ¬ b = 0) ↔ p) : (@ite α (a = 0) i1 x (@ite α (b = 0) i2 x y)) = @ite α p ip y x := by
  by_cases h1 : a = 0
  · rw [if_pos h1, if_neg (fun z => (h.mpr z).1 h1)]
  · rw [if_neg h1]
    by_cases h2 : b = 0
    · rw [if_pos h2, if_neg (fun z => (h.mpr z).2 h2)]
    · rw [if_neg h2, if_pos (h.mp ⟨h1, h2⟩)]
theorem n4M {m : St} {B : Int → Int} (hb : BM 0 m = B) (hf : 0 ≤ (m.1 0 14).toInt ∧ (m.1 0 14).toInt ≤ (m.1 0 13).toInt ∧ (m.1 0 13).toInt ≤ 160) {a b c d : Int32} {a0 a1 a2 a3 : Int} (k0 : a.toInt = a0) (k1 : b.toInt = a1) (k2 : c.toInt = a2) (k3 : d.toInt = a3) : (¬ (F_X8_is 0 4 a b c m).toInt = 0 ∧ ¬ (F_X8_ends 0 d 0 m).toInt = 0) ↔ n4 B (m.1 0 14).toInt (m.1 0 13).toInt a0 a1 a2 a3 := by
  rw [isM hb hf, endM hb hf, k0, k1, k2, k3]
  unfold n4
  have c4 : (4 : Int32).toInt = 4 := rfl
  have c0 : (0 : Int32).toInt = 0 := rfl
  rw [c4]
  constructor
  · intro ⟨⟨z1, z2, z3, z4⟩, z5, _⟩; exact ⟨z1, z2, z3, z4, z5⟩
  · intro ⟨z1, z2, z3, z4, z5⟩; exact ⟨⟨z1, z2, z3, z4⟩, z5, Or.inl c0⟩
theorem n5M {m : St} {B : Int → Int} (hb : BM 0 m = B) (hf : 0 ≤ (m.1 0 14).toInt ∧ (m.1 0 14).toInt ≤ (m.1 0 13).toInt ∧ (m.1 0 13).toInt ≤ 160) {a b c d e : Int32} {a0 a1 a2 a3 a4 : Int} (k0 : a.toInt = a0) (k1 : b.toInt = a1) (k2 : c.toInt = a2) (k3 : d.toInt = a3) (k4 : e.toInt = a4) (ke : ¬ a4 = 0) : (¬ (F_X8_is 0 5 a b c m).toInt = 0 ∧ ¬ (F_X8_ends 0 d e m).toInt = 0) ↔ n5 B (m.1 0 14).toInt (m.1 0 13).toInt a0 a1 a2 a3 a4 := by
  rw [isM hb hf, endM hb hf, k0, k1, k2, k3, k4]
  unfold n5
  have c5 : (5 : Int32).toInt = 5 := rfl
  rw [c5]
  constructor
  · intro ⟨⟨z1, z2, z3, z4⟩, z5, z6⟩; exact ⟨z1, z2, z3, z4, z5, z6.resolve_left ke⟩
  · intro ⟨z1, z2, z3, z4, z5, z6⟩; exact ⟨⟨z1, z2, z3, z4⟩, z5, Or.inr z6⟩
theorem lnM {m : St} {B : Int → Int} (hb : BM 0 m = B) (hf : 0 ≤ (m.1 0 14).toInt ∧ (m.1 0 14).toInt ≤ (m.1 0 13).toInt ∧ (m.1 0 13).toInt ≤ 160) : (n5 B (m.1 0 14).toInt (m.1 0 13).toInt 112 108 97 105 110 → F_X8_lineNow 0 m = 0) ∧ (n4 B (m.1 0 14).toInt (m.1 0 13).toInt 108 97 109 101 → F_X8_lineNow 0 m = 1) ∧ (n5 B (m.1 0 14).toInt (m.1 0 13).toInt 116 105 114 101 100 → F_X8_lineNow 0 m = 2) ∧ (n5 B (m.1 0 14).toInt (m.1 0 13).toInt 103 117 105 100 101 → F_X8_lineNow 0 m = 3) ∧ (n4 B (m.1 0 14).toInt (m.1 0 13).toInt 115 116 97 114 → F_X8_lineNow 0 m = 4) ∧ (n5 B (m.1 0 14).toInt (m.1 0 13).toInt 107 110 111 119 110 → F_X8_lineNow 0 m = 5) ∧ (n5 B (m.1 0 14).toInt (m.1 0 13).toInt 99 108 111 117 100 → F_X8_lineNow 0 m = 6) ∧ (n4 B (m.1 0 14).toInt (m.1 0 13).toInt 119 101 108 108 → F_X8_lineNow 0 m = 7) ∧ (n4 B (m.1 0 14).toInt (m.1 0 13).toInt 119 105 110 100 → F_X8_lineNow 0 m = 8) ∧ (n5 B (m.1 0 14).toInt (m.1 0 13).toInt 119 97 116 101 114 → F_X8_lineNow 0 m = 9) ∧ (n4 B (m.1 0 14).toInt (m.1 0 13).toInt 112 108 97 110 → F_X8_lineNow 0 m = 10) ∧ (¬ n5 B (m.1 0 14).toInt (m.1 0 13).toInt 112 108 97 105 110 → ¬ n4 B (m.1 0 14).toInt (m.1 0 13).toInt 108 97 109 101 → ¬ n5 B (m.1 0 14).toInt (m.1 0 13).toInt 116 105 114 101 100 → ¬ n5 B (m.1 0 14).toInt (m.1 0 13).toInt 103 117 105 100 101 → ¬ n4 B (m.1 0 14).toInt (m.1 0 13).toInt 115 116 97 114 → ¬ n5 B (m.1 0 14).toInt (m.1 0 13).toInt 107 110 111 119 110 → ¬ n5 B (m.1 0 14).toInt (m.1 0 13).toInt 99 108 111 117 100 → ¬ n4 B (m.1 0 14).toInt (m.1 0 13).toInt 119 101 108 108 → ¬ n4 B (m.1 0 14).toInt (m.1 0 13).toInt 119 105 110 100 → ¬ n5 B (m.1 0 14).toInt (m.1 0 13).toInt 119 97 116 101 114 → ¬ n4 B (m.1 0 14).toInt (m.1 0 13).toInt 112 108 97 110 → F_X8_lineNow 0 m = (-4)) := by
  generalize hu : F_X8_lineNow 0 m = u
  unfold F_X8_lineNow at hu
  obtain ⟨J272, e272, hu⟩ := xl_e hu
  obtain ⟨J242, e242, hu⟩ := xl_e hu
  obtain ⟨J215, e215, hu⟩ := xl_e hu
  obtain ⟨J188, e188, hu⟩ := xl_e hu
  obtain ⟨J160, e160, hu⟩ := xl_e hu
  obtain ⟨J133, e133, hu⟩ := xl_e hu
  obtain ⟨J107, e107, hu⟩ := xl_e hu
  obtain ⟨J80, e80, hu⟩ := xl_e hu
  obtain ⟨J53, e53, hu⟩ := xl_e hu
  obtain ⟨J27, e27, hu⟩ := xl_e hu
  simp only [xl_d] at e272
  rw [if2 (ip := Classical.propDecidable _) (n4M hb hf (a := 112) (b := 108) (c := 97) (d := 110) (a0 := 112) (a1 := 108) (a2 := 97) (a3 := 110) rfl rfl rfl rfl )] at e272
  simp only [xl_d] at e242
  rw [if2 (ip := Classical.propDecidable _) (n5M hb hf (a := 119) (b := 97) (c := 116) (d := 101) (e := 114) (a0 := 119) (a1 := 97) (a2 := 116) (a3 := 101) (a4 := 114) rfl rfl rfl rfl rfl (by decide))] at e242
  simp only [xl_d] at e215
  rw [if2 (ip := Classical.propDecidable _) (n4M hb hf (a := 119) (b := 105) (c := 110) (d := 100) (a0 := 119) (a1 := 105) (a2 := 110) (a3 := 100) rfl rfl rfl rfl )] at e215
  simp only [xl_d] at e188
  rw [if2 (ip := Classical.propDecidable _) (n4M hb hf (a := 119) (b := 101) (c := 108) (d := 108) (a0 := 119) (a1 := 101) (a2 := 108) (a3 := 108) rfl rfl rfl rfl )] at e188
  simp only [xl_d] at e160
  rw [if2 (ip := Classical.propDecidable _) (n5M hb hf (a := 99) (b := 108) (c := 111) (d := 117) (e := 100) (a0 := 99) (a1 := 108) (a2 := 111) (a3 := 117) (a4 := 100) rfl rfl rfl rfl rfl (by decide))] at e160
  simp only [xl_d] at e133
  rw [if2 (ip := Classical.propDecidable _) (n5M hb hf (a := 107) (b := 110) (c := 111) (d := 119) (e := 110) (a0 := 107) (a1 := 110) (a2 := 111) (a3 := 119) (a4 := 110) rfl rfl rfl rfl rfl (by decide))] at e133
  simp only [xl_d] at e107
  rw [if2 (ip := Classical.propDecidable _) (n4M hb hf (a := 115) (b := 116) (c := 97) (d := 114) (a0 := 115) (a1 := 116) (a2 := 97) (a3 := 114) rfl rfl rfl rfl )] at e107
  simp only [xl_d] at e80
  rw [if2 (ip := Classical.propDecidable _) (n5M hb hf (a := 103) (b := 117) (c := 105) (d := 100) (e := 101) (a0 := 103) (a1 := 117) (a2 := 105) (a3 := 100) (a4 := 101) rfl rfl rfl rfl rfl (by decide))] at e80
  simp only [xl_d] at e53
  rw [if2 (ip := Classical.propDecidable _) (n5M hb hf (a := 116) (b := 105) (c := 114) (d := 101) (e := 100) (a0 := 116) (a1 := 105) (a2 := 114) (a3 := 101) (a4 := 100) rfl rfl rfl rfl rfl (by decide))] at e53
  simp only [xl_d] at e27
  rw [if2 (ip := Classical.propDecidable _) (n4M hb hf (a := 108) (b := 97) (c := 109) (d := 101) (a0 := 108) (a1 := 97) (a2 := 109) (a3 := 101) rfl rfl rfl rfl )] at e27
  simp only [xl_d] at hu
  rw [if2 (ip := Classical.propDecidable _) (n5M hb hf (a := 112) (b := 108) (c := 97) (d := 105) (e := 110) (a0 := 112) (a1 := 108) (a2 := 97) (a3 := 105) (a4 := 110) rfl rfl rfl rfl rfl (by decide))] at hu
  subst e272 e242 e215 e188 e160 e133 e107 e80 e53 e27
  refine ⟨?_, ?_, ?_, ?_, ?_, ?_, ?_, ?_, ?_, ?_, ?_, ?_⟩
  · intro z; rw [← hu, if_pos z]
  · intro z; rw [← hu, if_neg (fun w => by unfold n5 at w; unfold n4 at z; omega), if_pos z]
  · intro z; rw [← hu, if_neg (fun w => by unfold n5 at w; unfold n5 at z; omega), if_neg (fun w => by unfold n4 at w; unfold n5 at z; omega), if_pos z]
  · intro z; rw [← hu, if_neg (fun w => by unfold n5 at w; unfold n5 at z; omega), if_neg (fun w => by unfold n4 at w; unfold n5 at z; omega), if_neg (fun w => by unfold n5 at w; unfold n5 at z; omega), if_pos z]
  · intro z; rw [← hu, if_neg (fun w => by unfold n5 at w; unfold n4 at z; omega), if_neg (fun w => by unfold n4 at w; unfold n4 at z; omega), if_neg (fun w => by unfold n5 at w; unfold n4 at z; omega), if_neg (fun w => by unfold n5 at w; unfold n4 at z; omega), if_pos z]
  · intro z; rw [← hu, if_neg (fun w => by unfold n5 at w; unfold n5 at z; omega), if_neg (fun w => by unfold n4 at w; unfold n5 at z; omega), if_neg (fun w => by unfold n5 at w; unfold n5 at z; omega), if_neg (fun w => by unfold n5 at w; unfold n5 at z; omega), if_neg (fun w => by unfold n4 at w; unfold n5 at z; omega), if_pos z]
  · intro z; rw [← hu, if_neg (fun w => by unfold n5 at w; unfold n5 at z; omega), if_neg (fun w => by unfold n4 at w; unfold n5 at z; omega), if_neg (fun w => by unfold n5 at w; unfold n5 at z; omega), if_neg (fun w => by unfold n5 at w; unfold n5 at z; omega), if_neg (fun w => by unfold n4 at w; unfold n5 at z; omega), if_neg (fun w => by unfold n5 at w; unfold n5 at z; omega), if_pos z]
  · intro z; rw [← hu, if_neg (fun w => by unfold n5 at w; unfold n4 at z; omega), if_neg (fun w => by unfold n4 at w; unfold n4 at z; omega), if_neg (fun w => by unfold n5 at w; unfold n4 at z; omega), if_neg (fun w => by unfold n5 at w; unfold n4 at z; omega), if_neg (fun w => by unfold n4 at w; unfold n4 at z; omega), if_neg (fun w => by unfold n5 at w; unfold n4 at z; omega), if_neg (fun w => by unfold n5 at w; unfold n4 at z; omega), if_pos z]
  · intro z; rw [← hu, if_neg (fun w => by unfold n5 at w; unfold n4 at z; omega), if_neg (fun w => by unfold n4 at w; unfold n4 at z; omega), if_neg (fun w => by unfold n5 at w; unfold n4 at z; omega), if_neg (fun w => by unfold n5 at w; unfold n4 at z; omega), if_neg (fun w => by unfold n4 at w; unfold n4 at z; omega), if_neg (fun w => by unfold n5 at w; unfold n4 at z; omega), if_neg (fun w => by unfold n5 at w; unfold n4 at z; omega), if_neg (fun w => by unfold n4 at w; unfold n4 at z; omega), if_pos z]
  · intro z; rw [← hu, if_neg (fun w => by unfold n5 at w; unfold n5 at z; omega), if_neg (fun w => by unfold n4 at w; unfold n5 at z; omega), if_neg (fun w => by unfold n5 at w; unfold n5 at z; omega), if_neg (fun w => by unfold n5 at w; unfold n5 at z; omega), if_neg (fun w => by unfold n4 at w; unfold n5 at z; omega), if_neg (fun w => by unfold n5 at w; unfold n5 at z; omega), if_neg (fun w => by unfold n5 at w; unfold n5 at z; omega), if_neg (fun w => by unfold n4 at w; unfold n5 at z; omega), if_neg (fun w => by unfold n4 at w; unfold n5 at z; omega), if_pos z]
  · intro z; rw [← hu, if_neg (fun w => by unfold n5 at w; unfold n4 at z; omega), if_neg (fun w => by unfold n4 at w; unfold n4 at z; omega), if_neg (fun w => by unfold n5 at w; unfold n4 at z; omega), if_neg (fun w => by unfold n5 at w; unfold n4 at z; omega), if_neg (fun w => by unfold n4 at w; unfold n4 at z; omega), if_neg (fun w => by unfold n5 at w; unfold n4 at z; omega), if_neg (fun w => by unfold n5 at w; unfold n4 at z; omega), if_neg (fun w => by unfold n4 at w; unfold n4 at z; omega), if_neg (fun w => by unfold n4 at w; unfold n4 at z; omega), if_neg (fun w => by unfold n5 at w; unfold n4 at z; omega), if_pos z]
  · intro z0 z1 z2 z3 z4 z5 z6 z7 z8 z9 z10; rw [← hu, if_neg z0, if_neg z1, if_neg z2, if_neg z3, if_neg z4, if_neg z5, if_neg z6, if_neg z7, if_neg z8, if_neg z9, if_neg z10]
/-! a line -/
theorem nee9 {z e : Int32} {m : St} {a b : Nat} (h : a ≠ 0 ∨ (b ≠ 17 ∧ b ≠ 18)) : (F_X8_needs 0 z e m).1 a b = m.1 a b := by
  by_cases hz : z.toInt = 0
  · by_cases h0 : (m.1 0 17).toInt = 0
    · rw [neeM h0 hz, up1_n _ _ (by omega), up1_n _ _ (by omega)]
    · rw [neeM_x h0]
  · rw [neeM_o hz]
/-- the reference's line: what it does by its name's number -/
theorem rlM {m : St} {k : Int32} (h17 : (m.1 0 17).toInt = 0) (hk : k = if (m.1 0 15).toInt = 1 then F_X8_lineNow 0 m else (-4)) : (k.toInt = -4 → F_X8_readLine 0 m = up1 (up1 m 0 17 2) 0 18 (m.1 0 14)) ∧ (0 ≤ k.toInt → k.toInt ≤ 3 → F_X8_readLine 0 m = tailM k (F_X8_needs 0 (if (m.1 0 7).toInt < 3 then 1 else 0) 5 m)) ∧ (k.toInt = 4 → F_X8_readLine 0 m = tailM k (F_X8_needs 0 (if (m.1 0 6).toInt < 5 then 1 else 0) 5 m)) ∧ (5 ≤ k.toInt → k.toInt ≤ 6 → F_X8_readLine 0 m = tailM k m) ∧ (7 ≤ k.toInt → F_X8_readLine 0 m = tailM k (toldM k m)) := by
  have c1 : (1 : Int32).toInt = 1 := rfl
  have c0 : (0 : Int32).toInt = 0 := rfl
  have c2 : (2 : Int32).toInt = 2 := rfl
  generalize hu : F_X8_readLine 0 m = u
  unfold F_X8_readLine at hu
  obtain ⟨J166, e166, hu⟩ := xl_e hu
  obtain ⟨J162, e162, hu⟩ := xl_e hu
  obtain ⟨J124, e124, hu⟩ := xl_e hu
  obtain ⟨J108, e108, hu⟩ := xl_e hu
  obtain ⟨J74, e74, hu⟩ := xl_e hu
  obtain ⟨J69, e69, hu⟩ := xl_e hu
  obtain ⟨J30, e30, hu⟩ := xl_e hu
  obtain ⟨J17, e17, hu⟩ := xl_e hu
  have E166 : ∀ x : St, J166 x = F_X8_next1 0 x := fun x => by rw [e166]; simp only [xl_d]
  have E162 : ∀ (z : Int32) (x : St), J162 z x = F_X8_next1 0 (F_X8_needs 0 z 2 x) := fun z x => by rw [e162]; simp only [xl_d]; rw [E166]
  have E124 : ∀ (y : Int32) (x : St), J124 y x = tailM y x := fun y x => by
    rw [e124]
    simp only [xl_d]
    unfold tailM stM
    generalize F_X8_next1 0 x = x5
    by_cases f : 0 < (x5.1 0 17).toInt
    · rw [if_pos f, if_pos f]
    · rw [if_neg f, if_neg f]
      generalize F_X8_readLineOf 0 y x5 = x9
      by_cases g : (x9.1 0 17).toInt = 0
      · rw [if_pos g, if_pos g]
        by_cases g2 : (x9.1 0 15).toInt = 3
        · rw [if_pos g2, if_pos g2, E162, neeM_o (by omega)]
        · rw [if_neg g2, if_neg g2, E162, neeM g (by omega)]
      · rw [if_neg g, if_neg g, E166]
  have E108 : ∀ (y z : Int32) (x : St), J108 y z x = tailM y (up1 (F_X8_needs 0 z 4 x) 0 9 (kb (x.1 0 9) y)) := fun y z x => by
    rw [e108]
    simp only [xl_d]
    rw [E124, nee9 (by omega)]
    rfl
  have E74 : ∀ (y z : Int32) (x : St), J74 y z x = if ((F_X8_needs 0 z 5 x).1 0 17).toInt = 0 then (if y.toInt < 7 then tailM y (F_X8_needs 0 z 5 x) else (if (((F_X8_needs 0 z 5 x).1 0 9 >>> (y &&& 31)) &&& 1).toInt = 0 then tailM y (up1 (F_X8_needs 0 1 4 (F_X8_needs 0 z 5 x)) 0 9 (kb ((F_X8_needs 0 z 5 x).1 0 9) y)) else tailM y (up1 (F_X8_needs 0 0 4 (F_X8_needs 0 z 5 x)) 0 9 (kb ((F_X8_needs 0 z 5 x).1 0 9) y)))) else tailM y (F_X8_needs 0 z 5 x) := fun y z x => by
    rw [e74]
    simp only [xl_d]
    rw [E124, E108, E108]
  have E69 : ∀ (y : Int32) (x : St), J69 y x = J74 y 1 x := fun y x => by rw [e69]
  simp only [xl_d] at hu
  have hu : J17 k = u := by
    rw [hk]
    by_cases g : (m.1 0 15).toInt = 1
    · rw [if_pos g] at hu ⊢; exact hu
    · rw [if_neg g] at hu ⊢; exact hu
  rw [e17] at hu
  simp only at hu
  have E30 : ∀ y z : Int32, J30 y z = if y.toInt = 4 then (if ((F_X8_needs 0 z 2 m).1 0 6).toInt < 5 then J74 y 1 (F_X8_needs 0 z 2 m) else J74 y 0 (F_X8_needs 0 z 2 m)) else (if 4 < y.toInt then J74 y 1 (F_X8_needs 0 z 2 m) else (if ((F_X8_needs 0 z 2 m).1 0 7).toInt < 3 then J74 y 1 (F_X8_needs 0 z 2 m) else J74 y 0 (F_X8_needs 0 z 2 m))) := fun y z => by
    rw [e30]
    simp only [xl_d]
    rw [E69]
  have n1 : F_X8_needs 0 1 2 m = m := neeM_o (by decide)
  have n5 : F_X8_needs 0 1 5 m = m := neeM_o (by decide)
  -- a check of how many there are
  have T : ∀ (y z : Int32), y.toInt < 7 → J74 y z m = tailM y (F_X8_needs 0 z 5 m) := fun y z hy => by
    rw [E74, if_pos hy]
    split <;> rfl
  refine ⟨fun g => ?_, fun g1 g2 => ?_, fun g => ?_, fun g1 g2 => ?_, fun g => ?_⟩
  · rw [if_pos g, E30, if_neg (by omega), if_neg (by omega), neeM h17 (by omega)] at hu
    have X : ∀ z : Int32, J74 k z (up1 (up1 m 0 17 2) 0 18 (m.1 0 14)) = up1 (up1 m 0 17 2) 0 18 (m.1 0 14) := fun z => by
      have f17 : ((up1 (up1 m 0 17 2) 0 18 (m.1 0 14)).1 0 17).toInt = 2 := by rw [up1_n _ _ (Or.inr (by decide)), up1_s]; rfl
      rw [E74, neeM_x (by omega), if_neg (by omega)]
      unfold tailM
      rw [nextM_x (by omega), if_pos (by omega)]
    rw [X, X] at hu
    rw [← hu]
    split <;> rfl
  · rw [if_neg (by omega), E30, if_neg (by omega), if_neg (by omega), n1, T k 1 (by omega), T k 0 (by omega)] at hu
    rw [← hu]
    split <;> rfl
  · rw [if_neg (by omega), E30, if_pos g, n1, T k 1 (by omega), T k 0 (by omega)] at hu
    rw [← hu]
    split <;> rfl
  · rw [if_neg (by omega), E30, if_neg (by omega), if_pos (by omega), n1, T k 1 (by omega), n5] at hu
    exact hu.symm
  · rw [if_neg (by omega), E30, if_neg (by omega), if_pos (by omega), n1, E74, n5, if_pos h17, if_neg (by omega)] at hu
    rw [← hu]
    unfold toldM
    split <;> rfl
/-! in a fault the reference writes into its draft alone -/
theorem fx_walk {a : Int32} (ha : 0 ≤ a.toInt ∧ a.toInt ≤ 3) (m : St) (_ : 0 < (m.1 0 17).toInt) : WM m (F_X8_readLineOf 0 a m) := by
  rw [walkM a m ha]
  exact (WM.up (by omega)).tr (WM.up (by omega))
theorem fx_put {m : St} (h : 0 < (m.1 0 17).toInt) (a b : Int32) (jb : Nat) : WM m (up1 (F_X8_readNumber 0 a b m).2 4 jb (F_X8_readNumber 0 a b m).1) := by
  rw [rnM_x h]
  exact WM.up (by omega)
theorem fx_star (m : St) (h : 0 < (m.1 0 17).toInt) : WM m (F_X8_readLineOf 0 4 m) := by
  have e0 : F_X8_readLineOf 0 4 m = F_X8_readStar 0 m := by
    simp only [F_X8_readLineOf, xl_d, xm_d]
    rw [if_pos (by decide)]
  rw [e0]
  generalize hmm : F_X8_readStar 0 m = mm
  unfold F_X8_readStar at hmm
  obtain ⟨x1, ex1, hmm⟩ := xl_e hmm
  obtain ⟨x2, ex2, hmm⟩ := xl_e hmm
  obtain ⟨x3, ex3, hmm⟩ := xl_e hmm
  obtain ⟨r4, u5, eq1, hmm⟩ := xm_e hmm
  obtain ⟨v9, ev9, hmm⟩ := xl_e hmm
  obtain ⟨x10, ex10, hmm⟩ := xl_e hmm
  obtain ⟨x12, ex12, hmm⟩ := xl_e hmm
  obtain ⟨r13, u14, eq2, hmm⟩ := xm_e hmm
  obtain ⟨v17, ev17, hmm⟩ := xl_e hmm
  obtain ⟨x18, ex18, hmm⟩ := xl_e hmm
  obtain ⟨r19, u20, eq3, hmm⟩ := xm_e hmm
  obtain ⟨v24, ev24, hmm⟩ := xl_e hmm
  obtain ⟨x25, ex25, hmm⟩ := xl_e hmm
  obtain ⟨x26, ex26, hmm⟩ := xl_e hmm
  obtain ⟨v27, ev27, hmm⟩ := xl_e hmm
  subst hmm
  rw [rnM_x h] at eq1
  have w9 : WM m v9 := by rw [ev9, (Prod.mk.inj eq1).2]; exact WM.up (by omega)
  rw [rnM_x (by rw [w9.1 17 (by omega)]; exact h)] at eq2
  have w17 : WM m v17 := by rw [ev17, (Prod.mk.inj eq2).2]; exact w9.tr (WM.up (by omega))
  rw [rnM_x (by rw [w17.1 17 (by omega)]; exact h)] at eq3
  have w24 : WM m v24 := by rw [ev24, (Prod.mk.inj eq3).2]; exact w17.tr (WM.up (by omega))
  rw [ev27]
  exact w24.tr (WM.up (by omega))
theorem fx_known (m : St) (h : 0 < (m.1 0 17).toInt) : WM m (F_X8_readLineOf 0 5 m) := by
  have e0 : F_X8_readLineOf 0 5 m = F_X8_readKnown 0 m := by
    simp only [F_X8_readLineOf, xl_d, xm_d]
    rw [if_neg (by decide), if_pos (by decide)]
  rw [e0]
  generalize hmm : F_X8_readKnown 0 m = mm
  unfold F_X8_readKnown at hmm
  obtain ⟨J67, e67, hmm⟩ := xl_e hmm
  obtain ⟨J64, e64, hmm⟩ := xl_e hmm
  obtain ⟨J31, e31, hmm⟩ := xl_e hmm
  simp only [xl_d, xm_d] at hmm
  rw [lookM_x (by omega)] at hmm
  simp only at hmm
  rw [if_neg (by omega), e67] at hmm
  simp only [xl_d] at hmm
  rw [nextM_x h] at hmm
  rw [← hmm]
  exact WM.rf m
theorem fx_cloud (m : St) (h : 0 < (m.1 0 17).toInt) : WM m (F_X8_readLineOf 0 6 m) := by
  have e0 : F_X8_readLineOf 0 6 m = F_X8_readCloud 0 m := by
    simp only [F_X8_readLineOf, xl_d, xm_d]
    rw [if_neg (by decide), if_neg (by decide), if_pos (by decide)]
  rw [e0]
  generalize hmm : F_X8_readCloud 0 m = mm
  unfold F_X8_readCloud at hmm
  obtain ⟨J52, e52, hmm⟩ := xl_e hmm
  obtain ⟨J35, e35, hmm⟩ := xl_e hmm
  simp only [xl_d, xm_d] at hmm
  rw [lookM_x (by omega)] at hmm
  simp only at hmm
  rw [if_neg (by omega), e52] at hmm
  simp only [xl_d] at hmm
  rw [nextM_x h] at hmm
  rw [← hmm]
  exact WM.rf m
theorem fx_well (m : St) (h : 0 < (m.1 0 17).toInt) : WM m (F_X8_readLineOf 0 7 m) := by
  have w := fx_put h 1 40 24
  have e : F_X8_readLineOf 0 7 m = up1 (F_X8_readNumber 0 0 9 (up1 (F_X8_readNumber 0 1 40 m).2 4 24 (F_X8_readNumber 0 1 40 m).1)).2 4 25 (F_X8_readNumber 0 0 9 (up1 (F_X8_readNumber 0 1 40 m).2 4 24 (F_X8_readNumber 0 1 40 m).1)).1 := by
    simp only [F_X8_readLineOf, xl_d, xm_d, Nat.reduceAdd]
    rw [if_neg (by decide), if_neg (by decide), if_neg (by decide), if_pos (by decide)]
    rfl
  rw [e]
  exact w.tr (fx_put (by rw [w.1 17 (by omega)]; exact h) 0 9 25)
theorem fx_wind (m : St) (h : 0 < (m.1 0 17).toInt) : WM m (F_X8_readLineOf 0 8 m) := by
  have e : F_X8_readLineOf 0 8 m = up1 (F_X8_readNumber 0 0 10 m).2 4 26 (F_X8_readNumber 0 0 10 m).1 := by
    simp only [F_X8_readLineOf, xl_d, xm_d, Nat.reduceAdd]
    rw [if_neg (by decide), if_neg (by decide), if_neg (by decide), if_neg (by decide), if_pos (by decide)]
    rfl
  rw [e]
  exact fx_put h 0 10 26
theorem fx_water (m : St) (h : 0 < (m.1 0 17).toInt) : WM m (F_X8_readLineOf 0 9 m) := by
  have e : F_X8_readLineOf 0 9 m = up1 (F_X8_readNumber 0 0 99 m).2 4 27 (F_X8_readNumber 0 0 99 m).1 := by
    simp only [F_X8_readLineOf, xl_d, xm_d, Nat.reduceAdd]
    rw [if_neg (by decide), if_neg (by decide), if_neg (by decide), if_neg (by decide), if_neg (by decide), if_pos (by decide)]
    rfl
  rw [e]
  exact fx_put h 0 99 27
theorem fx_plan (m : St) (h : 0 < (m.1 0 17).toInt) : WM m (F_X8_readLineOf 0 10 m) := by
  have e0 : F_X8_readLineOf 0 10 m = F_X8_readPlan 0 m := by
    simp only [F_X8_readLineOf, xl_d, xm_d]
    rw [if_neg (by decide), if_neg (by decide), if_neg (by decide), if_neg (by decide), if_neg (by decide), if_neg (by decide), if_pos (by decide)]
  rw [e0, readPlanM, lp_s]
  unfold planM
  rw [if_neg (by omega)]
  exact WM.rf m
theorem RT.re {q : Int} {D : St → St → Prop} {B : Int → Int} {L : Int} {c m : St} (h : RT q D B L c m) : RT (m.1 0 13).toInt D B L c m := by
  obtain ⟨hT, h | ⟨h0, h1, ⟨t1, t2, t3, t4, t5⟩, hd⟩⟩ := h
  · exact ⟨hT, Or.inl h⟩
  · exact ⟨hT, Or.inr ⟨h0, h1, ⟨t1, t2, t3, ⟨t4.1, t4.2.1, t4.2.2.1, Int.le_refl _⟩, t5⟩, hd⟩⟩
theorem RT.up {q : Int} {D D2 : St → St → Prop} {B : Int → Int} {L : Int} {c m : St} (h : RT q D B L c m) (hD : (c.1 1 8).toInt = 0 → D c m → D2 c m) : RT q D2 B L c m := h.wr (WC.rf c) (WM.rf m) hD
set_option maxHeartbeats 1000000 in
theorem RT.line {q : Int} {B : Int → Int} {L : Int} {c m : St} (hB : okB B L) (h : RT q Dr B L c m) (h0 : (c.1 1 8).toInt = 0) : RA q Dr B L (F_X5_readLine 1 c) (F_X8_readLine 0 m) := by
  have c1 : (1 : Int32).toInt = 1 := rfl
  have c0 : (0 : Int32).toInt = 0 := rfl
  have c4 : (-4 : Int32).toInt = -4 := rfl
  have hL := hB.2.1
  obtain ⟨hT, hh | ⟨-, h17, hTT, hd⟩⟩ := id h
  · exact absurd h0 hh.1
  obtain ⟨t1, t2, t3, t4, t5, t6, t7⟩ := id hTT
  have hfm : 0 ≤ (m.1 0 14).toInt ∧ (m.1 0 14).toInt ≤ (m.1 0 13).toInt ∧ (m.1 0 13).toInt ≤ 160 := by omega
  have hfc : 0 ≤ (c.1 1 4).toInt ∧ (c.1 1 4).toInt ≤ (c.1 1 5).toInt ∧ (c.1 1 5).toInt ≤ 160 := by omega
  -- a name that begins no line
  have none : ∀ k : Int32, (k = if (m.1 0 15).toInt = 1 then F_X8_lineNow 0 m else (-4)) → k.toInt = -4 → RA q Dr B L (F_X5_refuse 1 2 (c.1 1 4) c) (F_X8_readLine 0 m) := fun k e1 e2 => by
    rw [(rlM h17 e1).1 e2, refC h0]
    exact ⟨hT.fr FC.rf89 FM.rf78, Or.inl (Fl.new (by decide) (by decide) t2)⟩
  by_cases hk : (m.1 0 15).toInt = 1
  · have hkc : (c.1 1 3).toInt = 1 := by omega
    have hln := lnM hT.2.1 hfm
    have m0 := isN4 hT.1 (i := 0) (by decide) rfl hkc hfc (k0 := (by decide : (chz 0 0).toInt = 115)) (k1 := (by decide : (chz 0 1).toInt = 116)) (k2 := (by decide : (chz 0 2).toInt = 97)) (k3 := (by decide : (chz 0 3).toInt = 114))
    rw [t2, t3] at m0
    have m1 := isN5 hT.1 (i := 1) (by decide) rfl hkc hfc (k0 := (by decide : (chz 1 0).toInt = 107)) (k1 := (by decide : (chz 1 1).toInt = 110)) (k2 := (by decide : (chz 1 2).toInt = 111)) (k3 := (by decide : (chz 1 3).toInt = 119)) (k4 := (by decide : (chz 1 4).toInt = 110))
    rw [t2, t3] at m1
    have m2 := isN5 hT.1 (i := 2) (by decide) rfl hkc hfc (k0 := (by decide : (chz 2 0).toInt = 112)) (k1 := (by decide : (chz 2 1).toInt = 108)) (k2 := (by decide : (chz 2 2).toInt = 97)) (k3 := (by decide : (chz 2 3).toInt = 105)) (k4 := (by decide : (chz 2 4).toInt = 110))
    rw [t2, t3] at m2
    have m3 := isN4 hT.1 (i := 3) (by decide) rfl hkc hfc (k0 := (by decide : (chz 3 0).toInt = 108)) (k1 := (by decide : (chz 3 1).toInt = 97)) (k2 := (by decide : (chz 3 2).toInt = 109)) (k3 := (by decide : (chz 3 3).toInt = 101))
    rw [t2, t3] at m3
    have m4 := isN5 hT.1 (i := 4) (by decide) rfl hkc hfc (k0 := (by decide : (chz 4 0).toInt = 116)) (k1 := (by decide : (chz 4 1).toInt = 105)) (k2 := (by decide : (chz 4 2).toInt = 114)) (k3 := (by decide : (chz 4 3).toInt = 101)) (k4 := (by decide : (chz 4 4).toInt = 100))
    rw [t2, t3] at m4
    have m5 := isN5 hT.1 (i := 5) (by decide) rfl hkc hfc (k0 := (by decide : (chz 5 0).toInt = 103)) (k1 := (by decide : (chz 5 1).toInt = 117)) (k2 := (by decide : (chz 5 2).toInt = 105)) (k3 := (by decide : (chz 5 3).toInt = 100)) (k4 := (by decide : (chz 5 4).toInt = 101))
    rw [t2, t3] at m5
    have m6 := isN4 hT.1 (i := 6) (by decide) rfl hkc hfc (k0 := (by decide : (chz 6 0).toInt = 119)) (k1 := (by decide : (chz 6 1).toInt = 101)) (k2 := (by decide : (chz 6 2).toInt = 108)) (k3 := (by decide : (chz 6 3).toInt = 108))
    rw [t2, t3] at m6
    have m7 := isN4 hT.1 (i := 7) (by decide) rfl hkc hfc (k0 := (by decide : (chz 7 0).toInt = 119)) (k1 := (by decide : (chz 7 1).toInt = 105)) (k2 := (by decide : (chz 7 2).toInt = 110)) (k3 := (by decide : (chz 7 3).toInt = 100))
    rw [t2, t3] at m7
    have m8 := isN5 hT.1 (i := 8) (by decide) rfl hkc hfc (k0 := (by decide : (chz 8 0).toInt = 119)) (k1 := (by decide : (chz 8 1).toInt = 97)) (k2 := (by decide : (chz 8 2).toInt = 116)) (k3 := (by decide : (chz 8 3).toInt = 101)) (k4 := (by decide : (chz 8 4).toInt = 114))
    rw [t2, t3] at m8
    have m9 := isN5 hT.1 (i := 9) (by decide) rfl hkc hfc (k0 := (by decide : (chz 9 0).toInt = 99)) (k1 := (by decide : (chz 9 1).toInt = 108)) (k2 := (by decide : (chz 9 2).toInt = 111)) (k3 := (by decide : (chz 9 3).toInt = 117)) (k4 := (by decide : (chz 9 4).toInt = 100))
    rw [t2, t3] at m9
    have m10 := isN4 hT.1 (i := 10) (by decide) rfl hkc hfc (k0 := (by decide : (chz 10 0).toInt = 112)) (k1 := (by decide : (chz 10 1).toInt = 108)) (k2 := (by decide : (chz 10 2).toInt = 97)) (k3 := (by decide : (chz 10 3).toInt = 110))
    rw [t2, t3] at m10
    obtain ⟨l0, l1, l2, l3, l4, l5, l6, l7, l8, l9, l10, lx⟩ := hln
    simp only [F_X5_readLine, xl_d]
    by_cases g0 : n4 B (m.1 0 14).toInt (m.1 0 13).toInt 115 116 97 114
    · rw [if_neg (fun z => (m0.mp z) g0)]
      have ek : (4 : Int32) = if (m.1 0 15).toInt = 1 then F_X8_lineNow 0 m else (-4) := by rw [if_pos hk, l4 g0]
      rw [(rlM h17 ek).2.2.1 (by decide), readStarC]
      refine RT.fin DSt_stb hB (D := DSt) ?_ _ (fun c m h => ln_star hB c m h) fx_star
      exact h.chk (by decide) (by decide) (fun _ _ hd => by rw [hd.1.1.1]; split <;> omega) (fun _ hd p => ⟨hd, by rw [← hd.1.1.1]; exact p⟩)
    by_cases g1 : n5 B (m.1 0 14).toInt (m.1 0 13).toInt 107 110 111 119 110
    · rw [if_pos (m0.mpr g0), if_neg (fun z => (m1.mp z) g1)]
      have ek : (5 : Int32) = if (m.1 0 15).toInt = 1 then F_X8_lineNow 0 m else (-4) := by rw [if_pos hk, l5 g1]
      rw [(rlM h17 ek).2.2.2.1 (by decide) (by decide)]
      exact RT.fin Dr_stb hB h _ (rest := F_X5_readKnown 1) (fun c m h => ln_known hB c m h) fx_known
    by_cases g2 : n5 B (m.1 0 14).toInt (m.1 0 13).toInt 112 108 97 105 110
    · rw [if_pos (m0.mpr g0), if_pos (m1.mpr g1), if_neg (fun z => (m2.mp z) g2)]
      have ek : (0 : Int32) = if (m.1 0 15).toInt = 1 then F_X8_lineNow 0 m else (-4) := by rw [if_pos hk, l0 g2]
      rw [(rlM h17 ek).2.1 (by decide) (by decide), readWalkerC]
      refine RT.fin DWk_stb hB (D := DWk) ?_ _ (fun c m h => ln_walk hB (by decide) c m h) (fx_walk (by decide))
      exact h.chk (by decide) (by decide) (fun _ _ hd => by rw [hd.2.1.1.1]; split <;> omega) (fun _ hd p => ⟨hd, by rw [← hd.2.1.1.1]; exact p⟩)
    by_cases g3 : n4 B (m.1 0 14).toInt (m.1 0 13).toInt 108 97 109 101
    · rw [if_pos (m0.mpr g0), if_pos (m1.mpr g1), if_pos (m2.mpr g2), if_neg (fun z => (m3.mp z) g3)]
      have ek : (1 : Int32) = if (m.1 0 15).toInt = 1 then F_X8_lineNow 0 m else (-4) := by rw [if_pos hk, l1 g3]
      rw [(rlM h17 ek).2.1 (by decide) (by decide), readWalkerC]
      refine RT.fin DWk_stb hB (D := DWk) ?_ _ (fun c m h => ln_walk hB (by decide) c m h) (fx_walk (by decide))
      exact h.chk (by decide) (by decide) (fun _ _ hd => by rw [hd.2.1.1.1]; split <;> omega) (fun _ hd p => ⟨hd, by rw [← hd.2.1.1.1]; exact p⟩)
    by_cases g4 : n5 B (m.1 0 14).toInt (m.1 0 13).toInt 116 105 114 101 100
    · rw [if_pos (m0.mpr g0), if_pos (m1.mpr g1), if_pos (m2.mpr g2), if_pos (m3.mpr g3), if_neg (fun z => (m4.mp z) g4)]
      have ek : (2 : Int32) = if (m.1 0 15).toInt = 1 then F_X8_lineNow 0 m else (-4) := by rw [if_pos hk, l2 g4]
      rw [(rlM h17 ek).2.1 (by decide) (by decide), readWalkerC]
      refine RT.fin DWk_stb hB (D := DWk) ?_ _ (fun c m h => ln_walk hB (by decide) c m h) (fx_walk (by decide))
      exact h.chk (by decide) (by decide) (fun _ _ hd => by rw [hd.2.1.1.1]; split <;> omega) (fun _ hd p => ⟨hd, by rw [← hd.2.1.1.1]; exact p⟩)
    by_cases g5 : n5 B (m.1 0 14).toInt (m.1 0 13).toInt 103 117 105 100 101
    · rw [if_pos (m0.mpr g0), if_pos (m1.mpr g1), if_pos (m2.mpr g2), if_pos (m3.mpr g3), if_pos (m4.mpr g4), if_neg (fun z => (m5.mp z) g5)]
      have ek : (3 : Int32) = if (m.1 0 15).toInt = 1 then F_X8_lineNow 0 m else (-4) := by rw [if_pos hk, l3 g5]
      rw [(rlM h17 ek).2.1 (by decide) (by decide), readWalkerC]
      refine RT.fin DWk_stb hB (D := DWk) ?_ _ (fun c m h => ln_walk hB (by decide) c m h) (fx_walk (by decide))
      exact h.chk (by decide) (by decide) (fun _ _ hd => by rw [hd.2.1.1.1]; split <;> omega) (fun _ hd p => ⟨hd, by rw [← hd.2.1.1.1]; exact p⟩)
    by_cases g6 : n4 B (m.1 0 14).toInt (m.1 0 13).toInt 119 101 108 108
    · rw [if_pos (m0.mpr g0), if_pos (m1.mpr g1), if_pos (m2.mpr g2), if_pos (m3.mpr g3), if_pos (m4.mpr g4), if_pos (m5.mpr g5), if_neg (fun z => (m6.mp z) g6)]
      have ek : (7 : Int32) = if (m.1 0 15).toInt = 1 then F_X8_lineNow 0 m else (-4) := by rw [if_pos hk, l7 g6]
      rw [(rlM h17 ek).2.2.2.2 (by decide), readWellC]
      exact RT.fin (DTl_stb 0) hB (h.tell (j := 0) (by decide) rfl rfl) _ (fun c m h => ln_well hB c m h) fx_well
    by_cases g7 : n4 B (m.1 0 14).toInt (m.1 0 13).toInt 119 105 110 100
    · rw [if_pos (m0.mpr g0), if_pos (m1.mpr g1), if_pos (m2.mpr g2), if_pos (m3.mpr g3), if_pos (m4.mpr g4), if_pos (m5.mpr g5), if_pos (m6.mpr g6), if_neg (fun z => (m7.mp z) g7)]
      have ek : (8 : Int32) = if (m.1 0 15).toInt = 1 then F_X8_lineNow 0 m else (-4) := by rw [if_pos hk, l8 g7]
      rw [(rlM h17 ek).2.2.2.2 (by decide), readWindC]
      exact RT.fin (DTl_stb 1) hB (h.tell (j := 1) (by decide) rfl rfl) _ (fun c m h => ln_wind hB c m h) fx_wind
    by_cases g8 : n5 B (m.1 0 14).toInt (m.1 0 13).toInt 119 97 116 101 114
    · rw [if_pos (m0.mpr g0), if_pos (m1.mpr g1), if_pos (m2.mpr g2), if_pos (m3.mpr g3), if_pos (m4.mpr g4), if_pos (m5.mpr g5), if_pos (m6.mpr g6), if_pos (m7.mpr g7), if_neg (fun z => (m8.mp z) g8)]
      have ek : (9 : Int32) = if (m.1 0 15).toInt = 1 then F_X8_lineNow 0 m else (-4) := by rw [if_pos hk, l9 g8]
      rw [(rlM h17 ek).2.2.2.2 (by decide), readWaterC]
      exact RT.fin (DTl_stb 2) hB (h.tell (j := 2) (by decide) rfl rfl) _ (fun c m h => ln_water hB c m h) fx_water
    by_cases g9 : n5 B (m.1 0 14).toInt (m.1 0 13).toInt 99 108 111 117 100
    · rw [if_pos (m0.mpr g0), if_pos (m1.mpr g1), if_pos (m2.mpr g2), if_pos (m3.mpr g3), if_pos (m4.mpr g4), if_pos (m5.mpr g5), if_pos (m6.mpr g6), if_pos (m7.mpr g7), if_pos (m8.mpr g8), if_neg (fun z => (m9.mp z) g9)]
      have ek : (6 : Int32) = if (m.1 0 15).toInt = 1 then F_X8_lineNow 0 m else (-4) := by rw [if_pos hk, l6 g9]
      rw [(rlM h17 ek).2.2.2.1 (by decide) (by decide)]
      exact RT.fin Dr_stb hB h _ (rest := F_X5_readCloud 1) (fun c m h => ln_cloud hB c m h) fx_cloud
    by_cases g10 : n4 B (m.1 0 14).toInt (m.1 0 13).toInt 112 108 97 110
    · rw [if_pos (m0.mpr g0), if_pos (m1.mpr g1), if_pos (m2.mpr g2), if_pos (m3.mpr g3), if_pos (m4.mpr g4), if_pos (m5.mpr g5), if_pos (m6.mpr g6), if_pos (m7.mpr g7), if_pos (m8.mpr g8), if_pos (m9.mpr g9), if_neg (fun z => (m10.mp z) g10)]
      have ek : (10 : Int32) = if (m.1 0 15).toInt = 1 then F_X8_lineNow 0 m else (-4) := by rw [if_pos hk, l10 g10]
      rw [(rlM h17 ek).2.2.2.2 (by decide), readPlanC]
      exact RT.fin (DTl_stb 3) hB (h.tell (j := 3) (by decide) rfl rfl) _ (fun c m h => ln_plan hB _ c m h) fx_plan
    · rw [if_pos (m0.mpr g0), if_pos (m1.mpr g1), if_pos (m2.mpr g2), if_pos (m3.mpr g3), if_pos (m4.mpr g4), if_pos (m5.mpr g5), if_pos (m6.mpr g6), if_pos (m7.mpr g7), if_pos (m8.mpr g8), if_pos (m9.mpr g9), if_pos (m10.mpr g10)]
      exact none (-4) (by rw [if_pos hk, lx g2 g3 g4 g5 g0 g1 g9 g6 g7 g8 g10]) c4
  · have hkc : ¬ (c.1 1 3).toInt = 1 := by omega
    simp only [F_X5_readLine, xl_d]
    rw [if_pos (isNx 0 hkc), if_pos (isNx 1 hkc), if_pos (isNx 2 hkc), if_pos (isNx 3 hkc), if_pos (isNx 4 hkc), if_pos (isNx 5 hkc), if_pos (isNx 6 hkc), if_pos (isNx 7 hkc), if_pos (isNx 8 hkc), if_pos (isNx 9 hkc), if_pos (isNx 10 hkc)]
    exact none (-4) (by rw [if_neg hk]) c4
/-! a night is copied -/
theorem beP (k k1 : Nat) (h : k ≠ k1) (v : St) : (F_X2_become k k1 v).1 k 0 = v.1 k1 0 ∧ (F_X2_become k k1 v).1 k 1 = v.1 k1 1 ∧ (F_X2_become k k1 v).1 k 2 = v.1 k1 2 ∧ (F_X2_become k k1 v).1 k 3 = v.1 k1 3 ∧ ∀ a b : Nat, (a ≠ k ∨ 4 ≤ b) → (F_X2_become k k1 v).1 a b = v.1 a b := by
  generalize hu : F_X2_become k k1 v = u
  unfold F_X2_become at hu
  simp only [xl_d] at hu
  have a0 : ∀ x : Int32, (up1 v k 0 x).1 k1 1 = v.1 k1 1 := fun x => up1_n _ _ (by omega)
  rw [a0] at hu
  have a1 : ∀ x y : Int32, (up1 (up1 v k 0 x) k 1 y).1 k1 2 = v.1 k1 2 := fun x y => by rw [up1_n _ _ (by omega), up1_n _ _ (by omega)]
  rw [a1] at hu
  have a2 : ∀ x y z : Int32, (up1 (up1 (up1 v k 0 x) k 1 y) k 2 z).1 k1 3 = v.1 k1 3 := fun x y z => by rw [up1_n _ _ (by omega), up1_n _ _ (by omega), up1_n _ _ (by omega)]
  rw [a2] at hu
  subst hu
  refine ⟨?_, ?_, ?_, ?_, fun a b z => ?_⟩
  · rw [up1_n _ _ (by omega), up1_n _ _ (by omega), up1_n _ _ (by omega), up1_s]
  · rw [up1_n _ _ (by omega), up1_n _ _ (by omega), up1_s]
  · rw [up1_n _ _ (by omega), up1_s]
  · rw [up1_s]
  · rw [up1_n _ _ (by omega), up1_n _ _ (by omega), up1_n _ _ (by omega), up1_n _ _ (by omega)]
theorem cpy0 {f g : Nat → Int32} {n j : Nat} (h : j < n) : va_cpy f g 0 0 n j = f j := by
  unfold va_cpy
  rw [if_pos (by omega), show 0 + (j - 0) = j by omega]
theorem beN (k k1 : Nat) (h : k + 9 ≤ k1 ∨ k1 + 9 ≤ k) (v : St) : (∀ j : Nat, (j = 3 ∨ j = 4 ∨ (6 ≤ j ∧ j ≤ 11) ∨ j = 14 ∨ j = 17) → (F_X0_become k k1 v).1 k j = v.1 k1 j) ∧ (∀ j : Nat, j < 4 → (F_X0_become k k1 v).1 (k + 5) j = v.1 (k1 + 5) j) ∧ (∀ j : Nat, j < 5 → (F_X0_become k k1 v).1 (k + 1) j = v.1 (k1 + 1) j ∧ (F_X0_become k k1 v).1 (k + 2) j = v.1 (k1 + 2) j ∧ (F_X0_become k k1 v).1 (k + 3) j = v.1 (k1 + 3) j) ∧ (∀ j : Nat, j < 3 → (F_X0_become k k1 v).1 (k + 4) j = v.1 (k1 + 4) j) ∧ (∀ j : Nat, j < 8 → (F_X0_become k k1 v).1 (k + 6) j = v.1 (k1 + 6) j) ∧ (∀ j : Nat, j < 6 → (F_X0_become k k1 v).1 (k + 7) j = v.1 (k1 + 7) j ∧ (F_X0_become k k1 v).1 (k + 8) j = v.1 (k1 + 8) j) ∧ (∀ a b : Nat, (a < k ∨ k + 9 ≤ a) → (F_X0_become k k1 v).1 a b = v.1 a b) := by
  generalize hu : F_X0_become k k1 v = u
  unfold F_X0_become at hu
  have f0 : ∀ a b : Nat, (a < k ∨ k + 9 ≤ a) → v.1 a b = v.1 a b := fun _ _ _ => rfl
  obtain ⟨x1, ex1, hu⟩ := xl_e hu
  rw [f0 k1 3 (by omega)] at ex1
  obtain ⟨v2, ev2, hu⟩ := xl_e hu
  have fv2 : ∀ a b : Nat, (a < k ∨ k + 9 ≤ a) → v2.1 a b = v.1 a b := fun a b z => by rw [ev2, up1_n _ _ (by omega)]
  obtain ⟨x3, ex3, hu⟩ := xl_e hu
  rw [fv2 k1 4 (by omega)] at ex3
  obtain ⟨v4, ev4, hu⟩ := xl_e hu
  have fv4 : ∀ a b : Nat, (a < k ∨ k + 9 ≤ a) → v4.1 a b = v.1 a b := fun a b z => by rw [ev4, up1_n _ _ (by omega)]; exact fv2 a b z
  obtain ⟨x5, ex5, hu⟩ := xl_e hu
  rw [fv4 k1 6 (by omega)] at ex5
  obtain ⟨v6, ev6, hu⟩ := xl_e hu
  have fv6 : ∀ a b : Nat, (a < k ∨ k + 9 ≤ a) → v6.1 a b = v.1 a b := fun a b z => by rw [ev6, up1_n _ _ (by omega)]; exact fv4 a b z
  obtain ⟨x7, ex7, hu⟩ := xl_e hu
  rw [fv6 k1 7 (by omega)] at ex7
  obtain ⟨v8, ev8, hu⟩ := xl_e hu
  have fv8 : ∀ a b : Nat, (a < k ∨ k + 9 ≤ a) → v8.1 a b = v.1 a b := fun a b z => by rw [ev8, up1_n _ _ (by omega)]; exact fv6 a b z
  obtain ⟨x9, ex9, hu⟩ := xl_e hu
  rw [fv8 k1 8 (by omega)] at ex9
  obtain ⟨v10, ev10, hu⟩ := xl_e hu
  have fv10 : ∀ a b : Nat, (a < k ∨ k + 9 ≤ a) → v10.1 a b = v.1 a b := fun a b z => by rw [ev10, up1_n _ _ (by omega)]; exact fv8 a b z
  obtain ⟨x11, ex11, hu⟩ := xl_e hu
  rw [fv10 k1 9 (by omega)] at ex11
  obtain ⟨v12, ev12, hu⟩ := xl_e hu
  have fv12 : ∀ a b : Nat, (a < k ∨ k + 9 ≤ a) → v12.1 a b = v.1 a b := fun a b z => by rw [ev12, up1_n _ _ (by omega)]; exact fv10 a b z
  obtain ⟨x13, ex13, hu⟩ := xl_e hu
  rw [fv12 k1 10 (by omega)] at ex13
  obtain ⟨v14, ev14, hu⟩ := xl_e hu
  have fv14 : ∀ a b : Nat, (a < k ∨ k + 9 ≤ a) → v14.1 a b = v.1 a b := fun a b z => by rw [ev14, up1_n _ _ (by omega)]; exact fv12 a b z
  obtain ⟨x15, ex15, hu⟩ := xl_e hu
  rw [fv14 k1 11 (by omega)] at ex15
  obtain ⟨v16, ev16, hu⟩ := xl_e hu
  have fv16 : ∀ a b : Nat, (a < k ∨ k + 9 ≤ a) → v16.1 a b = v.1 a b := fun a b z => by rw [ev16, up1_n _ _ (by omega)]; exact fv14 a b z
  obtain ⟨u17, eu17, hu⟩ := xl_e hu
  have hp := beP (k + 5) (k1 + 5) (by omega) v16
  rw [← eu17] at hp
  rw [fv16 (k1 + 5) 0 (by omega), fv16 (k1 + 5) 1 (by omega), fv16 (k1 + 5) 2 (by omega), fv16 (k1 + 5) 3 (by omega)] at hp
  have fu17 : ∀ a b : Nat, (a < k ∨ k + 9 ≤ a) → u17.1 a b = v.1 a b := fun a b z => by rw [hp.2.2.2.2 a b (by omega)]; exact fv16 a b z
  obtain ⟨x19, ex19, hu⟩ := xl_e hu
  rw [fu17 k1 14 (by omega)] at ex19
  obtain ⟨v20, ev20, hu⟩ := xl_e hu
  have fv20 : ∀ a b : Nat, (a < k ∨ k + 9 ≤ a) → v20.1 a b = v.1 a b := fun a b z => by rw [ev20, up1_n _ _ (by omega)]; exact fu17 a b z
  obtain ⟨x21, ex21, hu⟩ := xl_e hu
  rw [fv20 k1 17 (by omega)] at ex21
  obtain ⟨v22, ev22, hu⟩ := xl_e hu
  have fv22 : ∀ a b : Nat, (a < k ∨ k + 9 ≤ a) → v22.1 a b = v.1 a b := fun a b z => by rw [ev22, up1_n _ _ (by omega)]; exact fv20 a b z
  obtain ⟨v23, ev23, hu⟩ := xl_e hu
  have fv23 : ∀ a b : Nat, (a < k ∨ k + 9 ≤ a) → v23.1 a b = v.1 a b := fun a b z => by rw [ev23, upR_n _ _ (by omega)]; exact fv22 a b z
  obtain ⟨v24, ev24, hu⟩ := xl_e hu
  have fv24 : ∀ a b : Nat, (a < k ∨ k + 9 ≤ a) → v24.1 a b = v.1 a b := fun a b z => by rw [ev24, upR_n _ _ (by omega)]; exact fv23 a b z
  obtain ⟨v25, ev25, hu⟩ := xl_e hu
  have fv25 : ∀ a b : Nat, (a < k ∨ k + 9 ≤ a) → v25.1 a b = v.1 a b := fun a b z => by rw [ev25, upR_n _ _ (by omega)]; exact fv24 a b z
  obtain ⟨v26, ev26, hu⟩ := xl_e hu
  have fv26 : ∀ a b : Nat, (a < k ∨ k + 9 ≤ a) → v26.1 a b = v.1 a b := fun a b z => by rw [ev26, upR_n _ _ (by omega)]; exact fv25 a b z
  obtain ⟨v27, ev27, hu⟩ := xl_e hu
  have fv27 : ∀ a b : Nat, (a < k ∨ k + 9 ≤ a) → v27.1 a b = v.1 a b := fun a b z => by rw [ev27, upR_n _ _ (by omega)]; exact fv26 a b z
  obtain ⟨v28, ev28, hu⟩ := xl_e hu
  have fv28 : ∀ a b : Nat, (a < k ∨ k + 9 ≤ a) → v28.1 a b = v.1 a b := fun a b z => by rw [ev28, upR_n _ _ (by omega)]; exact fv27 a b z
  obtain ⟨v29, ev29, hu⟩ := xl_e hu
  have fv29 : ∀ a b : Nat, (a < k ∨ k + 9 ≤ a) → v29.1 a b = v.1 a b := fun a b z => by rw [ev29, upR_n _ _ (by omega)]; exact fv28 a b z
  subst hu
  refine ⟨fun j hj => ?_, fun j hj => ?_, fun j hj => ⟨?_, ?_, ?_⟩, fun j hj => ?_, fun j hj => ?_, fun j hj => ⟨?_, ?_⟩, fv29⟩
  · rcases (show j = 3 ∨ j = 4 ∨ j = 6 ∨ j = 7 ∨ j = 8 ∨ j = 9 ∨ j = 10 ∨ j = 11 ∨ j = 14 ∨ j = 17 by omega) with rfl | rfl | rfl | rfl | rfl | rfl | rfl | rfl | rfl | rfl
    · rw [ev29, upR_n _ _ (by omega), ev28, upR_n _ _ (by omega), ev27, upR_n _ _ (by omega), ev26, upR_n _ _ (by omega), ev25, upR_n _ _ (by omega), ev24, upR_n _ _ (by omega), ev23, upR_n _ _ (by omega), ev22, up1_n _ _ (by omega), ev20, up1_n _ _ (by omega), hp.2.2.2.2 _ _ (by omega), ev16, up1_n _ _ (by omega), ev14, up1_n _ _ (by omega), ev12, up1_n _ _ (by omega), ev10, up1_n _ _ (by omega), ev8, up1_n _ _ (by omega), ev6, up1_n _ _ (by omega), ev4, up1_n _ _ (by omega), ev2, up1_s, ex1]
    · rw [ev29, upR_n _ _ (by omega), ev28, upR_n _ _ (by omega), ev27, upR_n _ _ (by omega), ev26, upR_n _ _ (by omega), ev25, upR_n _ _ (by omega), ev24, upR_n _ _ (by omega), ev23, upR_n _ _ (by omega), ev22, up1_n _ _ (by omega), ev20, up1_n _ _ (by omega), hp.2.2.2.2 _ _ (by omega), ev16, up1_n _ _ (by omega), ev14, up1_n _ _ (by omega), ev12, up1_n _ _ (by omega), ev10, up1_n _ _ (by omega), ev8, up1_n _ _ (by omega), ev6, up1_n _ _ (by omega), ev4, up1_s, ex3]
    · rw [ev29, upR_n _ _ (by omega), ev28, upR_n _ _ (by omega), ev27, upR_n _ _ (by omega), ev26, upR_n _ _ (by omega), ev25, upR_n _ _ (by omega), ev24, upR_n _ _ (by omega), ev23, upR_n _ _ (by omega), ev22, up1_n _ _ (by omega), ev20, up1_n _ _ (by omega), hp.2.2.2.2 _ _ (by omega), ev16, up1_n _ _ (by omega), ev14, up1_n _ _ (by omega), ev12, up1_n _ _ (by omega), ev10, up1_n _ _ (by omega), ev8, up1_n _ _ (by omega), ev6, up1_s, ex5]
    · rw [ev29, upR_n _ _ (by omega), ev28, upR_n _ _ (by omega), ev27, upR_n _ _ (by omega), ev26, upR_n _ _ (by omega), ev25, upR_n _ _ (by omega), ev24, upR_n _ _ (by omega), ev23, upR_n _ _ (by omega), ev22, up1_n _ _ (by omega), ev20, up1_n _ _ (by omega), hp.2.2.2.2 _ _ (by omega), ev16, up1_n _ _ (by omega), ev14, up1_n _ _ (by omega), ev12, up1_n _ _ (by omega), ev10, up1_n _ _ (by omega), ev8, up1_s, ex7]
    · rw [ev29, upR_n _ _ (by omega), ev28, upR_n _ _ (by omega), ev27, upR_n _ _ (by omega), ev26, upR_n _ _ (by omega), ev25, upR_n _ _ (by omega), ev24, upR_n _ _ (by omega), ev23, upR_n _ _ (by omega), ev22, up1_n _ _ (by omega), ev20, up1_n _ _ (by omega), hp.2.2.2.2 _ _ (by omega), ev16, up1_n _ _ (by omega), ev14, up1_n _ _ (by omega), ev12, up1_n _ _ (by omega), ev10, up1_s, ex9]
    · rw [ev29, upR_n _ _ (by omega), ev28, upR_n _ _ (by omega), ev27, upR_n _ _ (by omega), ev26, upR_n _ _ (by omega), ev25, upR_n _ _ (by omega), ev24, upR_n _ _ (by omega), ev23, upR_n _ _ (by omega), ev22, up1_n _ _ (by omega), ev20, up1_n _ _ (by omega), hp.2.2.2.2 _ _ (by omega), ev16, up1_n _ _ (by omega), ev14, up1_n _ _ (by omega), ev12, up1_s, ex11]
    · rw [ev29, upR_n _ _ (by omega), ev28, upR_n _ _ (by omega), ev27, upR_n _ _ (by omega), ev26, upR_n _ _ (by omega), ev25, upR_n _ _ (by omega), ev24, upR_n _ _ (by omega), ev23, upR_n _ _ (by omega), ev22, up1_n _ _ (by omega), ev20, up1_n _ _ (by omega), hp.2.2.2.2 _ _ (by omega), ev16, up1_n _ _ (by omega), ev14, up1_s, ex13]
    · rw [ev29, upR_n _ _ (by omega), ev28, upR_n _ _ (by omega), ev27, upR_n _ _ (by omega), ev26, upR_n _ _ (by omega), ev25, upR_n _ _ (by omega), ev24, upR_n _ _ (by omega), ev23, upR_n _ _ (by omega), ev22, up1_n _ _ (by omega), ev20, up1_n _ _ (by omega), hp.2.2.2.2 _ _ (by omega), ev16, up1_s, ex15]
    · rw [ev29, upR_n _ _ (by omega), ev28, upR_n _ _ (by omega), ev27, upR_n _ _ (by omega), ev26, upR_n _ _ (by omega), ev25, upR_n _ _ (by omega), ev24, upR_n _ _ (by omega), ev23, upR_n _ _ (by omega), ev22, up1_n _ _ (by omega), ev20, up1_s, ex19]
    · rw [ev29, upR_n _ _ (by omega), ev28, upR_n _ _ (by omega), ev27, upR_n _ _ (by omega), ev26, upR_n _ _ (by omega), ev25, upR_n _ _ (by omega), ev24, upR_n _ _ (by omega), ev23, upR_n _ _ (by omega), ev22, up1_s, ex21]
  · have e : v29.1 (k + 5) j = u17.1 (k + 5) j := by rw [ev29, upR_n _ _ (by omega), ev28, upR_n _ _ (by omega), ev27, upR_n _ _ (by omega), ev26, upR_n _ _ (by omega), ev25, upR_n _ _ (by omega), ev24, upR_n _ _ (by omega), ev23, upR_n _ _ (by omega), ev22, up1_n _ _ (by omega), ev20, up1_n _ _ (by omega)]
    rw [e]
    rcases (show j = 0 ∨ j = 1 ∨ j = 2 ∨ j = 3 by omega) with rfl | rfl | rfl | rfl
    · exact hp.1
    · exact hp.2.1
    · exact hp.2.2.1
    · exact hp.2.2.2.1
  · rw [ev29, upR_n _ _ (by omega), ev28, upR_n _ _ (by omega), ev27, upR_n _ _ (by omega), ev26, upR_n _ _ (by omega), ev25, upR_n _ _ (by omega), ev24, upR_n _ _ (by omega), ev23, upR_k, cpy0 hj]
    exact fv22 (k1 + 1) j (by omega)
  · rw [ev29, upR_n _ _ (by omega), ev28, upR_n _ _ (by omega), ev27, upR_n _ _ (by omega), ev26, upR_n _ _ (by omega), ev25, upR_n _ _ (by omega), ev24, upR_k, cpy0 hj]
    exact fv23 (k1 + 2) j (by omega)
  · rw [ev29, upR_n _ _ (by omega), ev28, upR_n _ _ (by omega), ev27, upR_n _ _ (by omega), ev26, upR_n _ _ (by omega), ev25, upR_k, cpy0 hj]
    exact fv24 (k1 + 3) j (by omega)
  · rw [ev29, upR_n _ _ (by omega), ev28, upR_n _ _ (by omega), ev27, upR_n _ _ (by omega), ev26, upR_k, cpy0 hj]
    exact fv25 (k1 + 4) j (by omega)
  · rw [ev29, upR_n _ _ (by omega), ev28, upR_n _ _ (by omega), ev27, upR_k, cpy0 hj]
    exact fv26 (k1 + 6) j (by omega)
  · rw [ev29, upR_n _ _ (by omega), ev28, upR_k, cpy0 hj]
    exact fv27 (k1 + 7) j (by omega)
  · rw [ev29, upR_k, cpy0 hj]
    exact fv28 (k1 + 8) j (by omega)
/-! the reference's draft, and how it is kept -/
def fd (b : Nat) : Int32 := if b = 24 then 20 else if b = 25 then 2 else if b = 26 then 3 else if b = 27 then 20 else 0
theorem fdM (m : St) : (∀ b : Nat, b < 54 → (F_X8_firstDraft 0 m).1 4 b = fd b) ∧ ((F_X8_firstDraft 0 m).1 0 6 = 0 ∧ (F_X8_firstDraft 0 m).1 0 7 = 0 ∧ (F_X8_firstDraft 0 m).1 0 8 = 0 ∧ (F_X8_firstDraft 0 m).1 0 9 = 0 ∧ (F_X8_firstDraft 0 m).1 0 10 = (-4)) ∧ ∀ a b : Nat, (a ≠ 4 ∧ (a ≠ 0 ∨ b < 6 ∨ 10 < b)) → (F_X8_firstDraft 0 m).1 a b = m.1 a b := by
  have n24 : (24 : Int32).toNatClampNeg = 24 := rfl
  have n25 : (25 : Int32).toNatClampNeg = 25 := rfl
  have n26 : (26 : Int32).toNatClampNeg = 26 := rfl
  have n27 : (27 : Int32).toNatClampNeg = 27 := rfl
  have c0 : (0 : Int32).toInt = 0 := rfl
  generalize hu : F_X8_firstDraft 0 m = u
  unfold F_X8_firstDraft at hu
  rw [n24, n25, n26, n27] at hu
  obtain ⟨N, hN⟩ : ∃ N : Nat, N = (2147483647 - (0 : Int32).toInt).toNat := ⟨_, rfl⟩
  rw [← hN] at hu
  obtain ⟨P2, e2, hu⟩ := xl_e hu
  have Lp : ∀ (n : Nat) (y : Int32) (x : St), (2147483647 - y.toInt).toNat < n → 0 ≤ y.toInt → y.toInt ≤ 54 → (∀ b : Nat, (b : Int) < y.toInt → x.1 4 b = 0) → (∀ b : Nat, b < 54 → (lp P2 (fun _ _ => m) n y x).1 4 b = fd b) ∧ ((lp P2 (fun _ _ => m) n y x).1 0 6 = 0 ∧ (lp P2 (fun _ _ => m) n y x).1 0 7 = 0 ∧ (lp P2 (fun _ _ => m) n y x).1 0 8 = 0 ∧ (lp P2 (fun _ _ => m) n y x).1 0 9 = 0 ∧ (lp P2 (fun _ _ => m) n y x).1 0 10 = (-4)) ∧ ∀ a b : Nat, (a ≠ 4 ∧ (a ≠ 0 ∨ b < 6 ∨ 10 < b)) → (lp P2 (fun _ _ => m) n y x).1 a b = x.1 a b := by
    intro n
    induction n with
    | zero => intro y x hm; exact absurd hm (Nat.not_lt_zero _)
    | succ n ih =>
      intro y x hm h0 h1 hz
      rw [lp_s]
      by_cases d : y.toInt < 54
      · have ep : P2 (lp P2 (fun _ _ => m) n) y x = lp P2 (fun _ _ => m) n (y + 1) (up1 x 4 y.toNatClampNeg 0) := by
          generalize lp P2 (fun _ _ => m) n = sf
          rw [e2]
          simp only [xl_d, Nat.reduceAdd]
          rw [if_pos d]
        rw [ep]
        have ey : (y + 1).toInt = y.toInt + 1 := adI rfl rfl (by omega) (by omega)
        have hcn := cnI (x := y) h0
        have q := ih (y + 1) (up1 x 4 y.toNatClampNeg 0) (by omega) (by omega) (by omega) (fun b hb => by
          by_cases e : b = y.toNatClampNeg
          · rw [e, up1_s]
          · rw [up1_n _ _ (by omega)]; exact hz b (by omega))
        exact ⟨q.1, q.2.1, fun a b z => by rw [q.2.2 a b z, up1_n _ _ (by omega)]⟩
      · generalize lp P2 (fun _ _ => m) n = sf
        have ep : P2 sf y x = up1 (up1 (up1 (up1 (up1 (up1 (up1 (up1 (up1 x 4 24 20) 4 25 2) 4 26 3) 4 27 20) 0 6 0) 0 7 0) 0 8 0) 0 9 0) 0 10 (-4) := by
          rw [e2]
          simp only [xl_d, Nat.reduceAdd]
          rw [if_neg d]
        rw [ep]
        refine ⟨fun b hb => ?_, ⟨?_, ?_, ?_, ?_, ?_⟩, fun a b z => ?_⟩
        · rw [up1_n _ _ (by omega), up1_n _ _ (by omega), up1_n _ _ (by omega), up1_n _ _ (by omega), up1_n _ _ (by omega)]
          unfold fd
          by_cases e27 : b = 27
          · subst e27; rw [up1_s]; rfl
          · rw [up1_n _ _ (by omega)]
            by_cases e26 : b = 26
            · subst e26; rw [up1_s]; rfl
            · rw [up1_n _ _ (by omega)]
              by_cases e25 : b = 25
              · subst e25; rw [up1_s]; rfl
              · rw [up1_n _ _ (by omega)]
                by_cases e24 : b = 24
                · subst e24; rw [up1_s]; rfl
                · rw [up1_n _ _ (by omega), if_neg e24, if_neg e25, if_neg e26, if_neg e27]
                  exact hz b (by omega)
        · rw [up1_n _ _ (by omega), up1_n _ _ (by omega), up1_n _ _ (by omega), up1_n _ _ (by omega), up1_s]
        · rw [up1_n _ _ (by omega), up1_n _ _ (by omega), up1_n _ _ (by omega), up1_s]
        · rw [up1_n _ _ (by omega), up1_n _ _ (by omega), up1_s]
        · rw [up1_n _ _ (by omega), up1_s]
        · rw [up1_s]
        · rw [up1_n _ _ (by omega), up1_n _ _ (by omega), up1_n _ _ (by omega), up1_n _ _ (by omega), up1_n _ _ (by omega), up1_n _ _ (by omega), up1_n _ _ (by omega), up1_n _ _ (by omega), up1_n _ _ (by omega)]
  have q := Lp (N + 1) 0 m (by rw [← hN]; exact Nat.lt_succ_self N) (by omega) (by omega) (fun b hb => by omega)
  rw [hu] at q
  exact q
/-- the draft is kept -/
def KD (m u : St) : Prop := (∀ b : Nat, b < 54 → ((∀ s : Nat, (s : Int) < (m.1 0 6).toInt → b ≠ 4 * s + 3) → u.1 1 b = m.1 4 b) ∧ ∀ s : Nat, (s : Int) < (m.1 0 6).toInt → b = 4 * s + 3 → u.1 1 b = (m.1 0 8 >>> (Int32.ofNat s &&& 31)) &&& 1) ∧ (u.1 0 3 = m.1 0 6 ∧ u.1 0 4 = m.1 0 7 ∧ u.1 3 0 = 0 ∧ u.1 3 1 = 0) ∧ ∀ a b : Nat, ((a ≠ 1 ∨ 54 ≤ b) ∧ (a ≠ 3 ∨ 2 ≤ b) ∧ (a ≠ 0 ∨ (b ≠ 3 ∧ b ≠ 4))) → u.1 a b = m.1 a b
theorem kdM (m : St) (h6 : 0 ≤ (m.1 0 6).toInt ∧ (m.1 0 6).toInt ≤ 5) : KD m (F_X8_keepDraft 0 m) := by
  have n0 : (0 : Int32).toNatClampNeg = 0 := rfl
  have n1 : (1 : Int32).toNatClampNeg = 1 := rfl
  have c0 : (0 : Int32).toInt = 0 := rfl
  have cb : vp_nar .boolean (0 : Int32) = 0 := rfl
  generalize hu : F_X8_keepDraft 0 m = u
  unfold F_X8_keepDraft at hu
  rw [n0, n1, cb] at hu
  obtain ⟨N, hN⟩ : ∃ N : Nat, N = (2147483647 - (0 : Int32).toInt).toNat := ⟨_, rfl⟩
  rw [← hN] at hu
  obtain ⟨P44, e44, hu⟩ := xl_e hu
  obtain ⟨P2, e2, hu⟩ := xl_e hu
  have L44 : ∀ (n : Nat) (y : Int32) (x : St), (2147483647 - y.toInt).toNat < n → 0 ≤ y.toInt → y.toInt ≤ (m.1 0 6).toInt → x.1 0 3 = m.1 0 6 → x.1 0 4 = m.1 0 7 → x.1 0 8 = m.1 0 8 → (∀ b : Nat, b < 54 → ((∀ s : Nat, (s : Int) < y.toInt → b ≠ 4 * s + 3) → x.1 1 b = m.1 4 b) ∧ ∀ s : Nat, (s : Int) < y.toInt → b = 4 * s + 3 → x.1 1 b = (m.1 0 8 >>> (Int32.ofNat s &&& 31)) &&& 1) → (∀ a b : Nat, ((a ≠ 1 ∨ 54 ≤ b) ∧ (a ≠ 3 ∨ 2 ≤ b) ∧ (a ≠ 0 ∨ (b ≠ 3 ∧ b ≠ 4))) → x.1 a b = m.1 a b) → KD m (lp P44 (fun _ _ => m) n y x) := by
    intro n
    induction n with
    | zero => intro y x hm; exact absurd hm (Nat.not_lt_zero _)
    | succ n ih =>
      intro y x hm h0 h1 g3 g4 g8 gb gf
      rw [lp_s]
      by_cases d : y.toInt < (m.1 0 6).toInt
      · have m4 : ((4 : Int32) * y).toInt = 4 * y.toInt := mlI rfl rfl (by omega) (by omega)
        have a3 : ((4 : Int32) * y + 3).toInt = 4 * y.toInt + 3 := adI m4 rfl (by omega) (by omega)
        have hc3 := cnI (x := (4 : Int32) * y + 3) (by omega)
        have ey : (y + 1).toInt = y.toInt + 1 := adI rfl rfl (by omega) (by omega)
        have hcn := cnI (x := y) h0
        have hyo : y = Int32.ofNat y.toNatClampNeg := i32_of hcn.symm (by omega)
        have ep : P44 (lp P44 (fun _ _ => m) n) y x = lp P44 (fun _ _ => m) n (y + 1) (up1 x 1 ((4 : Int32) * y + 3).toNatClampNeg ((m.1 0 8 >>> (y &&& 31)) &&& 1)) := by
          generalize lp P44 (fun _ _ => m) n = sf
          rw [e44]
          simp only [xl_d, Nat.reduceAdd]
          rw [g3, g8, if_pos d]
        rw [ep]
        refine ih (y + 1) _ (by omega) (by omega) (by omega) (by rw [up1_n _ _ (by omega)]; exact g3) (by rw [up1_n _ _ (by omega)]; exact g4) (by rw [up1_n _ _ (by omega)]; exact g8) (fun b hb => ⟨fun z => ?_, fun s hs e => ?_⟩) (fun a b z => by rw [up1_n _ _ (by omega)]; exact gf a b z)
        · have := z y.toNatClampNeg (by omega)
          rw [up1_n _ _ (by omega)]
          exact (gb b hb).1 (fun s hs => z s (by omega))
        · by_cases es : s = y.toNatClampNeg
          · rw [show b = ((4 : Int32) * y + 3).toNatClampNeg by omega, up1_s, es, ← hyo]
          · rw [up1_n _ _ (by omega)]
            exact (gb b hb).2 s (by omega) e
      · generalize lp P44 (fun _ _ => m) n = sf
        have ep : P44 sf y x = up1 (up1 x 3 0 0) 3 1 0 := by
          rw [e44]
          simp only [xl_d, Nat.reduceAdd]
          rw [g3, if_neg d]
        rw [ep]
        have hy : y.toInt = (m.1 0 6).toInt := by omega
        rw [hy] at gb
        refine ⟨fun b hb => ?_, ⟨?_, ?_, ?_, ?_⟩, fun a b z => ?_⟩
        · rw [up1_n _ _ (by omega), up1_n _ _ (by omega)]; exact gb b hb
        · rw [up1_n _ _ (by omega), up1_n _ _ (by omega)]; exact g3
        · rw [up1_n _ _ (by omega), up1_n _ _ (by omega)]; exact g4
        · rw [up1_n _ _ (by omega), up1_s]
        · rw [up1_s]
        · rw [up1_n _ _ (by omega), up1_n _ _ (by omega)]; exact gf a b z
  have L2 : ∀ (n : Nat) (y : Int32) (x : St), (2147483647 - y.toInt).toNat < n → 0 ≤ y.toInt → y.toInt ≤ 54 → (∀ b : Nat, (b : Int) < y.toInt → x.1 1 b = m.1 4 b) → (∀ a b : Nat, (a ≠ 1 ∨ 54 ≤ b) → x.1 a b = m.1 a b) → KD m (lp P2 (fun _ _ => m) n y x) := by
    intro n
    induction n with
    | zero => intro y x hm; exact absurd hm (Nat.not_lt_zero _)
    | succ n ih =>
      intro y x hm h0 h1 hz hfr
      rw [lp_s]
      by_cases d : y.toInt < 54
      · have hcn := cnI (x := y) h0
        have ep : P2 (lp P2 (fun _ _ => m) n) y x = lp P2 (fun _ _ => m) n (y + 1) (up1 x 1 y.toNatClampNeg (m.1 4 y.toNatClampNeg)) := by
          generalize lp P2 (fun _ _ => m) n = sf
          rw [e2]
          simp only [xl_d, Nat.reduceAdd]
          rw [if_pos d, hfr 4 _ (by omega)]
        rw [ep]
        have ey : (y + 1).toInt = y.toInt + 1 := adI rfl rfl (by omega) (by omega)
        refine ih (y + 1) _ (by omega) (by omega) (by omega) (fun b hb => ?_) (fun a b z => by rw [up1_n _ _ (by omega)]; exact hfr a b z)
        by_cases e : b = y.toNatClampNeg
        · rw [e, up1_s]
        · rw [up1_n _ _ (by omega)]; exact hz b (by omega)
      · generalize lp P2 (fun _ _ => m) n = sf
        have ep : P2 sf y x = lp P44 (fun _ _ => m) (N + 1) 0 (up1 (up1 x 0 3 (m.1 0 6)) 0 4 (m.1 0 7)) := by
          rw [e2]
          simp only [xl_d, Nat.reduceAdd]
          rw [if_neg d, hfr 0 6 (by omega), up1_n _ _ (by omega), hfr 0 7 (by omega)]
        rw [ep]
        refine L44 (N + 1) 0 _ (by rw [← hN]; exact Nat.lt_succ_self N) (by omega) (by omega) ?_ ?_ ?_ (fun b hb => ⟨fun _ => ?_, fun s hs => by omega⟩) (fun a b z => ?_)
        · rw [up1_n _ _ (by omega), up1_s]
        · rw [up1_s]
        · rw [up1_n _ _ (by omega), up1_n _ _ (by omega)]; exact hfr 0 8 (by omega)
        · rw [up1_n _ _ (by omega), up1_n _ _ (by omega)]; exact hz b (by omega)
        · rw [up1_n _ _ (by omega), up1_n _ _ (by omega)]; exact hfr a b (by omega)
  rw [← hu]
  exact L2 (N + 1) 0 m (by rw [← hN]; exact Nat.lt_succ_self N) (by omega) (by omega) (fun b hb => by omega) (fun _ _ _ => rfl)
