/-! the bytes of a text, by numbers: blanks are skipped (skp), a run goes on (rn), kinds (kd), where a token ends (rq), what a number is (vl) -/
def okB (B : Int → Int) (L : Int) : Prop := 0 ≤ L ∧ L ≤ 160 ∧ ∀ i, (-1 ≤ B i ∧ B i ≤ 127) ∧ (B i = -1 ↔ (i < 0 ∨ L ≤ i))
def skpF (B : Int → Int) : Nat → Int → Int
  | 0, p => p
  | n + 1, p => if B p = 32 then skpF B n (p + 1) else p
def skp (B : Int → Int) (p : Int) : Int := skpF B (161 - p).toNat p
theorem skp_s {B : Int → Int} {L p : Int} (h : okB B L) (hp : B p = 32) : skp B p = skp B (p + 1) := by
  have h1 := (h.2.2 p).2
  have h2 := h.2.1
  unfold skp
  have e : (161 - p).toNat = (161 - (p + 1)).toNat + 1 := by omega
  rw [e]
  show (if B p = 32 then _ else _) = _
  rw [if_pos hp]
theorem skp_e {B : Int → Int} {p : Int} (hp : ¬ B p = 32) : skp B p = p := by
  unfold skp
  cases (161 - p).toNat with
  | zero => rfl
  | succ n =>
    show (if B p = 32 then _ else _) = _
    rw [if_neg hp]
theorem skpF_r {B : Int → Int} {L : Int} (h : okB B L) : ∀ (n : Nat) (p : Int), p + n = 161 → 0 ≤ p → p ≤ L → p ≤ skpF B n p ∧ skpF B n p ≤ L ∧ ¬ B (skpF B n p) = 32 := by
  intro n
  induction n with
  | zero => intro p h1 h2 h3; have := h.2.1; omega
  | succ n ih =>
    intro p h1 h2 h3
    show p ≤ (if B p = 32 then _ else _) ∧ (if B p = 32 then _ else _) ≤ L ∧ ¬ B (if B p = 32 then _ else _) = 32
    have h4 := (h.2.2 p).2
    by_cases hp : B p = 32
    · rw [if_pos hp]
      have := ih (p + 1) (by omega) (by omega) (by omega)
      exact ⟨by omega, this.2.1, this.2.2⟩
    · rw [if_neg hp]
      exact ⟨Int.le_refl _, h3, hp⟩
theorem skp_r {B : Int → Int} {L p : Int} (h : okB B L) (h2 : 0 ≤ p) (h3 : p ≤ L) : p ≤ skp B p ∧ skp B p ≤ L ∧ ¬ B (skp B p) = 32 := by
  have := h.2.1
  exact skpF_r h _ p (by omega) h2 h3
def rnF (a b : Int) (B : Int → Int) : Nat → Int → Int
  | 0, p => p
  | n + 1, p => if a ≤ B p ∧ B p ≤ b then rnF a b B n (p + 1) else p
def rn (a b : Int) (B : Int → Int) (p : Int) : Int := rnF a b B (161 - p).toNat p
theorem rn_s {a b : Int} {B : Int → Int} {L p : Int} (h : okB B L) (ha : 0 ≤ a) (hp : a ≤ B p ∧ B p ≤ b) : rn a b B p = rn a b B (p + 1) := by
  have h1 := (h.2.2 p).2
  have h2 := h.2.1
  unfold rn
  have e : (161 - p).toNat = (161 - (p + 1)).toNat + 1 := by omega
  rw [e]
  show (if a ≤ B p ∧ B p ≤ b then _ else _) = _
  rw [if_pos hp]
theorem rn_e {a b : Int} {B : Int → Int} {p : Int} (hp : ¬ (a ≤ B p ∧ B p ≤ b)) : rn a b B p = p := by
  unfold rn
  cases (161 - p).toNat with
  | zero => rfl
  | succ n =>
    show (if a ≤ B p ∧ B p ≤ b then _ else _) = _
    rw [if_neg hp]
theorem rnF_r {a b : Int} {B : Int → Int} {L : Int} (h : okB B L) (ha : 0 ≤ a) : ∀ (n : Nat) (p : Int), p + n = 161 → 0 ≤ p → p ≤ L → p ≤ rnF a b B n p ∧ rnF a b B n p ≤ L := by
  intro n
  induction n with
  | zero => intro p h1 h2 h3; have := h.2.1; omega
  | succ n ih =>
    intro p h1 h2 h3
    show p ≤ (if a ≤ B p ∧ B p ≤ b then _ else _) ∧ (if a ≤ B p ∧ B p ≤ b then _ else _) ≤ L
    have h4 := (h.2.2 p).2
    by_cases hp : a ≤ B p ∧ B p ≤ b
    · rw [if_pos hp]
      have := ih (p + 1) (by omega) (by omega) (by omega)
      exact ⟨by omega, this.2⟩
    · rw [if_neg hp]
      exact ⟨Int.le_refl _, h3⟩
theorem rn_r {a b : Int} {B : Int → Int} {L p : Int} (h : okB B L) (ha : 0 ≤ a) (h2 : 0 ≤ p) (h3 : p ≤ L) : p ≤ rn a b B p ∧ rn a b B p ≤ L := by
  have := h.2.1
  exact rnF_r h ha _ p (by omega) h2 h3
def kd (c : Int) : Int := if c = -1 then 0 else if 97 ≤ c ∧ c ≤ 122 then 1 else if 48 ≤ c ∧ c ≤ 57 then 2 else if c = 59 then 3 else 5
def rq (B : Int → Int) (f : Int) : Int := if 97 ≤ B f ∧ B f ≤ 122 then rn 97 122 B f else if 48 ≤ B f ∧ B f ≤ 57 then rn 48 57 B f else if B f = -1 then f else f + 1
def vl (B : Int → Int) (f : Int) : Int := if rq B f = f + 1 then B f - 48 else 10 * (B f - 48) + (B (f + 1) - 48)
theorem rq_r {B : Int → Int} {L f : Int} (h : okB B L) (h2 : 0 ≤ f) (h3 : f ≤ L) : f ≤ rq B f ∧ rq B f ≤ L ∧ (¬ B f = -1 → f < rq B f) := by
  have h4 := h.2.2 f
  unfold rq
  by_cases c1 : 97 ≤ B f ∧ B f ≤ 122
  · rw [if_pos c1, rn_s h (by omega) c1]
    have := rn_r (a := 97) (b := 122) h (by omega) (p := f + 1) (by omega) (by omega)
    omega
  · rw [if_neg c1]
    by_cases c2 : 48 ≤ B f ∧ B f ≤ 57
    · rw [if_pos c2, rn_s h (by omega) c2]
      have := rn_r (a := 48) (b := 57) h (by omega) (p := f + 1) (by omega) (by omega)
      omega
    · rw [if_neg c2]
      by_cases c3 : B f = -1
      · rw [if_pos c3]; omega
      · rw [if_neg c3]; omega
theorem kd_2 {c : Int} (h : kd c = 2) : 48 ≤ c ∧ c ≤ 57 := by
  unfold kd at h
  split at h
  · omega
  · split at h
    · omega
    · split at h
      · assumption
      · split at h <;> omega
theorem kd_0 {c : Int} (h : kd c = 0) : c = -1 := by
  unfold kd at h
  split at h
  · assumption
  · split at h
    · omega
    · split at h
      · omega
      · split at h <;> omega
theorem kd_9 {c : Int} : 0 ≤ kd c ∧ kd c ≤ 5 := by
  unfold kd
  split
  · omega
  · split
    · omega
    · split
      · omega
      · split <;> omega
theorem kd_n {c : Int} (h : c = -1) : kd c = 0 := if_pos h
theorem vl_r {B : Int → Int} {L f : Int} (h : okB B L) (h2 : 0 ≤ f) (h3 : f ≤ L) (hk : kd (B f) = 2) (hq : ¬ f + 2 < rq B f) : 0 ≤ vl B f ∧ vl B f ≤ 99 := by
  have k2 := kd_2 hk
  have hr := rq_r h h2 h3
  unfold vl
  by_cases c : rq B f = f + 1
  · rw [if_pos c]; omega
  · rw [if_neg c]
    have e : rq B f = f + 2 := by omega
    have e2 : rq B f = rn 48 57 B (f + 1) := by
      unfold rq
      rw [if_neg (by omega), if_pos k2, rn_s h (by omega) k2]
    by_cases d : 48 ≤ B (f + 1) ∧ B (f + 1) ≤ 57
    · omega
    · rw [rn_e d] at e2; omega
theorem kd_sp (c : Int) : (c = -1 → kd c = 0) ∧ (97 ≤ c → c ≤ 122 → kd c = 1) ∧ (48 ≤ c → c ≤ 57 → kd c = 2) ∧ (c = 59 → kd c = 3) ∧ (¬ c = -1 → ¬ (97 ≤ c ∧ c ≤ 122) → ¬ (48 ≤ c ∧ c ≤ 57) → ¬ c = 59 → kd c = 5) := by
  unfold kd
  refine ⟨fun h => if_pos h, fun h1 h2 => ?_, fun h1 h2 => ?_, fun h => ?_, fun h1 h2 h3 h4 => ?_⟩
  · rw [if_neg (by omega), if_pos ⟨h1, h2⟩]
  · rw [if_neg (by omega), if_neg (by omega), if_pos ⟨h1, h2⟩]
  · rw [if_neg (by omega), if_neg (by omega), if_neg (by omega), if_pos h]
  · rw [if_neg h1, if_neg h2, if_neg h3, if_neg h4]
theorem rq_1 {B : Int → Int} {L f : Int} (h : okB B L) (hk : kd (B f) = 1) : rq B f = rn 97 122 B (f + 1) := by
  have hs := kd_sp (B f)
  have c : 97 ≤ B f ∧ B f ≤ 122 := by
    by_cases c1 : B f = -1
    · have := hs.1 c1; omega
    · by_cases c2 : 48 ≤ B f ∧ B f ≤ 57
      · have := hs.2.2.1 c2.1 c2.2; omega
      · by_cases c3 : B f = 59
        · have := hs.2.2.2.1 c3; omega
        · by_cases c4 : 97 ≤ B f ∧ B f ≤ 122
          · exact c4
          · have := hs.2.2.2.2 c1 c4 c2 c3; omega
  unfold rq
  rw [if_pos c, rn_s h (by omega) c]
theorem rq_2 {B : Int → Int} {L f : Int} (h : okB B L) (hk : kd (B f) = 2) : rq B f = rn 48 57 B (f + 1) := by
  have c := kd_2 hk
  unfold rq
  rw [if_neg (by omega), if_pos c, rn_s h (by omega) c]
theorem rq_n {B : Int → Int} {f : Int} (h1 : ¬ kd (B f) = 1) (h2 : ¬ kd (B f) = 2) : (kd (B f) = 0 → rq B f = f) ∧ (¬ kd (B f) = 0 → rq B f = f + 1) := by
  have hs := kd_sp (B f)
  have n1 : ¬ (97 ≤ B f ∧ B f ≤ 122) := fun z => h1 (hs.2.1 z.1 z.2)
  have n2 : ¬ (48 ≤ B f ∧ B f ≤ 57) := fun z => h2 (hs.2.2.1 z.1 z.2)
  unfold rq
  rw [if_neg n1, if_neg n2]
  refine ⟨fun z => ?_, fun z => ?_⟩
  · rw [if_pos (kd_0 z)]
  · rw [if_neg (fun y => z (hs.1 y))]
theorem vl_of {B : Int → Int} {f x : Int} (h1 : f < rq B f) (h2 : ¬ f + 2 < rq B f) (q1 : rq B f = f + 1 → x = B f - 48) (q2 : rq B f = f + 2 → x = 10 * (B f - 48) + (B (f + 1) - 48)) : x = vl B f := by
  unfold vl
  by_cases c : rq B f = f + 1
  · rw [if_pos c]; exact q1 c
  · rw [if_neg c]; exact q2 (by omega)
