/-! the text as both tell it. B: what byteAt answers; L: the tape's length; a PS is a state of the reading: row 0 holds 0 kind, 1 first, 2 behind, 3 value, 4 whether a fault was found, 5 where, 6..9 which lines were told, 10 stars, 11 walkers, 12 known, 13 miles, 14 broad, 15 till, 16 water, 17 clouds, 18 planned, 19 the highest star that is named, 20 lines; row 1 the plan, 2 from, 3 to, 4 off, 5 kinds -/
abbrev PS : Type := Nat → Nat → Int
def pu (p : PS) (k j : Nat) (x : Int) : PS := fun a b => if a = k ∧ b = j then x else p a b
theorem pu_s {p : PS} {k j : Nat} {x : Int} : pu p k j x k j = x := by simp [pu]
theorem pu_n {p : PS} {k j a b : Nat} {x : Int} (h : a ≠ k ∨ b ≠ j) : pu p k j x a b = p a b := by
  unfold pu
  rw [if_neg (by omega)]
def flt (a : Int) : PS := fun k j => if k = 0 ∧ j = 4 then 1 else if k = 0 ∧ j = 5 then a else 0
theorem flt_4 {a : Int} : flt a 0 4 = 1 := rfl
theorem flt_5 {a : Int} : flt a 0 5 = a := rfl
def okB (B : Int → Int) (L : Int) : Prop := 0 ≤ L ∧ L ≤ 160 ∧ ∀ i, (-1 ≤ B i ∧ B i ≤ 127) ∧ (B i = -1 ↔ (i < 0 ∨ L ≤ i))
def skpF (B : Int → Int) : Nat → Int → Int
  | 0, p => p
  | n + 1, p => if B p = 32 then skpF B n (p + 1) else p
def skp (B : Int → Int) (p : Int) : Int := skpF B (161 - p).toNat p
theorem skp_s {B : Int → Int} {L p : Int} (h : okB B L) (hp : B p = 32) : skp B p = skp B (p + 1) := by
  have h1 := (h.2.2 p).2
  have h2 := h.2.1
  unfold skp
  have e : (161 - p).toNat = (161 - (p + 1)).toNat + 1 := by omega
  rw [e]
  show (if B p = 32 then _ else _) = _
  rw [if_pos hp]
theorem skp_e {B : Int → Int} {p : Int} (hp : ¬ B p = 32) : skp B p = p := by
  unfold skp
  cases (161 - p).toNat with
  | zero => rfl
  | succ n =>
    show (if B p = 32 then _ else _) = _
    rw [if_neg hp]
theorem skpF_r {B : Int → Int} {L : Int} (h : okB B L) : ∀ (n : Nat) (p : Int), p + n = 161 → 0 ≤ p → p ≤ L → p ≤ skpF B n p ∧ skpF B n p ≤ L ∧ ¬ B (skpF B n p) = 32 := by
  intro n
  induction n with
  | zero => intro p h1 h2 h3; have := h.2.1; omega
  | succ n ih =>
    intro p h1 h2 h3
    show p ≤ (if B p = 32 then _ else _) ∧ (if B p = 32 then _ else _) ≤ L ∧ ¬ B (if B p = 32 then _ else _) = 32
    have h4 := (h.2.2 p).2
    by_cases hp : B p = 32
    · rw [if_pos hp]
      have := ih (p + 1) (by omega) (by omega) (by omega)
      exact ⟨by omega, this.2.1, this.2.2⟩
    · rw [if_neg hp]
      exact ⟨Int.le_refl _, h3, hp⟩
theorem skp_r {B : Int → Int} {L p : Int} (h : okB B L) (h2 : 0 ≤ p) (h3 : p ≤ L) : p ≤ skp B p ∧ skp B p ≤ L ∧ ¬ B (skp B p) = 32 := by
  have := h.2.1
  exact skpF_r h _ p (by omega) h2 h3
def rnF (a b : Int) (B : Int → Int) : Nat → Int → Int
  | 0, p => p
  | n + 1, p => if a ≤ B p ∧ B p ≤ b then rnF a b B n (p + 1) else p
def rn (a b : Int) (B : Int → Int) (p : Int) : Int := rnF a b B (161 - p).toNat p
theorem rn_s {a b : Int} {B : Int → Int} {L p : Int} (h : okB B L) (ha : 0 ≤ a) (hp : a ≤ B p ∧ B p ≤ b) : rn a b B p = rn a b B (p + 1) := by
  have h1 := (h.2.2 p).2
  have h2 := h.2.1
  unfold rn
  have e : (161 - p).toNat = (161 - (p + 1)).toNat + 1 := by omega
  rw [e]
  show (if a ≤ B p ∧ B p ≤ b then _ else _) = _
  rw [if_pos hp]
theorem rn_e {a b : Int} {B : Int → Int} {p : Int} (hp : ¬ (a ≤ B p ∧ B p ≤ b)) : rn a b B p = p := by
  unfold rn
  cases (161 - p).toNat with
  | zero => rfl
  | succ n =>
    show (if a ≤ B p ∧ B p ≤ b then _ else _) = _
    rw [if_neg hp]
theorem rnF_r {a b : Int} {B : Int → Int} {L : Int} (h : okB B L) (ha : 0 ≤ a) : ∀ (n : Nat) (p : Int), p + n = 161 → 0 ≤ p → p ≤ L → p ≤ rnF a b B n p ∧ rnF a b B n p ≤ L := by
  intro n
  induction n with
  | zero => intro p h1 h2 h3; have := h.2.1; omega
  | succ n ih =>
    intro p h1 h2 h3
    show p ≤ (if a ≤ B p ∧ B p ≤ b then _ else _) ∧ (if a ≤ B p ∧ B p ≤ b then _ else _) ≤ L
    have h4 := (h.2.2 p).2
    by_cases hp : a ≤ B p ∧ B p ≤ b
    · rw [if_pos hp]
      have := ih (p + 1) (by omega) (by omega) (by omega)
      exact ⟨by omega, this.2⟩
    · rw [if_neg hp]
      exact ⟨Int.le_refl _, h3⟩
theorem rn_r {a b : Int} {B : Int → Int} {L p : Int} (h : okB B L) (ha : 0 ≤ a) (h2 : 0 ≤ p) (h3 : p ≤ L) : p ≤ rn a b B p ∧ rn a b B p ≤ L := by
  have := h.2.1
  exact rnF_r h ha _ p (by omega) h2 h3
def kd (c : Int) : Int := if c = -1 then 0 else if 97 ≤ c ∧ c ≤ 122 then 1 else if 48 ≤ c ∧ c ≤ 57 then 2 else if c = 59 then 3 else 5
def rq (B : Int → Int) (f : Int) : Int := if 97 ≤ B f ∧ B f ≤ 122 then rn 97 122 B f else if 48 ≤ B f ∧ B f ≤ 57 then rn 48 57 B f else if B f = -1 then f else f + 1
def vl (B : Int → Int) (f : Int) : Int := if rq B f = f + 1 then B f - 48 else 10 * (B f - 48) + (B (f + 1) - 48)
def tk1 (B : Int → Int) (f : Int) (p : PS) : PS := if kd (B f) = 5 ∨ (kd (B f) = 2 ∧ f + 2 < rq B f) then flt f else pu (pu (pu (pu p 0 0 (kd (B f))) 0 1 f) 0 2 (rq B f)) 0 3 (vl B f)
def tkS (B : Int → Int) (p : PS) : PS := if p 0 4 = 0 then tk1 B (skp B (p 0 2)) p else p
def ndS (d : Int) (p : PS) : PS := if p 0 4 = 0 then (if p 0 0 = d then p else flt (p 0 1)) else p
def wiS (a b : Int) (p : PS) : PS := if p 0 4 = 0 then (if a ≤ p 0 3 ∧ p 0 3 ≤ b then p else flt (p 0 1)) else p
def rfS (a : Int) (p : PS) : PS := if p 0 4 = 0 then flt a else p
def nuS (B : Int → Int) (a b : Int) (p : PS) : PS := wiS a b (ndS 2 (tkS B p))
def stS (B : Int → Int) (p : PS) : PS := ndS 3 (tkS B p)
def mnS (n : Nat) (m : Int) (p : PS) : PS := if p 0 4 = 0 then (if p 0 n < m then p else flt (p 0 1)) else p
def onS (j : Nat) (p : PS) : PS := if p 0 4 = 0 then (if p 0 j = 0 then pu p 0 j 1 else flt (p 0 1)) else p
def psS (j : Nat) (x : Int) (p : PS) : PS := if p 0 4 = 0 then pu p 0 j x else p
def bt (m s : Int) : Int := ((Int32.ofInt m >>> (Int32.ofInt s &&& 31)) &&& 1).toInt
def sb (m s : Int) : Int := (Int32.ofInt m ||| ((1 : Int32) <<< (Int32.ofInt s &&& 31))).toInt
def asS (a b c : Int) (p : PS) : PS := if p 0 4 = 0 then (fun k j => if k = 0 ∧ j = 10 then p 0 10 + 1 else if k = 2 ∧ (j : Int) = p 0 10 then a else if k = 3 ∧ (j : Int) = p 0 10 then b else if k = 4 ∧ (j : Int) = p 0 10 then c else p k j) else p
def awS (a : Int) (p : PS) : PS := if p 0 4 = 0 then (fun k j => if k = 0 ∧ j = 11 then p 0 11 + 1 else if k = 5 ∧ (j : Int) = p 0 11 then a else p k j) else p
/-- is the bit there already? -/
def kaS (n : Nat) (p : PS) : PS := if p 0 4 = 0 then (if bt (p 0 n) (p 0 3) = 0 then p else flt (p 0 1)) else p
def hiS (s : Int) (p : PS) : Int := if p 0 19 < s then s else p 0 19
def ksS (s : Int) (p : PS) : PS := if p 0 4 = 0 then pu (pu p 0 12 (sb (p 0 12) s)) 0 19 (hiS s p) else p
def clS (s : Int) (p : PS) : PS := if p 0 4 = 0 then pu p 0 17 (sb (p 0 17) s) else p
/-- an aim of the plan -/
def paS (p : PS) : PS := if p 0 4 = 0 then (if (0 ≤ p 0 3 ∧ p 0 3 ≤ 6) ∧ p 0 18 < 8 then (fun k j => if k = 0 ∧ j = 18 then p 0 18 + 1 else if k = 0 ∧ j = 19 then (if p 0 3 < 5 then hiS (p 0 3) p else p 0 19) else if k = 1 ∧ (j : Int) = p 0 18 then p 0 3 else p k j) else flt (p 0 1)) else p
def plL (B : Int → Int) : Nat → PS → PS
  | 0, p => p
  | n + 1, p => if p 0 4 = 0 ∧ p 0 0 = 2 then plL B n (tkS B (paS p)) else p
def plS (B : Int → Int) (p : PS) : PS := plL B (10 - p 0 18).toNat p
def starS (B : Int → Int) (p : PS) : PS := asS (nuS B 0 9 (mnS 10 5 p) 0 3) (nuS B (nuS B 0 9 (mnS 10 5 p) 0 3) 9 (nuS B 0 9 (mnS 10 5 p)) 0 3) (nuS B 0 6 (nuS B (nuS B 0 9 (mnS 10 5 p) 0 3) 9 (nuS B 0 9 (mnS 10 5 p))) 0 3) (stS B (nuS B 0 6 (nuS B (nuS B 0 9 (mnS 10 5 p) 0 3) 9 (nuS B 0 9 (mnS 10 5 p)))))
def knownS (B : Int → Int) (p : PS) : PS := ksS (nuS B 0 4 p 0 3) (stS B (kaS 12 (nuS B 0 4 p)))
def cloudS (B : Int → Int) (p : PS) : PS := clS (nuS B 0 9 p 0 3) (stS B (kaS 17 (nuS B 0 9 p)))
def walkS (B : Int → Int) (a : Int) (p : PS) : PS := awS a (stS B (mnS 11 3 p))
def n1S (B : Int → Int) (a b : Int) (j : Nat) (p : PS) : PS := psS j (nuS B a b p 0 3) (nuS B a b p)
def wellS (B : Int → Int) (p : PS) : PS := stS B (n1S B 0 9 14 (n1S B 1 40 13 (onS 6 p)))
def windS (B : Int → Int) (p : PS) : PS := stS B (n1S B 0 10 15 (onS 7 p))
def waterS (B : Int → Int) (p : PS) : PS := stS B (n1S B 0 99 16 (onS 8 p))
def planS (B : Int → Int) (p : PS) : PS := ndS 3 (plS B (tkS B (onS 9 p)))
def nm4 (B : Int → Int) (p : PS) (a b c d : Int) : Prop := p 0 0 = 1 ∧ p 0 2 = p 0 1 + 4 ∧ B (p 0 1) = a ∧ B (p 0 1 + 1) = b ∧ B (p 0 1 + 2) = c ∧ B (p 0 1 + 3) = d
def nm5 (B : Int → Int) (p : PS) (a b c d e : Int) : Prop := p 0 0 = 1 ∧ p 0 2 = p 0 1 + 5 ∧ B (p 0 1) = a ∧ B (p 0 1 + 1) = b ∧ B (p 0 1 + 2) = c ∧ B (p 0 1 + 3) = d ∧ B (p 0 1 + 4) = e
theorem tkS_x {B : Int → Int} {p : PS} (h : ¬ p 0 4 = 0) : tkS B p = p := if_neg h
theorem ndS_x {d : Int} {p : PS} (h : ¬ p 0 4 = 0) : ndS d p = p := if_neg h
theorem wiS_x {a b : Int} {p : PS} (h : ¬ p 0 4 = 0) : wiS a b p = p := if_neg h
theorem nuS_x {B : Int → Int} {a b : Int} {p : PS} (h : ¬ p 0 4 = 0) : nuS B a b p = p := by unfold nuS; rw [tkS_x h, ndS_x h, wiS_x h]
theorem stS_x {B : Int → Int} {p : PS} (h : ¬ p 0 4 = 0) : stS B p = p := by unfold stS; rw [tkS_x h, ndS_x h]
theorem mnS_x {n : Nat} {m : Int} {p : PS} (h : ¬ p 0 4 = 0) : mnS n m p = p := if_neg h
theorem onS_x {j : Nat} {p : PS} (h : ¬ p 0 4 = 0) : onS j p = p := if_neg h
theorem psS_x {j : Nat} {x : Int} {p : PS} (h : ¬ p 0 4 = 0) : psS j x p = p := if_neg h
theorem kaS_x {n : Nat} {p : PS} (h : ¬ p 0 4 = 0) : kaS n p = p := if_neg h
theorem ksS_x {s : Int} {p : PS} (h : ¬ p 0 4 = 0) : ksS s p = p := if_neg h
theorem clS_x {s : Int} {p : PS} (h : ¬ p 0 4 = 0) : clS s p = p := if_neg h
theorem asS_x {a b c : Int} {p : PS} (h : ¬ p 0 4 = 0) : asS a b c p = p := if_neg h
theorem awS_x {a : Int} {p : PS} (h : ¬ p 0 4 = 0) : awS a p = p := if_neg h
theorem paS_x {p : PS} (h : ¬ p 0 4 = 0) : paS p = p := if_neg h
/-- the highest star that is named, against the stars known and the plan -/
def HS (p : PS) : Prop := (∀ i : Nat, (i : Int) < p 0 18 → 0 ≤ p 1 i ∧ p 1 i ≤ 6) ∧ ∀ s : Nat, s ≤ 5 → (p 0 19 < (s : Int) ↔ (p 0 12 < ((2 ^ s : Nat) : Int) ∧ ∀ i : Nat, (i : Int) < p 0 18 → p 1 i < 5 → p 1 i < (s : Int)))
/-- what the draft keeps -/
def PD (p : PS) : Prop := (0 ≤ p 0 10 ∧ p 0 10 ≤ 5) ∧ (0 ≤ p 0 11 ∧ p 0 11 ≤ 3) ∧ (0 ≤ p 0 18 ∧ p 0 18 ≤ 8) ∧ (0 ≤ p 0 12 ∧ p 0 12 ≤ 31) ∧ (0 ≤ p 0 17 ∧ p 0 17 ≤ 1023) ∧ (0 ≤ p 0 16 ∧ p 0 16 ≤ 99) ∧ (∀ j : Nat, 6 ≤ j → j ≤ 9 → p 0 j = 0 ∨ p 0 j = 1) ∧ (p 0 9 = 0 → p 0 18 = 0) ∧ (∀ i : Nat, (i : Int) < p 0 11 → 0 ≤ p 5 i ∧ p 5 i ≤ 3) ∧ HS p
/-- what the token keeps -/
def PT (L : Int) (p : PS) : Prop := (0 ≤ p 0 2 ∧ p 0 2 ≤ L) ∧ (¬ p 0 0 = -9 → 0 ≤ p 0 1 ∧ p 0 1 ≤ p 0 2 ∧ (p 0 0 = 0 → p 0 1 = L) ∧ (¬ p 0 0 = 0 → p 0 1 < p 0 2)) ∧ (p 0 0 = 2 → 0 ≤ p 0 3 ∧ p 0 3 ≤ 99)
/-- what a state of the reading keeps -/
def PI (B : Int → Int) (L : Int) (p : PS) : Prop := okB B L ∧ (p 0 4 = 0 ∨ p 0 4 = 1) ∧ (p 0 4 = 0 → PT L p ∧ PD p)
theorem PI.flt {B : Int → Int} {L a : Int} (h : okB B L) : PI B L (flt a) := ⟨h, Or.inr rfl, fun z => by rw [flt_4] at z; omega⟩
theorem PD.tok {p q : PS} (h : PD p) (e : ∀ a b : Nat, (a ≠ 0 ∨ 6 ≤ b) → q a b = p a b) : PD q := by
  unfold PD HS at h ⊢
  simp only [e 0 9 (by omega), e 0 10 (by omega), e 0 11 (by omega), e 0 12 (by omega), e 0 16 (by omega), e 0 17 (by omega), e 0 18 (by omega), e 0 19 (by omega)]
  have e1 : ∀ i : Nat, q 1 i = p 1 i := fun i => e 1 i (by omega)
  have e5 : ∀ i : Nat, q 5 i = p 5 i := fun i => e 5 i (by omega)
  simp only [e1, e5]
  obtain ⟨h1, h2, h3, h4, h5, h6, h7, h8⟩ := h
  exact ⟨h1, h2, h3, h4, h5, h6, fun j a b => by rw [e 0 j (by omega)]; exact h7 j a b, h8⟩
theorem PT.dr {L : Int} {p q : PS} (h : PT L p) (e : ∀ b : Nat, b < 4 → q 0 b = p 0 b) : PT L q := by
  unfold PT at h ⊢
  rw [e 0 (by omega), e 1 (by omega), e 2 (by omega), e 3 (by omega)]
  exact h
theorem rq_r {B : Int → Int} {L f : Int} (h : okB B L) (h2 : 0 ≤ f) (h3 : f ≤ L) : f ≤ rq B f ∧ rq B f ≤ L ∧ (¬ B f = -1 → f < rq B f) := by
  have h4 := h.2.2 f
  unfold rq
  by_cases c1 : 97 ≤ B f ∧ B f ≤ 122
  · rw [if_pos c1, rn_s h (by omega) c1]
    have := rn_r (a := 97) (b := 122) h (by omega) (p := f + 1) (by omega) (by omega)
    omega
  · rw [if_neg c1]
    by_cases c2 : 48 ≤ B f ∧ B f ≤ 57
    · rw [if_pos c2, rn_s h (by omega) c2]
      have := rn_r (a := 48) (b := 57) h (by omega) (p := f + 1) (by omega) (by omega)
      omega
    · rw [if_neg c2]
      by_cases c3 : B f = -1
      · rw [if_pos c3]; omega
      · rw [if_neg c3]; omega
theorem kd_2 {c : Int} (h : kd c = 2) : 48 ≤ c ∧ c ≤ 57 := by
  unfold kd at h
  split at h
  · omega
  · split at h
    · omega
    · split at h
      · assumption
      · split at h <;> omega
theorem kd_0 {c : Int} (h : kd c = 0) : c = -1 := by
  unfold kd at h
  split at h
  · assumption
  · split at h
    · omega
    · split at h
      · omega
      · split at h <;> omega
theorem kd_9 {c : Int} : 0 ≤ kd c ∧ kd c ≤ 5 := by
  unfold kd
  split
  · omega
  · split
    · omega
    · split
      · omega
      · split <;> omega
theorem kd_n {c : Int} (h : c = -1) : kd c = 0 := if_pos h
theorem vl_r {B : Int → Int} {L f : Int} (h : okB B L) (h2 : 0 ≤ f) (h3 : f ≤ L) (hk : kd (B f) = 2) (hq : ¬ f + 2 < rq B f) : 0 ≤ vl B f ∧ vl B f ≤ 99 := by
  have k2 := kd_2 hk
  have hr := rq_r h h2 h3
  unfold vl
  by_cases c : rq B f = f + 1
  · rw [if_pos c]; omega
  · rw [if_neg c]
    have e : rq B f = f + 2 := by omega
    have e2 : rq B f = rn 48 57 B (f + 1) := by
      unfold rq
      rw [if_neg (by omega), if_pos k2, rn_s h (by omega) k2]
    by_cases d : 48 ≤ B (f + 1) ∧ B (f + 1) ≤ 57
    · omega
    · rw [rn_e d] at e2; omega
theorem PI.tk {B : Int → Int} {L : Int} {p : PS} (h : PI B L p) : PI B L (tkS B p) := by
  obtain ⟨hB, h4, hp⟩ := h
  by_cases c : p 0 4 = 0
  · obtain ⟨⟨h2, h1, hv⟩, hpd⟩ := hp c
    have hs := skp_r hB h2.1 h2.2
    have hq := rq_r hB (f := skp B (p 0 2)) (by omega) hs.2.1
    unfold tkS
    rw [if_pos c]
    unfold tk1
    split
    · exact PI.flt hB
    · rename_i hn
      have hb := (hB.2.2 (skp B (p 0 2))).2
      refine ⟨hB, Or.inl ?_, fun _ => ⟨?_, hpd.tok (fun a b z => ?_)⟩⟩
      · rw [pu_n (by omega), pu_n (by omega), pu_n (by omega), pu_n (by omega)]; exact c
      · have e0 : pu (pu (pu (pu p 0 0 (kd (B (skp B (p 0 2))))) 0 1 (skp B (p 0 2))) 0 2 (rq B (skp B (p 0 2)))) 0 3 (vl B (skp B (p 0 2))) 0 0 = kd (B (skp B (p 0 2))) := by rw [pu_n (by omega), pu_n (by omega), pu_n (by omega), pu_s]
        have e1 : pu (pu (pu (pu p 0 0 (kd (B (skp B (p 0 2))))) 0 1 (skp B (p 0 2))) 0 2 (rq B (skp B (p 0 2)))) 0 3 (vl B (skp B (p 0 2))) 0 1 = skp B (p 0 2) := by rw [pu_n (by omega), pu_n (by omega), pu_s]
        have e2 : pu (pu (pu (pu p 0 0 (kd (B (skp B (p 0 2))))) 0 1 (skp B (p 0 2))) 0 2 (rq B (skp B (p 0 2)))) 0 3 (vl B (skp B (p 0 2))) 0 2 = rq B (skp B (p 0 2)) := by rw [pu_n (by omega), pu_s]
        have e3 : pu (pu (pu (pu p 0 0 (kd (B (skp B (p 0 2))))) 0 1 (skp B (p 0 2))) 0 2 (rq B (skp B (p 0 2)))) 0 3 (vl B (skp B (p 0 2))) 0 3 = vl B (skp B (p 0 2)) := pu_s
        unfold PT
        rw [e0, e1, e2, e3]
        refine ⟨by omega, fun _ => ⟨by omega, by omega, fun z => ?_, fun z => ?_⟩, fun z => vl_r hB (by omega) hs.2.1 z (fun y => hn (Or.inr ⟨z, y⟩))⟩
        · have := kd_0 z; omega
        · exact hq.2.2 (fun y => z (kd_n y))
      · rw [pu_n (by omega), pu_n (by omega), pu_n (by omega), pu_n (by omega)]
  · rw [tkS_x c]
    exact ⟨hB, h4, hp⟩
theorem PI.nd {B : Int → Int} {L d : Int} {p : PS} (h : PI B L p) : PI B L (ndS d p) := by
  unfold ndS
  split
  · split
    · exact h
    · exact PI.flt h.1
  · exact h
theorem PI.wi {B : Int → Int} {L a b : Int} {p : PS} (h : PI B L p) : PI B L (wiS a b p) := by
  unfold wiS
  split
  · split
    · exact h
    · exact PI.flt h.1
  · exact h
theorem PI.rf {B : Int → Int} {L a : Int} {p : PS} (h : PI B L p) : PI B L (rfS a p) := by
  unfold rfS
  split
  · exact PI.flt h.1
  · exact h
theorem PI.mn {B : Int → Int} {L m : Int} {n : Nat} {p : PS} (h : PI B L p) : PI B L (mnS n m p) := by
  unfold mnS
  split
  · split
    · exact h
    · exact PI.flt h.1
  · exact h
theorem PI.ka {B : Int → Int} {L : Int} {n : Nat} {p : PS} (h : PI B L p) : PI B L (kaS n p) := by
  unfold kaS
  split
  · split
    · exact h
    · exact PI.flt h.1
  · exact h
theorem PI.nu {B : Int → Int} {L a b : Int} {p : PS} (h : PI B L p) : PI B L (nuS B a b p) := h.tk.nd.wi
theorem PI.st {B : Int → Int} {L : Int} {p : PS} (h : PI B L p) : PI B L (stS B p) := h.tk.nd
theorem PI.on {B : Int → Int} {L : Int} {j : Nat} {p : PS} (h : PI B L p) (hj : 6 ≤ j ∧ j ≤ 9) : PI B L (onS j p) := by
  unfold onS
  split
  · rename_i c
    split
    · obtain ⟨hB, h4, hp⟩ := h
      obtain ⟨ht, ⟨h1, h2, h3, h5, h6, h7, h8, h9, h10, hs⟩⟩ := hp c
      refine ⟨hB, Or.inl (by rw [pu_n (by omega)]; exact c), fun _ => ⟨ht.dr (fun b hb => by rw [pu_n (by omega)]), ?_⟩⟩
      unfold PD HS
      simp only [pu_n (p := p) (k := 0) (j := j) (x := 1) (a := 0) (b := 10) (by omega), pu_n (p := p) (k := 0) (j := j) (x := 1) (a := 0) (b := 11) (by omega), pu_n (p := p) (k := 0) (j := j) (x := 1) (a := 0) (b := 18) (by omega), pu_n (p := p) (k := 0) (j := j) (x := 1) (a := 0) (b := 12) (by omega), pu_n (p := p) (k := 0) (j := j) (x := 1) (a := 0) (b := 17) (by omega), pu_n (p := p) (k := 0) (j := j) (x := 1) (a := 0) (b := 16) (by omega), pu_n (p := p) (k := 0) (j := j) (x := 1) (a := 0) (b := 19) (by omega)]
      have e1 : ∀ i : Nat, pu p 0 j 1 1 i = p 1 i := fun i => pu_n (by omega)
      have e5 : ∀ i : Nat, pu p 0 j 1 5 i = p 5 i := fun i => pu_n (by omega)
      simp only [e1, e5]
      refine ⟨h1, h2, h3, h5, h6, h7, fun i a b => ?_, fun z => ?_, h10, hs⟩
      · by_cases e : i = j
        · subst e; rw [pu_s]; exact Or.inr rfl
        · rw [pu_n (by omega)]; exact h8 i a b
      · by_cases e : j = 9
        · subst e; rw [pu_s] at z; omega
        · rw [pu_n (by omega)] at z; exact h9 z
    · exact PI.flt h.1
  · exact h
theorem PI.ps {B : Int → Int} {L x : Int} {j : Nat} {p : PS} (h : PI B L p) (hj : 13 ≤ j ∧ j ≤ 16) (hx : p 0 4 = 0 → j = 16 → 0 ≤ x ∧ x ≤ 99) : PI B L (psS j x p) := by
  unfold psS
  split
  · rename_i c
    obtain ⟨hB, h4, hp⟩ := h
    obtain ⟨ht, ⟨h1, h2, h3, h5, h6, h7, h8, h9, h10, hs⟩⟩ := hp c
    refine ⟨hB, Or.inl (by rw [pu_n (by omega)]; exact c), fun _ => ⟨ht.dr (fun b hb => by rw [pu_n (by omega)]), ?_⟩⟩
    unfold PD HS
    simp only [pu_n (p := p) (k := 0) (j := j) (x := x) (a := 0) (b := 10) (by omega), pu_n (p := p) (k := 0) (j := j) (x := x) (a := 0) (b := 11) (by omega), pu_n (p := p) (k := 0) (j := j) (x := x) (a := 0) (b := 18) (by omega), pu_n (p := p) (k := 0) (j := j) (x := x) (a := 0) (b := 12) (by omega), pu_n (p := p) (k := 0) (j := j) (x := x) (a := 0) (b := 17) (by omega), pu_n (p := p) (k := 0) (j := j) (x := x) (a := 0) (b := 9) (by omega), pu_n (p := p) (k := 0) (j := j) (x := x) (a := 0) (b := 19) (by omega)]
    have e1 : ∀ i : Nat, pu p 0 j x 1 i = p 1 i := fun i => pu_n (by omega)
    have e5 : ∀ i : Nat, pu p 0 j x 5 i = p 5 i := fun i => pu_n (by omega)
    simp only [e1, e5]
    refine ⟨h1, h2, h3, h5, h6, ?_, fun i a b => by rw [pu_n (by omega)]; exact h8 i a b, h9, h10, hs⟩
    by_cases e : j = 16
    · subst e; rw [pu_s]; exact hx c rfl
    · rw [pu_n (by omega)]; exact h7
  · exact h
theorem PI.as {B : Int → Int} {L a b c : Int} {p : PS} (h : PI B L p) (hs : p 0 4 = 0 → p 0 10 ≤ 4) : PI B L (asS a b c p) := by
  unfold asS
  split
  · rename_i z
    obtain ⟨hB, h4, hp⟩ := h
    obtain ⟨ht, ⟨h1, h2, h3, h5, h6, h7, h8, h9, h10, hh⟩⟩ := hp z
    have := hs z
    refine ⟨hB, Or.inl (by simp; exact z), fun _ => ⟨ht.dr (fun b hb => by simp; omega), ?_⟩⟩
    refine ⟨by simp; omega, by simpa using h2, by simpa using h3, by simpa using h5, by simpa using h6, by simpa using h7, fun j a b => ?_, by simpa using h9, fun i hi => by simpa using h10 i (by simpa using hi), ?_⟩
    · have e : ¬ j = 10 := by omega
      simpa [e] using h8 j a b
    · unfold HS at hh ⊢
      simpa using hh
  · exact h
theorem PI.aw {B : Int → Int} {L a : Int} {p : PS} (h : PI B L p) (hs : p 0 4 = 0 → p 0 11 ≤ 2 ∧ 0 ≤ a ∧ a ≤ 3) : PI B L (awS a p) := by
  unfold awS
  split
  · rename_i z
    obtain ⟨hB, h4, hp⟩ := h
    obtain ⟨ht, ⟨h1, h2, h3, h5, h6, h7, h8, h9, h10, hh⟩⟩ := hp z
    have := hs z
    refine ⟨hB, Or.inl (by simp; exact z), fun _ => ⟨ht.dr (fun b hb => by simp; omega), ?_⟩⟩
    refine ⟨by simpa using h1, by simp; omega, by simpa using h3, by simpa using h5, by simpa using h6, by simpa using h7, fun j a b => ?_, by simpa using h9, fun i hi => ?_, ?_⟩
    · have e : ¬ j = 11 := by omega
      simpa [e] using h8 j a b
    · simp at hi ⊢
      by_cases e : (i : Int) = p 0 11
      · simp [e]; omega
      · simp [e]; exact h10 i (by omega)
    · unfold HS at hh ⊢
      simpa using hh
  · exact h
theorem sb_31 : ∀ m : Nat, m < 32 → ∀ s : Nat, s < 5 → (0 ≤ sb m s ∧ sb m s ≤ 31 ∧ ∀ t : Nat, t < 6 → (sb m s < ((2 ^ t : Nat) : Int) ↔ (m < 2 ^ t ∧ s < t))) := by decide +kernel
theorem sb_1023 : ∀ m : Nat, m < 1024 → ∀ s : Nat, s < 10 → (0 ≤ sb m s ∧ sb m s ≤ 1023) := by decide +kernel
theorem sb_k {m s : Int} (h1 : 0 ≤ m) (h2 : m ≤ 31) (h3 : 0 ≤ s) (h4 : s ≤ 4) : 0 ≤ sb m s ∧ sb m s ≤ 31 ∧ ∀ t : Nat, t ≤ 5 → (sb m s < ((2 ^ t : Nat) : Int) ↔ (m < ((2 ^ t : Nat) : Int) ∧ s < (t : Int))) := by
  obtain ⟨a, rfl⟩ := Int.eq_ofNat_of_zero_le h1
  obtain ⟨b, rfl⟩ := Int.eq_ofNat_of_zero_le h3
  obtain ⟨q1, q2, q3⟩ := sb_31 a (by omega) b (by omega)
  refine ⟨q1, q2, fun t ht => ?_⟩
  rw [q3 t (by omega)]
  omega
theorem sb_c {m s : Int} (h1 : 0 ≤ m) (h2 : m ≤ 1023) (h3 : 0 ≤ s) (h4 : s ≤ 9) : 0 ≤ sb m s ∧ sb m s ≤ 1023 := by
  obtain ⟨a, rfl⟩ := Int.eq_ofNat_of_zero_le h1
  obtain ⟨b, rfl⟩ := Int.eq_ofNat_of_zero_le h3
  exact sb_1023 a (by omega) b (by omega)
theorem hi_lt {s t : Int} {p : PS} : hiS s p < t ↔ (p 0 19 < t ∧ s < t) := by
  unfold hiS
  split <;> omega
theorem PI.ks {B : Int → Int} {L s : Int} {p : PS} (h : PI B L p) (hs : p 0 4 = 0 → 0 ≤ s ∧ s ≤ 4) : PI B L (ksS s p) := by
  unfold ksS
  split
  · rename_i z
    obtain ⟨hB, h4, hp⟩ := h
    obtain ⟨ht, ⟨h1, h2, h3, h5, h6, h7, h8, h9, h10, hh⟩⟩ := hp z
    have hz := hs z
    have hk := sb_k h5.1 h5.2 hz.1 hz.2
    refine ⟨hB, Or.inl (by rw [pu_n (by omega), pu_n (by omega)]; exact z), fun _ => ⟨ht.dr (fun b hb => by rw [pu_n (by omega), pu_n (by omega)]), ?_⟩⟩
    have en : ∀ a b : Nat, (a ≠ 0 ∨ (b ≠ 12 ∧ b ≠ 19)) → pu (pu p 0 12 (sb (p 0 12) s)) 0 19 (hiS s p) a b = p a b := fun a b y => by rw [pu_n (by omega), pu_n (by omega)]
    have e12 : pu (pu p 0 12 (sb (p 0 12) s)) 0 19 (hiS s p) 0 12 = sb (p 0 12) s := by rw [pu_n (by omega), pu_s]
    have e19 : pu (pu p 0 12 (sb (p 0 12) s)) 0 19 (hiS s p) 0 19 = hiS s p := pu_s
    unfold PD HS
    simp only [en 0 10 (by omega), en 0 11 (by omega), en 0 18 (by omega), en 0 17 (by omega), en 0 16 (by omega), en 0 9 (by omega), e12, e19]
    have e1 : ∀ i : Nat, pu (pu p 0 12 (sb (p 0 12) s)) 0 19 (hiS s p) 1 i = p 1 i := fun i => en 1 i (by omega)
    have e5 : ∀ i : Nat, pu (pu p 0 12 (sb (p 0 12) s)) 0 19 (hiS s p) 5 i = p 5 i := fun i => en 5 i (by omega)
    simp only [e1, e5]
    refine ⟨h1, h2, h3, ⟨hk.1, hk.2.1⟩, h6, h7, fun i a b => by rw [en 0 i (by omega)]; exact h8 i a b, h9, h10, hh.1, fun t ht => ?_⟩
    rw [hi_lt, hk.2.2 t ht, hh.2 t ht]
    exact ⟨fun y => ⟨⟨y.1.1, y.2⟩, y.1.2⟩, fun y => ⟨⟨y.1.1, y.2⟩, y.1.2⟩⟩
  · exact h
theorem PI.cl {B : Int → Int} {L s : Int} {p : PS} (h : PI B L p) (hs : p 0 4 = 0 → 0 ≤ s ∧ s ≤ 9) : PI B L (clS s p) := by
  unfold clS
  split
  · rename_i z
    obtain ⟨hB, h4, hp⟩ := h
    obtain ⟨ht, ⟨h1, h2, h3, h5, h6, h7, h8, h9, h10, hh⟩⟩ := hp z
    have hz := hs z
    have hk := sb_c h6.1 h6.2 hz.1 hz.2
    refine ⟨hB, Or.inl (by rw [pu_n (by omega)]; exact z), fun _ => ⟨ht.dr (fun b hb => by rw [pu_n (by omega)]), ?_⟩⟩
    have en : ∀ a b : Nat, (a ≠ 0 ∨ b ≠ 17) → pu p 0 17 (sb (p 0 17) s) a b = p a b := fun a b y => by rw [pu_n (by omega)]
    unfold PD HS
    simp only [en 0 10 (by omega), en 0 11 (by omega), en 0 18 (by omega), en 0 12 (by omega), en 0 16 (by omega), en 0 9 (by omega), en 0 19 (by omega), pu_s]
    have e1 : ∀ i : Nat, pu p 0 17 (sb (p 0 17) s) 1 i = p 1 i := fun i => en 1 i (by omega)
    have e5 : ∀ i : Nat, pu p 0 17 (sb (p 0 17) s) 5 i = p 5 i := fun i => en 5 i (by omega)
    simp only [e1, e5]
    exact ⟨h1, h2, h3, h5, hk, h7, fun i a b => by rw [en 0 i (by omega)]; exact h8 i a b, h9, h10, hh⟩
  · exact h
theorem PI.pa {B : Int → Int} {L : Int} {p : PS} (h : PI B L p) (ho : p 0 4 = 0 → p 0 9 = 1) : PI B L (paS p) := by
  unfold paS
  split
  · rename_i z
    split
    · rename_i y
      obtain ⟨hB, h4, hp⟩ := h
      obtain ⟨ht, ⟨h1, h2, h3, h5, h6, h7, h8, h9, h10, hh⟩⟩ := hp z
      have h9' := ho z
      refine ⟨hB, Or.inl (by simp; exact z), fun _ => ⟨ht.dr (fun b hb => by rw [if_neg (by omega), if_neg (by omega), if_neg (by omega)]), ?_⟩⟩
      refine ⟨by simpa using h1, by simpa using h2, by simp; omega, by simpa using h5, by simpa using h6, by simpa using h7, fun j a b => ?_, fun q => ?_, fun i hi => by simpa using h10 i (by simpa using hi), ?_, fun t ht => ?_⟩
      · have a1 : ¬ j = 18 := by omega
        have a2 : ¬ j = 19 := by omega
        simpa [a1, a2] using h8 j a b
      · simp at q; omega
      · intro i hi
        simp at hi ⊢
        by_cases e : (i : Int) = p 0 18
        · simp [e]; exact y.1
        · simp [e]; exact hh.1 i (by omega)
      · have hx := hh.2 t ht
        simp
        constructor
        · intro q
          have q1 : p 0 19 < (t : Int) ∧ (p 0 3 < 5 → p 0 3 < (t : Int)) := by
            split at q
            · rw [hi_lt] at q; exact ⟨q.1, fun _ => q.2⟩
            · exact ⟨q, fun w => by omega⟩
          refine ⟨(hx.mp q1.1).1, fun i hi => ?_⟩
          by_cases e : (i : Int) = p 0 18
          · simp [e]; exact q1.2
          · simp [e]; exact (hx.mp q1.1).2 i (by omega)
        · intro q
          have q1 : p 0 19 < (t : Int) := hx.mpr ⟨q.1, fun i hi => by have := q.2 i (by omega); simpa [show ¬ (i : Int) = p 0 18 by omega] using this⟩
          have q2 : p 0 3 < 5 → p 0 3 < (t : Int) := by
            have := q.2 (p 0 18).toNat (by omega)
            have e : (((p 0 18).toNat : Nat) : Int) = p 0 18 := by omega
            simpa [e] using this
          split
          · rw [hi_lt]; exact ⟨q1, q2 (by assumption)⟩
          · exact q1
    · exact PI.flt h.1
  · exact h
