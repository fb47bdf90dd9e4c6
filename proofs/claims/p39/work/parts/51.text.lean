/-! the whole text -/
theorem hasPl (k : Nat) (a : Int32) (v : St) : (F_X0_hasPlanned k a v).toInt = 0 ↔ ¬ (0 ≤ a.toInt ∧ a.toInt < (v.1 k 14).toInt) := by
  have c1 : (1 : Int32).toInt = 1 := rfl
  have c0 : (0 : Int32).toInt = 0 := rfl
  simp only [F_X0_hasPlanned, xl_d]
  repeat' split
  all_goals omega
theorem hasSt (k : Nat) (a : Int32) (v : St) : (F_X0_hasStar k a v).toInt = 0 ↔ ¬ (0 ≤ a.toInt ∧ a.toInt < (v.1 k 3).toInt) := by
  have c1 : (1 : Int32).toInt = 1 := rfl
  have c0 : (0 : Int32).toInt = 0 := rfl
  simp only [F_X0_hasStar, xl_d]
  repeat' split
  all_goals omega
theorem hasWk (k : Nat) (a : Int32) (v : St) : (F_X0_hasWalker k a v).toInt = 0 ↔ ¬ (0 ≤ a.toInt ∧ a.toInt < (v.1 k 6).toInt) := by
  have c1 : (1 : Int32).toInt = 1 := rfl
  have c0 : (0 : Int32).toInt = 0 := rfl
  simp only [F_X0_hasWalker, xl_d]
  repeat' split
  all_goals omega
theorem hasAm (k : Nat) (a : Int32) (v : St) : (F_X0_hasAim k a v).toInt = 0 ↔ ¬ (a.toInt = 5 ∨ a.toInt = 6 ∨ (0 ≤ a.toInt ∧ a.toInt < (v.1 k 3).toInt)) := by
  have c1 : (1 : Int32).toInt = 1 := rfl
  have c0 : (0 : Int32).toInt = 0 := rfl
  have h := hasSt k a v
  simp only [F_X0_hasAim, xl_d]
  repeat' split
  all_goals omega
theorem sh_t : ∀ k : Nat, k < 32 → ∀ s : Nat, s < 6 → ((Int32.ofNat k >>> (Int32.ofNat s &&& 31)).toInt = 0 ↔ k < 2 ^ s) := by decide +kernel
theorem nnS {c m : St} (h : Dr c m) : (F_X5_namesNoStar 1 c).toInt = 0 ↔ (m.1 0 10).toInt < (m.1 0 6).toInt := by
  have c1 : (1 : Int32).toInt = 1 := rfl
  have c0 : (0 : Int32).toInt = 0 := rfl
  obtain ⟨⟨s1, -⟩, -, -, ⟨p1, p2, p4, p5⟩, -⟩ := h
  obtain ⟨sn, hsn⟩ := Int.eq_ofNat_of_zero_le s1.2.1
  obtain ⟨kn, hkn⟩ := Int.eq_ofNat_of_zero_le p2.2.1
  have p6 := p5 sn (by omega)
  rw [hsn, p6]
  generalize hu : F_X5_namesNoStar 1 c = u
  unfold F_X5_namesNoStar at hu
  obtain ⟨N, hN⟩ : ∃ N : Nat, N = (2147483647 - (0 : Int32).toInt).toNat := ⟨_, rfl⟩
  rw [← hN] at hu
  obtain ⟨P, eP, hu⟩ := xl_e hu
  simp only [xl_d, Nat.reduceAdd] at hu
  have ht := sh_t kn (by omega) sn (by omega)
  rw [← i32_of (x := m.1 0 8) hkn (by omega), ← i32_of (x := m.1 0 6) hsn (by omega)] at ht
  rw [p2.1, s1.1] at hu
  have Lp : ∀ (n : Nat) (y : Int32), (2147483647 - y.toInt).toNat < n → 0 ≤ y.toInt → y.toInt ≤ 8 → ((lp P (fun _ => (0 : Int32)) n y).toInt = 0 ↔ ∀ i : Nat, y.toInt ≤ (i : Int) → (i : Int) < (m.1 4 32).toInt → (m.1 4 (33 + i)).toInt < 5 → (m.1 4 (33 + i)).toInt < (sn : Int)) := by
    intro n
    induction n with
    | zero => intro y hm; exact absurd hm (Nat.not_lt_zero _)
    | succ n ih =>
      intro y hm h0 h1
      rw [lp_s]
      generalize hsf : lp P (fun _ => (0 : Int32)) n = sf at ih
      rw [eP]
      simp only [xl_d, Nat.reduceAdd]
      by_cases d : y.toInt < 8
      · rw [if_pos d]
        have hp := hasPl 3 y c
        rw [p1.1] at hp
        by_cases d2 : y.toInt < (m.1 4 32).toInt
        · rw [if_neg (fun z => hp.mp z ⟨h0, d2⟩)]
          have hcn := cnI (x := y) h0
          have q := p4 y.toNatClampNeg (by omega)
          have ha := hasAm 3 (c.1 9 y.toNatClampNeg) c
          rw [q.1, s1.1] at ha
          rw [q.1]
          by_cases d3 : (m.1 4 (33 + y.toNatClampNeg)).toInt < 5 → (m.1 4 (33 + y.toNatClampNeg)).toInt < (sn : Int)
          · rw [if_neg (fun z => ha.mp z (by omega))]
            have ey : (y + 1).toInt = y.toInt + 1 := adI rfl rfl (by omega) (by omega)
            rw [ih (y + 1) (by omega) (by omega) (by omega)]
            constructor
            · intro z i hi1 hi2
              by_cases e : i = y.toNatClampNeg
              · rw [e]; exact d3
              · exact z i (by omega) hi2
            · intro z i hi1 hi2
              exact z i (by omega) hi2
          · rw [if_pos (ha.mpr (by omega))]
            constructor
            · intro z; omega
            · intro z; exact absurd (z y.toNatClampNeg (by omega) (by omega)) d3
        · rw [if_pos (hp.mpr (by omega))]
          constructor
          · intro _ i hi1 hi2; omega
          · intro _; rfl
      · rw [if_neg d]
        constructor
        · intro _ i hi1 hi2; omega
        · intro _; rfl
  by_cases d : (m.1 0 8 >>> (m.1 0 6 &&& 31)).toInt = 0
  · rw [if_pos d] at hu
    have q := Lp (N + 1) 0 (by rw [← hN]; exact Nat.lt_succ_self N) (by omega) (by omega)
    rw [hu] at q
    rw [q]
    have dk := ht.mp d
    constructor
    · intro z; exact ⟨by rw [hkn]; exact_mod_cast dk, fun i hi => z i (by omega) hi⟩
    · intro z i _ hi; exact z.2 i hi
  · rw [if_neg d] at hu
    rw [← hu]
    constructor
    · intro z; omega
    · intro z
      exfalso
      apply d
      apply ht.mpr
      have := z.1
      rw [hkn] at this
      exact_mod_cast this
/-- what stands where the reading has come to its end -/
theorem RT.lines {B : Int → Int} {L : Int} (hB : okB B L) {P33 : (Int32 → St → Int32 × St) → Int32 → St → Int32 × St} {P20 : (Int32 → St → Int32 × St) → Int32 → St → Int32 × St} {J68 J44 : Int32 → St → Int32 × St} {dC dM : Int32 → St → Int32 × St} (e33 : ∀ sf y x, P33 sf y x = if (x.1 1 8).toInt = 0 then (if (x.1 1 3).toInt = 0 then J68 y x else (if 160 < y.toInt then J68 y x else sf (y + 1) (F_X5_takeToken 1 (F_X5_readLine 1 x)))) else J68 y x) (e20 : ∀ sf y x, P20 sf y x = if (x.1 0 17).toInt = 0 then (if (x.1 0 15).toInt = 0 then J44 y x else sf (y + 1) (F_X8_readLine 0 x)) else J44 y x) : ∀ (n : Nat) (q : Int) (y : Int32) (c m : St) (a b : Nat), RT q Dr B L c m → 0 ≤ y.toInt → y.toInt ≤ 200 → ((c.1 1 8).toInt = 0 → y.toInt ≤ (c.1 1 4).toInt ∧ (L - (c.1 1 4).toInt).toNat < n) → (2147483647 - y.toInt).toNat < a → 0 < b → ((m.1 0 17).toInt = 0 → tm (m.1 0 13).toInt (m.1 0 17).toInt (m.1 0 15).toInt < b) → ∃ (y2 : Int32) (c2 m2 : St) (q2 : Int), lp P33 dC a y c = J68 y2 c2 ∧ lp P20 dM b y m = J44 y2 m2 ∧ RT q2 Dr B L c2 m2 ∧ ((c2.1 1 8).toInt = 0 → (m2.1 0 15).toInt = 0) := by
  have hL := hB.2.1
  intro n
  induction n with
  | zero =>
    intro q y c m a b h y0 y1 hg ha hb hm
    obtain ⟨a, rfl⟩ : ∃ k, a = k + 1 := ⟨a - 1, by omega⟩
    obtain ⟨b, rfl⟩ : ∃ k, b = k + 1 := ⟨b - 1, by omega⟩
    have hf : Fl c m := by
      rcases h.2 with z | z
      · exact z
      · exact absurd (hg z.1).2 (Nat.not_lt_zero _)
    refine ⟨y, c, m, q, ?_, ?_, h, fun z => absurd z hf.1⟩
    · rw [lp_s, e33, if_neg hf.1]
    · rw [lp_s, e20, if_neg (by have := hf.2.1; omega)]
  | succ n ih =>
    intro q y c m a b h y0 y1 hg ha hb hm
    obtain ⟨a, rfl⟩ : ∃ k, a = k + 1 := ⟨a - 1, by omega⟩
    obtain ⟨b, rfl⟩ : ∃ k, b = k + 1 := ⟨b - 1, by omega⟩
    rw [lp_s, lp_s, e33, e20]
    by_cases h0 : (c.1 1 8).toInt = 0
    · obtain ⟨hT, hh | ⟨-, h17, hTT, hd⟩⟩ := id h
      · exact absurd h0 hh.1
      obtain ⟨t1, t2, t3, t4, t5, t6, t7⟩ := id hTT
      rw [if_pos h0, if_pos h17]
      by_cases hk : (m.1 0 15).toInt = 0
      · rw [if_pos (by omega), if_pos hk]
        exact ⟨y, c, m, q, rfl, rfl, h, fun _ => hk⟩
      · obtain ⟨g1, g2⟩ := hg h0
        have hqq := rq_r hB (f := (m.1 0 14).toInt) (by omega) (by omega)
        have hlt := hqq.2.2 (fun z => hk (by rw [t5]; exact kd_n z))
        rw [if_neg (by omega), if_neg hk, if_neg (by omega)]
        have hA := h.re.line hB h0
        obtain ⟨hR, -, hq4⟩ := hA.take Dr_stb hB
        have ey : (y + 1).toInt = y.toInt + 1 := adI rfl rfl (by omega) (by omega)
        have hmm := hm h17
        have htm := tm_0 (p := (m.1 0 13).toInt) h17 hk (Or.inr trivial) (by omega)
        generalize F_X5_takeToken 1 (F_X5_readLine 1 c) = c2 at hR hq4 ⊢
        generalize F_X8_readLine 0 m = m2 at hR ⊢
        refine ih _ (y + 1) c2 m2 a b hR (by omega) (by omega) (fun z => ?_) (by omega) (by omega) (fun z => ?_)
        · have := hq4 z
          rcases hR.2 with w | w
          · exact absurd z w.1
          · have w4 := w.2.2.1.2.2.2.1
            have w2 := w.2.2.1.2.1
            omega
        · rcases hR.2 with w | w
          · have := w.2.1; omega
          · have w4 := w.2.2.1.2.2.2.1
            have w2 := w.2.2.1.2.1
            have w5 := w.2.2.1.2.2.2.2.1
            have w6 := w.2.2.1.2.2.2.2.2.1
            have := hq4 w.1
            have hq2 := rq_r hB (f := (m2.1 0 14).toInt) (by omega) (by omega)
            refine Nat.lt_of_lt_of_le (tm_lt h17 hk (by omega) (by omega) (fun _ u => ?_)) (Nat.le_of_lt_succ hmm)
            have := hq2.2.2 (fun v => u (by rw [w5]; exact kd_n v))
            omega
    · have hf : Fl c m := by
        rcases h.2 with z | z
        · exact z
        · exact absurd z.1 h0
      rw [if_neg h0, if_neg (by have := hf.2.1; omega)]
      exact ⟨y, c, m, q, rfl, rfl, h, fun z => absurd z h0⟩
/-- the class begins -/
theorem clC0 (v : St) : (F_X0_clear 3 v).1 3 3 = 0 ∧ (F_X0_clear 3 v).1 3 4 = 0 ∧ (F_X0_clear 3 v).1 3 6 = 0 ∧ (F_X0_clear 3 v).1 3 7 = 0 ∧ (F_X0_clear 3 v).1 3 8 = 20 ∧ (F_X0_clear 3 v).1 3 9 = 2 ∧ (F_X0_clear 3 v).1 3 10 = 3 ∧ (F_X0_clear 3 v).1 3 11 = 0 ∧ (F_X0_clear 3 v).1 8 0 = 0 ∧ (F_X0_clear 3 v).1 8 1 = 0 ∧ (F_X0_clear 3 v).1 8 2 = 0 ∧ (F_X0_clear 3 v).1 8 3 = 20 ∧ (F_X0_clear 3 v).1 3 14 = 0 ∧ (F_X0_clear 3 v).1 3 17 = 0 ∧ ∀ a b : Nat, a < 3 → (F_X0_clear 3 v).1 a b = v.1 a b := by
  simp only [F_X0_clear, xl_d, Nat.reduceAdd]
  refine ⟨?_, ?_, ?_, ?_, ?_, ?_, ?_, ?_, ?_, ?_, ?_, ?_, ?_, ?_, fun a b z => ?_⟩
  · rw [up1_n _ _ (by omega), up1_n _ _ (by omega), up1_n _ _ (by omega), up1_n _ _ (by omega), up1_n _ _ (by omega), up1_n _ _ (by omega), up1_n _ _ (by omega), up1_n _ _ (by omega), up1_n _ _ (by omega), up1_n _ _ (by omega), up1_n _ _ (by omega), up1_n _ _ (by omega), up1_n _ _ (by omega), up1_s]
  · rw [up1_n _ _ (by omega), up1_n _ _ (by omega), up1_n _ _ (by omega), up1_n _ _ (by omega), up1_n _ _ (by omega), up1_n _ _ (by omega), up1_n _ _ (by omega), up1_n _ _ (by omega), up1_n _ _ (by omega), up1_n _ _ (by omega), up1_n _ _ (by omega), up1_n _ _ (by omega), up1_s]
  · rw [up1_n _ _ (by omega), up1_n _ _ (by omega), up1_n _ _ (by omega), up1_n _ _ (by omega), up1_n _ _ (by omega), up1_n _ _ (by omega), up1_n _ _ (by omega), up1_n _ _ (by omega), up1_n _ _ (by omega), up1_n _ _ (by omega), up1_n _ _ (by omega), up1_s]
  · rw [up1_n _ _ (by omega), up1_n _ _ (by omega), up1_n _ _ (by omega), up1_n _ _ (by omega), up1_n _ _ (by omega), up1_n _ _ (by omega), up1_n _ _ (by omega), up1_n _ _ (by omega), up1_n _ _ (by omega), up1_n _ _ (by omega), up1_s]
  · rw [up1_n _ _ (by omega), up1_n _ _ (by omega), up1_n _ _ (by omega), up1_n _ _ (by omega), up1_n _ _ (by omega), up1_n _ _ (by omega), up1_n _ _ (by omega), up1_n _ _ (by omega), up1_n _ _ (by omega), up1_s]
  · rw [up1_n _ _ (by omega), up1_n _ _ (by omega), up1_n _ _ (by omega), up1_n _ _ (by omega), up1_n _ _ (by omega), up1_n _ _ (by omega), up1_n _ _ (by omega), up1_n _ _ (by omega), up1_s]
  · rw [up1_n _ _ (by omega), up1_n _ _ (by omega), up1_n _ _ (by omega), up1_n _ _ (by omega), up1_n _ _ (by omega), up1_n _ _ (by omega), up1_n _ _ (by omega), up1_s]
  · rw [up1_n _ _ (by omega), up1_n _ _ (by omega), up1_n _ _ (by omega), up1_n _ _ (by omega), up1_n _ _ (by omega), up1_n _ _ (by omega), up1_s]
  · rw [up1_n _ _ (by omega), up1_n _ _ (by omega), up1_n _ _ (by omega), up1_n _ _ (by omega), up1_n _ _ (by omega), up1_s]
  · rw [up1_n _ _ (by omega), up1_n _ _ (by omega), up1_n _ _ (by omega), up1_n _ _ (by omega), up1_s]
  · rw [up1_n _ _ (by omega), up1_n _ _ (by omega), up1_n _ _ (by omega), up1_s]
  · rw [up1_n _ _ (by omega), up1_n _ _ (by omega), up1_s]
  · rw [up1_n _ _ (by omega), up1_s]
  · rw [up1_s]
  · rw [up1_n _ _ (by omega), up1_n _ _ (by omega), up1_n _ _ (by omega), up1_n _ _ (by omega), up1_n _ _ (by omega), up1_n _ _ (by omega), up1_n _ _ (by omega), up1_n _ _ (by omega), up1_n _ _ (by omega), up1_n _ _ (by omega), up1_n _ _ (by omega), up1_n _ _ (by omega), up1_n _ _ (by omega), up1_n _ _ (by omega)]
