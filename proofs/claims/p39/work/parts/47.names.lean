/-! names -/
theorem isNm {c : St} {B : Int → Int} (hb : BC 1 c = B) {i : Nat} (hi : i < 11) (hk : (c.1 1 3).toInt = 1) (hf : 0 ≤ (c.1 1 4).toInt ∧ (c.1 1 4).toInt ≤ (c.1 1 5).toInt ∧ (c.1 1 5).toInt ≤ 160) : (¬ (F_X5_isName 1 i c).toInt = 0) ↔ ((c.1 1 5).toInt = (c.1 1 4).toInt + (sln.getD i 0 : Nat) ∧ ∀ j : Nat, j < sln.getD i 0 → B ((c.1 1 4).toInt + (j : Int)) = (chz i j).toInt) := by
  have c0 : (0 : Int32).toInt = 0 := rfl
  have c1 : (1 : Int32).toInt = 1 := rfl
  have hsl := sl_rng i hi
  generalize hu : F_X5_isName 1 i c = u
  unfold F_X5_isName at hu
  obtain ⟨N, hN⟩ : ∃ N : Nat, N = (2147483647 - (0 : Int32).toInt).toNat := ⟨_, rfl⟩
  rw [← hN] at hu
  simp only [xl_d] at hu
  rw [if_pos hk] at hu
  have hs : (c.1 1 5 - c.1 1 4).toInt = (c.1 1 5).toInt - (c.1 1 4).toInt := sbI rfl rfl (by omega) (by omega)
  rw [hs] at hu
  by_cases hl : (c.1 1 5).toInt - (c.1 1 4).toInt = (sln.getD i 0 : Nat)
  · rw [if_pos hl] at hu
    generalize hP : (fun (self : Int32 → Int32) (y : Int32) => if y.toInt < (sln.getD i 0 : Nat) then (if (F_X5_byteAt 1 (c.1 1 4 + y) c).toInt = (chz i y.toNatClampNeg).toInt then self (y + 1) else (0 : Int32)) else (1 : Int32)) = P at hu
    have Lp : ∀ (n : Nat) (y : Int32), (2147483647 - y.toInt).toNat < n → 0 ≤ y.toInt → y.toInt ≤ (sln.getD i 0 : Nat) → ((¬ (lp P (fun _ => (0 : Int32)) n y).toInt = 0) ↔ ∀ j : Nat, y.toInt ≤ (j : Int) → j < sln.getD i 0 → B ((c.1 1 4).toInt + (j : Int)) = (chz i j).toInt) := by
      intro n
      induction n with
      | zero => intro y hm; exact absurd hm (Nat.not_lt_zero _)
      | succ n ih =>
        intro y hm h0 h1
        rw [lp_s]
        generalize hsf : lp P (fun _ => (0 : Int32)) n = sf at ih
        rw [← hP]
        simp only
        have ea : (c.1 1 4 + y).toInt = (c.1 1 4).toInt + y.toInt := adI rfl rfl (by omega) (by omega)
        have hby := byC 1 (c.1 1 4 + y) c
        rw [hb, ea] at hby
        have hcn := cnI (x := y) h0
        rw [hby]
        by_cases d : y.toInt < (sln.getD i 0 : Nat)
        · rw [if_pos d]
          by_cases e : B ((c.1 1 4).toInt + y.toInt) = (chz i y.toNatClampNeg).toInt
          · rw [if_pos e]
            have ey : (y + 1).toInt = y.toInt + 1 := adI rfl rfl (by omega) (by omega)
            rw [ih (y + 1) (by omega) (by omega) (by omega)]
            constructor
            · intro z j hj1 hj2
              by_cases ej : j = y.toNatClampNeg
              · rw [ej, hcn]; exact e
              · exact z j (by omega) hj2
            · intro z j hj1 hj2
              exact z j (by omega) hj2
          · rw [if_neg e]
            constructor
            · intro z; exact absurd rfl z
            · intro z
              exfalso
              have := z y.toNatClampNeg (by omega) (by omega)
              rw [hcn] at this
              exact e this
        · rw [if_neg d]
          constructor
          · intro _ j hj1 hj2; omega
          · intro _; decide
    have := Lp (N + 1) 0 (by rw [← hN]; exact Nat.lt_succ_self N) (by omega) (by omega)
    rw [hu] at this
    rw [this]
    constructor
    · intro z
      exact ⟨by omega, fun j hj => z j (by omega) hj⟩
    · intro z j _ hj
      exact z.2 j hj
  · rw [if_neg hl] at hu
    constructor
    · intro z; exact absurd (by rw [← hu]; rfl) z
    · intro z; omega
def n4 (B : Int → Int) (f b a0 a1 a2 a3 : Int) : Prop := b = f + 4 ∧ B f = a0 ∧ B (f + 1) = a1 ∧ B (f + 2) = a2 ∧ B (f + 3) = a3
def n5 (B : Int → Int) (f b a0 a1 a2 a3 a4 : Int) : Prop := b = f + 5 ∧ B f = a0 ∧ B (f + 1) = a1 ∧ B (f + 2) = a2 ∧ B (f + 3) = a3 ∧ B (f + 4) = a4
theorem isN4 {c : St} {B : Int → Int} (hb : BC 1 c = B) {i : Nat} (hi : i < 11) (hl : sln.getD i 0 = 4) (hk : (c.1 1 3).toInt = 1) (hf : 0 ≤ (c.1 1 4).toInt ∧ (c.1 1 4).toInt ≤ (c.1 1 5).toInt ∧ (c.1 1 5).toInt ≤ 160) {a0 a1 a2 a3 : Int} (k0 : (chz i 0).toInt = a0) (k1 : (chz i 1).toInt = a1) (k2 : (chz i 2).toInt = a2) (k3 : (chz i 3).toInt = a3) : (F_X5_isName 1 i c).toInt = 0 ↔ ¬ n4 B (c.1 1 4).toInt (c.1 1 5).toInt a0 a1 a2 a3 := by
  have h := isNm hb hi hk hf
  rw [hl] at h
  unfold n4
  have z0 : (c.1 1 4).toInt + ((0 : Nat) : Int) = (c.1 1 4).toInt := by omega
  have z1 : (c.1 1 4).toInt + ((1 : Nat) : Int) = (c.1 1 4).toInt + 1 := by omega
  have z2 : (c.1 1 4).toInt + ((2 : Nat) : Int) = (c.1 1 4).toInt + 2 := by omega
  have z3 : (c.1 1 4).toInt + ((3 : Nat) : Int) = (c.1 1 4).toInt + 3 := by omega
  constructor
  · intro hz ⟨g, g0, g1, g2, g3⟩
    refine h.mpr ⟨by omega, fun j hj => ?_⟩ hz
    rcases (show j = 0 ∨ j = 1 ∨ j = 2 ∨ j = 3 by omega) with rfl | rfl | rfl | rfl
    · rw [z0, k0]; exact g0
    · rw [z1, k1]; exact g1
    · rw [z2, k2]; exact g2
    · rw [z3, k3]; exact g3
  · intro hz
    refine Decidable.byContradiction (fun w => hz ?_)
    obtain ⟨g, gg⟩ := h.mp w
    refine ⟨by omega, ?_, ?_, ?_, ?_⟩
    · have := gg 0 (by omega); rw [z0, k0] at this; exact this
    · have := gg 1 (by omega); rw [z1, k1] at this; exact this
    · have := gg 2 (by omega); rw [z2, k2] at this; exact this
    · have := gg 3 (by omega); rw [z3, k3] at this; exact this
theorem isN5 {c : St} {B : Int → Int} (hb : BC 1 c = B) {i : Nat} (hi : i < 11) (hl : sln.getD i 0 = 5) (hk : (c.1 1 3).toInt = 1) (hf : 0 ≤ (c.1 1 4).toInt ∧ (c.1 1 4).toInt ≤ (c.1 1 5).toInt ∧ (c.1 1 5).toInt ≤ 160) {a0 a1 a2 a3 a4 : Int} (k0 : (chz i 0).toInt = a0) (k1 : (chz i 1).toInt = a1) (k2 : (chz i 2).toInt = a2) (k3 : (chz i 3).toInt = a3) (k4 : (chz i 4).toInt = a4) : (F_X5_isName 1 i c).toInt = 0 ↔ ¬ n5 B (c.1 1 4).toInt (c.1 1 5).toInt a0 a1 a2 a3 a4 := by
  have h := isNm hb hi hk hf
  rw [hl] at h
  unfold n5
  have z0 : (c.1 1 4).toInt + ((0 : Nat) : Int) = (c.1 1 4).toInt := by omega
  have z1 : (c.1 1 4).toInt + ((1 : Nat) : Int) = (c.1 1 4).toInt + 1 := by omega
  have z2 : (c.1 1 4).toInt + ((2 : Nat) : Int) = (c.1 1 4).toInt + 2 := by omega
  have z3 : (c.1 1 4).toInt + ((3 : Nat) : Int) = (c.1 1 4).toInt + 3 := by omega
  have z4 : (c.1 1 4).toInt + ((4 : Nat) : Int) = (c.1 1 4).toInt + 4 := by omega
  constructor
  · intro hz ⟨g, g0, g1, g2, g3, g4⟩
    refine h.mpr ⟨by omega, fun j hj => ?_⟩ hz
    rcases (show j = 0 ∨ j = 1 ∨ j = 2 ∨ j = 3 ∨ j = 4 by omega) with rfl | rfl | rfl | rfl | rfl
    · rw [z0, k0]; exact g0
    · rw [z1, k1]; exact g1
    · rw [z2, k2]; exact g2
    · rw [z3, k3]; exact g3
    · rw [z4, k4]; exact g4
  · intro hz
    refine Decidable.byContradiction (fun w => hz ?_)
    obtain ⟨g, gg⟩ := h.mp w
    refine ⟨by omega, ?_, ?_, ?_, ?_, ?_⟩
    · have := gg 0 (by omega); rw [z0, k0] at this; exact this
    · have := gg 1 (by omega); rw [z1, k1] at this; exact this
    · have := gg 2 (by omega); rw [z2, k2] at this; exact this
    · have := gg 3 (by omega); rw [z3, k3] at this; exact this
    · have := gg 4 (by omega); rw [z4, k4] at this; exact this
theorem isNx {c : St} (i : Nat) (hk : ¬ (c.1 1 3).toInt = 1) : (F_X5_isName 1 i c).toInt = 0 := by
  simp only [F_X5_isName, xl_d]
  rw [if_neg hk]
  rfl
theorem isM {m : St} {B : Int → Int} (hb : BM 0 m = B) (hf : 0 ≤ (m.1 0 14).toInt ∧ (m.1 0 14).toInt ≤ (m.1 0 13).toInt ∧ (m.1 0 13).toInt ≤ 160) (n a b d : Int32) : (¬ (F_X8_is 0 n a b d m).toInt = 0) ↔ ((m.1 0 13).toInt = (m.1 0 14).toInt + n.toInt ∧ B (m.1 0 14).toInt = a.toInt ∧ B ((m.1 0 14).toInt + 1) = b.toInt ∧ B ((m.1 0 14).toInt + 2) = d.toInt) := by
  have c0 : (0 : Int32).toInt = 0 := rfl
  have c1 : (1 : Int32).toInt = 1 := rfl
  have hs : (m.1 0 13 - m.1 0 14).toInt = (m.1 0 13).toInt - (m.1 0 14).toInt := sbI rfl rfl (by omega) (by omega)
  have e1 : (m.1 0 14 + 1).toInt = (m.1 0 14).toInt + 1 := adI rfl rfl (by omega) (by omega)
  have e2 : (m.1 0 14 + 2).toInt = (m.1 0 14).toInt + 2 := adI rfl rfl (by omega) (by omega)
  have b0 := byM 0 (m.1 0 14) m (by omega)
  have b1 := byM 0 (m.1 0 14 + 1) m (by omega)
  have b2 := byM 0 (m.1 0 14 + 2) m (by omega)
  rw [hb] at b0 b1 b2
  rw [e1] at b1
  rw [e2] at b2
  simp only [F_X8_is, xl_d]
  rw [hs, b0, b1, b2]
  repeat' split
  all_goals omega
theorem endM {m : St} {B : Int → Int} (hb : BM 0 m = B) (hf : 0 ≤ (m.1 0 14).toInt ∧ (m.1 0 14).toInt ≤ (m.1 0 13).toInt ∧ (m.1 0 13).toInt ≤ 160) (a b : Int32) : (¬ (F_X8_ends 0 a b m).toInt = 0) ↔ (B ((m.1 0 14).toInt + 3) = a.toInt ∧ (b.toInt = 0 ∨ B ((m.1 0 14).toInt + 4) = b.toInt)) := by
  have c0 : (0 : Int32).toInt = 0 := rfl
  have c1 : (1 : Int32).toInt = 1 := rfl
  have e1 : (m.1 0 14 + 3).toInt = (m.1 0 14).toInt + 3 := adI rfl rfl (by omega) (by omega)
  have e2 : (m.1 0 14 + 4).toInt = (m.1 0 14).toInt + 4 := adI rfl rfl (by omega) (by omega)
  have b1 := byM 0 (m.1 0 14 + 3) m (by omega)
  have b2 := byM 0 (m.1 0 14 + 4) m (by omega)
  rw [hb] at b1 b2
  rw [e1] at b1
  rw [e2] at b2
  simp only [F_X8_ends, xl_d]
  rw [b1, b2]
  repeat' split
  all_goals omega
theorem if2 {p : Prop} {ip : Decidable p} {a b : Int} {i1 : Decidable (a = 0)} {i2 : Decidable (b = 0)} {α : Type} {x y : α} (h : (¬ a = 0 ∧ ¬ b = 0) ↔ p) : (@ite α (a = 0) i1 x (@ite α (b = 0) i2 x y)) = @ite α p ip y x := by
  by_cases h1 : a = 0
  · rw [if_pos h1, if_neg (fun z => (h.mpr z).1 h1)]
  · rw [if_neg h1]
    by_cases h2 : b = 0
    · rw [if_pos h2, if_neg (fun z => (h.mpr z).2 h2)]
    · rw [if_neg h2, if_pos (h.mp ⟨h1, h2⟩)]
theorem n4M {m : St} {B : Int → Int} (hb : BM 0 m = B) (hf : 0 ≤ (m.1 0 14).toInt ∧ (m.1 0 14).toInt ≤ (m.1 0 13).toInt ∧ (m.1 0 13).toInt ≤ 160) {a b c d : Int32} {a0 a1 a2 a3 : Int} (k0 : a.toInt = a0) (k1 : b.toInt = a1) (k2 : c.toInt = a2) (k3 : d.toInt = a3) : (¬ (F_X8_is 0 4 a b c m).toInt = 0 ∧ ¬ (F_X8_ends 0 d 0 m).toInt = 0) ↔ n4 B (m.1 0 14).toInt (m.1 0 13).toInt a0 a1 a2 a3 := by
  rw [isM hb hf, endM hb hf, k0, k1, k2, k3]
  unfold n4
  have c4 : (4 : Int32).toInt = 4 := rfl
  have c0 : (0 : Int32).toInt = 0 := rfl
  rw [c4]
  constructor
  · intro ⟨⟨z1, z2, z3, z4⟩, z5, _⟩; exact ⟨z1, z2, z3, z4, z5⟩
  · intro ⟨z1, z2, z3, z4, z5⟩; exact ⟨⟨z1, z2, z3, z4⟩, z5, Or.inl c0⟩
theorem n5M {m : St} {B : Int → Int} (hb : BM 0 m = B) (hf : 0 ≤ (m.1 0 14).toInt ∧ (m.1 0 14).toInt ≤ (m.1 0 13).toInt ∧ (m.1 0 13).toInt ≤ 160) {a b c d e : Int32} {a0 a1 a2 a3 a4 : Int} (k0 : a.toInt = a0) (k1 : b.toInt = a1) (k2 : c.toInt = a2) (k3 : d.toInt = a3) (k4 : e.toInt = a4) (ke : ¬ a4 = 0) : (¬ (F_X8_is 0 5 a b c m).toInt = 0 ∧ ¬ (F_X8_ends 0 d e m).toInt = 0) ↔ n5 B (m.1 0 14).toInt (m.1 0 13).toInt a0 a1 a2 a3 a4 := by
  rw [isM hb hf, endM hb hf, k0, k1, k2, k3, k4]
  unfold n5
  have c5 : (5 : Int32).toInt = 5 := rfl
  rw [c5]
  constructor
  · intro ⟨⟨z1, z2, z3, z4⟩, z5, z6⟩; exact ⟨z1, z2, z3, z4, z5, z6.resolve_left ke⟩
  · intro ⟨z1, z2, z3, z4, z5, z6⟩; exact ⟨⟨z1, z2, z3, z4⟩, z5, Or.inr z6⟩
theorem lnM {m : St} {B : Int → Int} (hb : BM 0 m = B) (hf : 0 ≤ (m.1 0 14).toInt ∧ (m.1 0 14).toInt ≤ (m.1 0 13).toInt ∧ (m.1 0 13).toInt ≤ 160) : (n5 B (m.1 0 14).toInt (m.1 0 13).toInt 112 108 97 105 110 → F_X8_lineNow 0 m = 0) ∧ (n4 B (m.1 0 14).toInt (m.1 0 13).toInt 108 97 109 101 → F_X8_lineNow 0 m = 1) ∧ (n5 B (m.1 0 14).toInt (m.1 0 13).toInt 116 105 114 101 100 → F_X8_lineNow 0 m = 2) ∧ (n5 B (m.1 0 14).toInt (m.1 0 13).toInt 103 117 105 100 101 → F_X8_lineNow 0 m = 3) ∧ (n4 B (m.1 0 14).toInt (m.1 0 13).toInt 115 116 97 114 → F_X8_lineNow 0 m = 4) ∧ (n5 B (m.1 0 14).toInt (m.1 0 13).toInt 107 110 111 119 110 → F_X8_lineNow 0 m = 5) ∧ (n5 B (m.1 0 14).toInt (m.1 0 13).toInt 99 108 111 117 100 → F_X8_lineNow 0 m = 6) ∧ (n4 B (m.1 0 14).toInt (m.1 0 13).toInt 119 101 108 108 → F_X8_lineNow 0 m = 7) ∧ (n4 B (m.1 0 14).toInt (m.1 0 13).toInt 119 105 110 100 → F_X8_lineNow 0 m = 8) ∧ (n5 B (m.1 0 14).toInt (m.1 0 13).toInt 119 97 116 101 114 → F_X8_lineNow 0 m = 9) ∧ (n4 B (m.1 0 14).toInt (m.1 0 13).toInt 112 108 97 110 → F_X8_lineNow 0 m = 10) ∧ (¬ n5 B (m.1 0 14).toInt (m.1 0 13).toInt 112 108 97 105 110 → ¬ n4 B (m.1 0 14).toInt (m.1 0 13).toInt 108 97 109 101 → ¬ n5 B (m.1 0 14).toInt (m.1 0 13).toInt 116 105 114 101 100 → ¬ n5 B (m.1 0 14).toInt (m.1 0 13).toInt 103 117 105 100 101 → ¬ n4 B (m.1 0 14).toInt (m.1 0 13).toInt 115 116 97 114 → ¬ n5 B (m.1 0 14).toInt (m.1 0 13).toInt 107 110 111 119 110 → ¬ n5 B (m.1 0 14).toInt (m.1 0 13).toInt 99 108 111 117 100 → ¬ n4 B (m.1 0 14).toInt (m.1 0 13).toInt 119 101 108 108 → ¬ n4 B (m.1 0 14).toInt (m.1 0 13).toInt 119 105 110 100 → ¬ n5 B (m.1 0 14).toInt (m.1 0 13).toInt 119 97 116 101 114 → ¬ n4 B (m.1 0 14).toInt (m.1 0 13).toInt 112 108 97 110 → F_X8_lineNow 0 m = (-4)) := by
  generalize hu : F_X8_lineNow 0 m = u
  unfold F_X8_lineNow at hu
  obtain ⟨J272, e272, hu⟩ := xl_e hu
  obtain ⟨J242, e242, hu⟩ := xl_e hu
  obtain ⟨J215, e215, hu⟩ := xl_e hu
  obtain ⟨J188, e188, hu⟩ := xl_e hu
  obtain ⟨J160, e160, hu⟩ := xl_e hu
  obtain ⟨J133, e133, hu⟩ := xl_e hu
  obtain ⟨J107, e107, hu⟩ := xl_e hu
  obtain ⟨J80, e80, hu⟩ := xl_e hu
  obtain ⟨J53, e53, hu⟩ := xl_e hu
  obtain ⟨J27, e27, hu⟩ := xl_e hu
  simp only [xl_d] at e272
  rw [if2 (ip := Classical.propDecidable _) (n4M hb hf (a := 112) (b := 108) (c := 97) (d := 110) (a0 := 112) (a1 := 108) (a2 := 97) (a3 := 110) rfl rfl rfl rfl )] at e272
  simp only [xl_d] at e242
  rw [if2 (ip := Classical.propDecidable _) (n5M hb hf (a := 119) (b := 97) (c := 116) (d := 101) (e := 114) (a0 := 119) (a1 := 97) (a2 := 116) (a3 := 101) (a4 := 114) rfl rfl rfl rfl rfl (by decide))] at e242
  simp only [xl_d] at e215
  rw [if2 (ip := Classical.propDecidable _) (n4M hb hf (a := 119) (b := 105) (c := 110) (d := 100) (a0 := 119) (a1 := 105) (a2 := 110) (a3 := 100) rfl rfl rfl rfl )] at e215
  simp only [xl_d] at e188
  rw [if2 (ip := Classical.propDecidable _) (n4M hb hf (a := 119) (b := 101) (c := 108) (d := 108) (a0 := 119) (a1 := 101) (a2 := 108) (a3 := 108) rfl rfl rfl rfl )] at e188
  simp only [xl_d] at e160
  rw [if2 (ip := Classical.propDecidable _) (n5M hb hf (a := 99) (b := 108) (c := 111) (d := 117) (e := 100) (a0 := 99) (a1 := 108) (a2 := 111) (a3 := 117) (a4 := 100) rfl rfl rfl rfl rfl (by decide))] at e160
  simp only [xl_d] at e133
  rw [if2 (ip := Classical.propDecidable _) (n5M hb hf (a := 107) (b := 110) (c := 111) (d := 119) (e := 110) (a0 := 107) (a1 := 110) (a2 := 111) (a3 := 119) (a4 := 110) rfl rfl rfl rfl rfl (by decide))] at e133
  simp only [xl_d] at e107
  rw [if2 (ip := Classical.propDecidable _) (n4M hb hf (a := 115) (b := 116) (c := 97) (d := 114) (a0 := 115) (a1 := 116) (a2 := 97) (a3 := 114) rfl rfl rfl rfl )] at e107
  simp only [xl_d] at e80
  rw [if2 (ip := Classical.propDecidable _) (n5M hb hf (a := 103) (b := 117) (c := 105) (d := 100) (e := 101) (a0 := 103) (a1 := 117) (a2 := 105) (a3 := 100) (a4 := 101) rfl rfl rfl rfl rfl (by decide))] at e80
  simp only [xl_d] at e53
  rw [if2 (ip := Classical.propDecidable _) (n5M hb hf (a := 116) (b := 105) (c := 114) (d := 101) (e := 100) (a0 := 116) (a1 := 105) (a2 := 114) (a3 := 101) (a4 := 100) rfl rfl rfl rfl rfl (by decide))] at e53
  simp only [xl_d] at e27
  rw [if2 (ip := Classical.propDecidable _) (n4M hb hf (a := 108) (b := 97) (c := 109) (d := 101) (a0 := 108) (a1 := 97) (a2 := 109) (a3 := 101) rfl rfl rfl rfl )] at e27
  simp only [xl_d] at hu
  rw [if2 (ip := Classical.propDecidable _) (n5M hb hf (a := 112) (b := 108) (c := 97) (d := 105) (e := 110) (a0 := 112) (a1 := 108) (a2 := 97) (a3 := 105) (a4 := 110) rfl rfl rfl rfl rfl (by decide))] at hu
  subst e272 e242 e215 e188 e160 e133 e107 e80 e53 e27
  refine ⟨?_, ?_, ?_, ?_, ?_, ?_, ?_, ?_, ?_, ?_, ?_, ?_⟩
  · intro z; rw [← hu, if_pos z]
  · intro z; rw [← hu, if_neg (fun w => by unfold n5 at w; unfold n4 at z; omega), if_pos z]
  · intro z; rw [← hu, if_neg (fun w => by unfold n5 at w; unfold n5 at z; omega), if_neg (fun w => by unfold n4 at w; unfold n5 at z; omega), if_pos z]
  · intro z; rw [← hu, if_neg (fun w => by unfold n5 at w; unfold n5 at z; omega), if_neg (fun w => by unfold n4 at w; unfold n5 at z; omega), if_neg (fun w => by unfold n5 at w; unfold n5 at z; omega), if_pos z]
  · intro z; rw [← hu, if_neg (fun w => by unfold n5 at w; unfold n4 at z; omega), if_neg (fun w => by unfold n4 at w; unfold n4 at z; omega), if_neg (fun w => by unfold n5 at w; unfold n4 at z; omega), if_neg (fun w => by unfold n5 at w; unfold n4 at z; omega), if_pos z]
  · intro z; rw [← hu, if_neg (fun w => by unfold n5 at w; unfold n5 at z; omega), if_neg (fun w => by unfold n4 at w; unfold n5 at z; omega), if_neg (fun w => by unfold n5 at w; unfold n5 at z; omega), if_neg (fun w => by unfold n5 at w; unfold n5 at z; omega), if_neg (fun w => by unfold n4 at w; unfold n5 at z; omega), if_pos z]
  · intro z; rw [← hu, if_neg (fun w => by unfold n5 at w; unfold n5 at z; omega), if_neg (fun w => by unfold n4 at w; unfold n5 at z; omega), if_neg (fun w => by unfold n5 at w; unfold n5 at z; omega), if_neg (fun w => by unfold n5 at w; unfold n5 at z; omega), if_neg (fun w => by unfold n4 at w; unfold n5 at z; omega), if_neg (fun w => by unfold n5 at w; unfold n5 at z; omega), if_pos z]
  · intro z; rw [← hu, if_neg (fun w => by unfold n5 at w; unfold n4 at z; omega), if_neg (fun w => by unfold n4 at w; unfold n4 at z; omega), if_neg (fun w => by unfold n5 at w; unfold n4 at z; omega), if_neg (fun w => by unfold n5 at w; unfold n4 at z; omega), if_neg (fun w => by unfold n4 at w; unfold n4 at z; omega), if_neg (fun w => by unfold n5 at w; unfold n4 at z; omega), if_neg (fun w => by unfold n5 at w; unfold n4 at z; omega), if_pos z]
  · intro z; rw [← hu, if_neg (fun w => by unfold n5 at w; unfold n4 at z; omega), if_neg (fun w => by unfold n4 at w; unfold n4 at z; omega), if_neg (fun w => by unfold n5 at w; unfold n4 at z; omega), if_neg (fun w => by unfold n5 at w; unfold n4 at z; omega), if_neg (fun w => by unfold n4 at w; unfold n4 at z; omega), if_neg (fun w => by unfold n5 at w; unfold n4 at z; omega), if_neg (fun w => by unfold n5 at w; unfold n4 at z; omega), if_neg (fun w => by unfold n4 at w; unfold n4 at z; omega), if_pos z]
  · intro z; rw [← hu, if_neg (fun w => by unfold n5 at w; unfold n5 at z; omega), if_neg (fun w => by unfold n4 at w; unfold n5 at z; omega), if_neg (fun w => by unfold n5 at w; unfold n5 at z; omega), if_neg (fun w => by unfold n5 at w; unfold n5 at z; omega), if_neg (fun w => by unfold n4 at w; unfold n5 at z; omega), if_neg (fun w => by unfold n5 at w; unfold n5 at z; omega), if_neg (fun w => by unfold n5 at w; unfold n5 at z; omega), if_neg (fun w => by unfold n4 at w; unfold n5 at z; omega), if_neg (fun w => by unfold n4 at w; unfold n5 at z; omega), if_pos z]
  · intro z; rw [← hu, if_neg (fun w => by unfold n5 at w; unfold n4 at z; omega), if_neg (fun w => by unfold n4 at w; unfold n4 at z; omega), if_neg (fun w => by unfold n5 at w; unfold n4 at z; omega), if_neg (fun w => by unfold n5 at w; unfold n4 at z; omega), if_neg (fun w => by unfold n4 at w; unfold n4 at z; omega), if_neg (fun w => by unfold n5 at w; unfold n4 at z; omega), if_neg (fun w => by unfold n5 at w; unfold n4 at z; omega), if_neg (fun w => by unfold n4 at w; unfold n4 at z; omega), if_neg (fun w => by unfold n4 at w; unfold n4 at z; omega), if_neg (fun w => by unfold n5 at w; unfold n4 at z; omega), if_pos z]
  · intro z0 z1 z2 z3 z4 z5 z6 z7 z8 z9 z10; rw [← hu, if_neg z0, if_neg z1, if_neg z2, if_neg z3, if_neg z4, if_neg z5, if_neg z6, if_neg z7, if_neg z8, if_neg z9, if_neg z10]
