/-! what the reference answers -/
theorem up1_2 (v : St) (k j : Nat) (x : Int32) : (up1 v k j x).2 = v.2 := rfl
theorem starts_2 (m : St) : (F_X8_starts 0 m).2 = m.2 := by
  generalize hu : F_X8_starts 0 m = u
  unfold F_X8_starts at hu
  obtain ⟨N, hN⟩ : ∃ N : Nat, N = (2147483647 - (0 : Int32).toInt).toNat := ⟨_, rfl⟩
  rw [← hN] at hu
  obtain ⟨P, eP, hu⟩ := xl_e hu
  have Lp : ∀ (n : Nat) (y : Int32) (x : St), x.2 = m.2 → (lp P (fun _ _ => m) n y x).2 = m.2 := by
    intro n
    induction n with
    | zero => intro y x _; rfl
    | succ n ih =>
      intro y x hx
      rw [lp_s]
      generalize lp P (fun _ _ => m) n = sf at *
      rw [eP]
      simp only [xl_d, Nat.reduceAdd]
      by_cases d : y.toInt < 54
      · rw [if_pos d]; exact ih _ _ hx
      · rw [if_neg d]; exact hx
  rw [← hu]
  exact Lp (N + 1) 0 m rfl
theorem steps_2 (a : Int32) (z : St) : (F_X8_steps 0 a z).2.2 = z.2 := by
  by_cases g : 0 < (z.1 2 27).toInt ∧ (z.1 2 29).toInt < 10
  · exact (steps_y a g).2.2
  · rw [steps_n a g]
theorem plansGo_2 (m : St) : (F_X8_plansGo 0 m).2 = m.2 := by
  generalize hu : F_X8_plansGo 0 m = u
  unfold F_X8_plansGo at hu
  obtain ⟨N, hN⟩ : ∃ N : Nat, N = (2147483647 - (0 : Int32).toInt).toNat := ⟨_, rfl⟩
  rw [← hN] at hu
  obtain ⟨P, eP, hu⟩ := xl_e hu
  simp only [xl_d] at hu
  have Lp : ∀ (n : Nat) (y : Int32) (x : St), x.2 = m.2 → (lp P (fun _ _ => m) n y x).2 = m.2 := by
    intro n
    induction n with
    | zero => intro y x _; rfl
    | succ n ih =>
      intro y x hx
      rw [lp_s]
      generalize lp P (fun _ _ => m) n = sf at *
      rw [eP]
      simp only [xl_d, xm_d, Nat.reduceAdd]
      have hs : ∀ a : Int32, (F_X8_steps 0 a x).2.2 = m.2 := fun a => by rw [steps_2]; exact hx
      repeat' split
      all_goals first | exact ih _ _ ((up1_2 _ _ _ _).trans (hs _)) | exact hx
  rw [← hu]
  exact Lp (N + 1) 0 _ rfl
theorem Tv_sq (vl : St → Nat) (al : Nat → Int32) (m : St) (d : Nat) : ∀ i : Nat, (∀ j : Nat, j < i + d → al j = m.1 2 (33 + j)) → Tv vl al d i (sq m i) = vl (sq m (i + d)) := by
  induction d with
  | zero => intro i _; rfl
  | succ d ih =>
    intro i h
    rw [Tv_s, h i (by omega), ← sq_s, ih (i + 1) (fun j hj => h j (by omega)), show i + 1 + d = i + (d + 1) by omega]
theorem AtR.iz {k p : Nat} {c z : St} (h : AtR k p c z) : Iz z := by
  obtain ⟨⟨-, w1⟩, ⟨f1, -, -⟩, -, -, ⟨-, q2, -, -⟩⟩ := h
  exact ⟨fun z0 => ⟨f1.2.1, by have := f1.2.2 z0; omega⟩, q2.2⟩
/-- one run of the plan under given clouds -/
theorem run1 {c m s : St} (h : NR 12 0 c m) (hs : ∀ a b : Nat, (a = 1 ∨ (a = 0 ∧ (b = 3 ∨ b = 4))) → s.1 a b = m.1 a b) (C : Int32) : (∀ fl : Int32, vzO fl (F_X8_plansGo 0 (up1 (F_X8_starts 0 s) 2 28 C)) = Tv (vzO fl) (alM m) (nM m) 0 (up1 (F_X8_starts 0 m) 2 28 C) ∧ vzO fl (F_X8_plansGo 0 (up1 (F_X8_starts 0 s) 2 28 C)) ≤ 30) ∧ (0 ≤ ((F_X8_plansGo 0 (up1 (F_X8_starts 0 s) 2 28 C)).1 2 30).toInt ∧ ((F_X8_plansGo 0 (up1 (F_X8_starts 0 s) 2 28 C)).1 2 30).toInt ≤ 30) ∧ (F_X8_plansGo 0 (up1 (F_X8_starts 0 s) 2 28 C)).2 = s.2 ∧ ∀ a b : Nat, (a ≠ 2 ∧ (a ≠ 0 ∨ (b ≠ 19 ∧ b ≠ 20))) → (F_X8_plansGo 0 (up1 (F_X8_starts 0 s) 2 28 C)).1 a b = s.1 a b := by
  obtain ⟨al1, al2, al3, al4⟩ := h.al
  have hS : NR 12 0 c s := h.fr (hs _ _ (by omega)) (hs _ _ (by omega)) (fun b _ _ => hs _ _ (by omega)) (fun _ _ _ _ => rfl)
  have hz : Iz (F_X8_starts 0 m) := h.tr.1.1.iz
  obtain ⟨t1, t2⟩ := stM1 s
  obtain ⟨s1, s2⟩ := stM1 m
  have l1 : (F_X8_plansGo 0 (up1 (F_X8_starts 0 s) 2 28 C)).2 = s.2 := by rw [plansGo_2, up1_2, starts_2]
  obtain ⟨w1, -, -, w4, w5, -, -⟩ := (hS.tr.1.cloud C).walk
  have q0 : Q28 (F_X8_starts 0 m) (F_X8_starts 0 s) := fun a b q => by
    rcases q with ⟨e1, e2, e3⟩ | ⟨e1, e2⟩
    · rw [e1, t1 b e3, s1 b e3]; exact hs 1 b (by omega)
    · rw [t2 a b (by omega), s2 a b (by omega)]; exact hs a b (by omega)
  have q1 : Q28 (up1 (F_X8_starts 0 m) 2 28 C) (up1 (F_X8_starts 0 s) 2 28 C) := (q0.l _).r _
  have e32 : (up1 (F_X8_starts 0 s) 2 28 C).1 2 32 = m.1 1 32 := by rw [up1_n _ _ (by omega), t1 32 (by omega)]; exact hs 1 32 (by omega)
  have eal : ∀ j : Nat, j < 0 + nM m → alM m j = (up1 (F_X8_starts 0 s) 2 28 C).1 2 (33 + j) := fun j hj => by
    rw [up1_n _ _ (by omega), t1 (33 + j) (by omega), hs 1 (33 + j) (by omega)]
    rfl
  have en : ((up1 (F_X8_starts 0 s) 2 28 C).1 2 32).toInt.toNat = nM m := by rw [e32]; rfl
  rw [en] at w5
  have eT : ∀ fl : Int32, Tv (vzO fl) (alM m) (nM m) 0 (up1 (F_X8_starts 0 s) 2 28 C) = Tv (vzO fl) (alM m) (nM m) 0 (up1 (F_X8_starts 0 m) 2 28 C) := fun fl =>
    Tv_q (vzO_q fl) al4 (nM m) 0 _ _ (by omega) (hz.zc C) q1 (by rw [up1_s, up1_s]; exact fun _ _ _ => rfl)
  have eS : ∀ fl : Int32, Tv (vzO fl) (alM m) (nM m) 0 (up1 (F_X8_starts 0 s) 2 28 C) = vzO fl (sq (up1 (F_X8_starts 0 s) 2 28 C) (nM m)) := fun fl => by
    have := Tv_sq (vzO fl) (alM m) (up1 (F_X8_starts 0 s) 2 28 C) (nM m) 0 eal
    rw [Nat.zero_add] at this
    exact this
  have ew : F_X8_isAtWell 0 (F_X8_plansGo 0 (up1 (F_X8_starts 0 s) 2 28 C)) = F_X8_isAtWell 0 (sq (up1 (F_X8_starts 0 s) 2 28 C) (nM m)) := w1.well.symm.trans w5.well
  obtain ⟨⟨-, i2⟩, -, -, -, -, i6, i7, -⟩ := w1.1
  have j7 := w5.1.2.2.2.2.2.2.1
  have em : (F_X8_plansGo 0 (up1 (F_X8_starts 0 s) 2 28 C)).1 2 30 = (sq (up1 (F_X8_starts 0 s) 2 28 C) (nM m)).1 2 30 := i7.1.symm.trans j7.1
  have hb : 0 ≤ ((F_X8_plansGo 0 (up1 (F_X8_starts 0 s) 2 28 C)).1 2 30).toInt ∧ ((F_X8_plansGo 0 (up1 (F_X8_starts 0 s) 2 28 C)).1 2 30).toInt ≤ 30 := by omega
  refine ⟨fun fl => ⟨?_, ?_⟩, hb, l1, fun a b q => ?_⟩
  · rw [← eT, eS]
    unfold vzO
    rw [ew, em]
  · unfold vzO
    by_cases f0 : fl.toInt = 0
    · rw [if_pos f0]
      by_cases g0 : (F_X8_isAtWell 0 (F_X8_plansGo 0 (up1 (F_X8_starts 0 s) 2 28 C))).toInt = 0
      · rw [if_pos g0]; omega
      · rw [if_neg g0]; omega
    · rw [if_neg f0]; omega
  · rw [w4 a b (by omega), up1_n _ _ (by omega), t2 a b (by omega)]
