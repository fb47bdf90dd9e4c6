/-! how both begin -/
theorem Sim.start : Sim Z_7 Z_8 := by
  have c0 : (0 : Int32).toInt = 0 := rfl
  have c20 : (20 : Int32).toInt = 20 := rfl
  have cm1 : (-1 : Int32).toInt = -1 := rfl
  have cm4 : (-4 : Int32).toInt = -4 := rfl
  obtain ⟨z, hz⟩ : ∃ z : St, z = vz [(fun _ => 0), (fun _ => 0), (fun _ => 0), (fun _ => 0), (fun _ => 0), (fun _ => 0), (upd (upd (upd (upd (fun _ => 0) 0 (-4)) 1 (-4)) 2 (-4)) 3 (-4)), (fun _ => 0), (fun _ => 0), (fun _ => 0)] := ⟨_, rfl⟩
  have e8 : Z_8 = F_X8_keepDraft 0 (F_X8_firstDraft 0 z) := by rw [hz]; rfl
  have zr : ∀ a b : Nat, a ≠ 6 → z.1 a b = 0 := fun a b h => by
    rw [hz]
    match a, h with
    | 0, _ => rfl
    | 1, _ => rfl
    | 2, _ => rfl
    | 3, _ => rfl
    | 4, _ => rfl
    | 5, _ => rfl
    | 7, _ => rfl
    | 8, _ => rfl
    | 9, _ => rfl
    | a + 10, _ => simp [vz]
  have z6 : ∀ s : Nat, s < 4 → z.1 6 s = -4 := fun s h => by
    rw [hz]
    rcases (show s = 0 ∨ s = 1 ∨ s = 2 ∨ s = 3 by omega) with rfl | rfl | rfl | rfl <;> rfl
  obtain ⟨d1, ⟨d6, d7, d8, d9, d10⟩, df⟩ := fdM z
  generalize F_X8_firstDraft 0 z = d at d1 d6 d7 d8 d9 d10 df e8
  obtain ⟨k1, ⟨k2, k3, k4, k5⟩, kf⟩ := kdM d (by rw [d6]; decide)
  rw [← e8] at k1 k2 k3 k4 k5 kf
  have w1 : ∀ b : Nat, b < 54 → Z_8.1 1 b = fd b := fun b hb => by rw [(k1 b hb).1 (fun s hs => by rw [d6] at hs; omega)]; exact d1 b hb
  have w3 : Z_8.1 0 3 = 0 := by rw [k2]; exact d6
  have w4 : Z_8.1 0 4 = 0 := by rw [k3]; exact d7
  have n9 : ∀ a b : Nat, (a = 5 ∨ a = 7 ∨ a = 8 ∨ (a = 0 ∧ (b = 12 ∨ b = 29))) → Z_8.1 a b = 0 := fun a b h => by rw [kf a b (by omega), df a b (by omega)]; exact zr a b (by omega)
  have n6 : ∀ s : Nat, s < 4 → Z_8.1 6 s = -4 := fun s h => by rw [kf 6 s (by omega), df 6 s (by omega)]; exact z6 s h
  refine ⟨⟨⟨⟨by rw [w3]; rfl, by rw [w3]; omega, by rw [w3]; omega⟩, ⟨by rw [w4]; rfl, by rw [w4]; omega, by rw [w4]; omega⟩⟩, ⟨?_, ?_, ?_, ?_, ?_, ?_, ?_, ?_, ?_⟩, ⟨⟨by decide, by decide, fun s hs es => ?_⟩, fun i hi => by rw [w3] at hi; omega⟩, fun i hi => by rw [w4] at hi; omega, ⟨?_, fun i hi => ?_⟩, ⟨?_, fun i hi => ?_⟩⟩, ?_, ?_, ?_, ?_⟩
  · rw [w1 (0 + 23) (by omega), w4]; exact ⟨rfl, by decide, fun h => absurd c0 h⟩
  · rw [w1 (0 + 24) (by omega)]; rfl
  · rw [w1 (0 + 25) (by omega)]; rfl
  · rw [w1 (0 + 26) (by omega)]; rfl
  · rw [w1 (0 + 27) (by omega)]; exact ⟨rfl, by decide, by decide⟩
  · rw [w1 (0 + 28) (by omega)]; rfl
  · rw [w1 (0 + 29) (by omega)]; exact ⟨rfl, by decide, by decide⟩
  · rw [w1 (0 + 30) (by omega), w1 (0 + 29) (by omega)]; exact ⟨rfl, by decide, by decide⟩
  · rw [w1 (0 + 31) (by omega), w1 (0 + 29) (by omega)]; exact ⟨rfl, by decide, by decide⟩
  · have e : Z_7.1 12 4 = 0 := rfl
    rw [e, c0]
    have := Nat.two_pow_pos s
    omega
  · rw [w1 (0 + 32) (by omega)]; exact ⟨rfl, by decide, by decide⟩
  · rw [w1 (0 + 32) (by omega)] at hi
    have e : (fd (0 + 32)).toInt = 0 := rfl
    omega
  · rw [w1 (0 + 41) (by omega)]; exact ⟨rfl, by decide, by decide⟩
  · rw [w1 (0 + 41) (by omega)] at hi
    have e : (fd (0 + 41)).toInt = 0 := rfl
    omega
  · intro i hi
    rcases (show i = 0 ∨ i = 1 by omega) with rfl | rfl
    · rw [k4]; exact ⟨rfl, Or.inl c0, fun h => by omega⟩
    · rw [k5]; exact ⟨rfl, Or.inl c0, fun h => by omega⟩
  · have e12 := n9 0 12 (by omega)
    exact ⟨⟨by rw [e12]; rfl, by rw [e12]; omega, by rw [e12]; omega⟩, fun i hi => by rw [e12] at hi; omega⟩
  · intro s hs
    rw [n6 s hs, n9 7 s (by omega)]
    have r0 : Z_7.1 (83 + 2 * s) 0 = -1 ∧ Z_7.1 (83 + 2 * s) 1 = 0 ∧ ∀ i : Nat, Z_7.1 (84 + 2 * s) i = 0 := by
      rcases (show s = 0 ∨ s = 1 ∨ s = 2 ∨ s = 3 by omega) with rfl | rfl | rfl | rfl <;> exact ⟨rfl, rfl, fun _ => rfl⟩
    rw [r0.1, r0.2.1]
    exact ⟨Or.inl ⟨cm1, cm4⟩, ⟨rfl, by decide, by decide⟩, fun i hi => by rw [r0.2.2, n9 8 _ (by omega)]⟩
  · rw [n9 0 29 (by omega)]; rfl
