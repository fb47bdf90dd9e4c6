/-! what the two told worlds have in common: the tape's length, each sheet's lane and size -/
def Rl (gC gM : Nat → Nat → Int32) : Prop := gC (0 + 1) 1 = gM 0 12 ∧ ∀ k : Nat, k < 4 → (((gC (0 + 64 + (19 + 2 * k)) 0).toInt = -1 ↔ (gM (0 + 6) k).toInt = -4) ∧ (gC (0 + 64 + (19 + 2 * k)) 1).toInt = (gM (0 + 7) k).toInt)
theorem Rl.tape {gC gM : Nat → Nat → Int32} (h : Rl gC gM) {x y : Int32} (e : x.toInt = y.toInt) : Rl (gup gC (0 + 1) 1 x) (gup gM 0 12 y) := by
  have e2 : x = y := Int32.toInt_inj.mp e
  subst e2
  refine ⟨by simp [gup, va_up, upd], fun k hk => ?_⟩
  have h1 := h.2 k hk
  unfold gup va_up
  rw [if_neg (by omega), if_neg (by omega), if_neg (by omega)]
  exact h1
theorem Rl.sheet {gC gM : Nat → Nat → Int32} (h : Rl gC gM) {j : Nat} {x y : Int32} (hj : j < 4) (hx : 0 ≤ x.toInt) : Rl (gup (gup gC (0 + 64 + (19 + 2 * j)) 0 x) (0 + 64 + (19 + 2 * j)) 1 y) (gup (gup gM (0 + 6) j x) (0 + 7) j y) := by
  refine ⟨?_, fun k hk => ?_⟩
  · unfold gup va_up
    rw [if_neg (by omega), if_neg (by omega), if_neg (by omega), if_neg (by omega)]
    exact h.1
  · have h1 := h.2 k hk
    by_cases e : k = j
    · subst e
      refine ⟨?_, ?_⟩
      · rw [show gup (gup gC (0 + 64 + (19 + 2 * k)) 0 x) (0 + 64 + (19 + 2 * k)) 1 y (0 + 64 + (19 + 2 * k)) 0 = x by simp [gup, va_up, upd], show gup (gup gM (0 + 6) k x) (0 + 7) k y (0 + 6) k = x by simp [gup, va_up, upd]]
        omega
      · rw [show gup (gup gC (0 + 64 + (19 + 2 * k)) 0 x) (0 + 64 + (19 + 2 * k)) 1 y (0 + 64 + (19 + 2 * k)) 1 = y by simp [gup, va_up, upd], show gup (gup gM (0 + 6) k x) (0 + 7) k y (0 + 7) k = y by simp [gup, va_up, upd]]
    · have n1 : ∀ i, gup (gup gC (0 + 64 + (19 + 2 * j)) 0 x) (0 + 64 + (19 + 2 * j)) 1 y (0 + 64 + (19 + 2 * k)) i = gC (0 + 64 + (19 + 2 * k)) i := fun i => by
        unfold gup va_up
        rw [if_neg (by omega), if_neg (by omega)]
      have n2 : gup (gup gM (0 + 6) j x) (0 + 7) j y (0 + 6) k = gM (0 + 6) k := by simp [gup, va_up, upd, e]
      have n3 : gup (gup gM (0 + 6) j x) (0 + 7) j y (0 + 7) k = gM (0 + 7) k := by simp [gup, va_up, upd, e]
      rw [n1, n1, n2, n3]
      exact h1
theorem Rl.start : Rl (fun k => gz (kz ks7 k)) (fun k => gz (kz ks8 k)) := by
  refine ⟨rfl, fun k hk => ?_⟩
  rcases (show k = 0 ∨ k = 1 ∨ k = 2 ∨ k = 3 by omega) with rfl | rfl | rfl | rfl <;> exact ⟨⟨fun _ => rfl, fun _ => rfl⟩, rfl⟩
