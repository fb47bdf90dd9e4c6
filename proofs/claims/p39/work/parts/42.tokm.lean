/-! the reference's token -/
def BM (k : Nat) (v : St) : Int → Int := fun i => if 0 ≤ i ∧ i < (v.1 k 12).toInt then (v.1 (k + 5) i.toNat).toInt else -1
theorem byM (k : Nat) (a : Int32) (v : St) (h : 0 ≤ a.toInt) : (F_X8_byteAt k a v).toInt = BM k v a.toInt := by
  simp only [F_X8_byteAt, xl_d, BM]
  by_cases c2 : a.toInt < (v.1 k 12).toInt
  · rw [if_pos c2, if_pos ⟨h, c2⟩]; rfl
  · rw [if_neg c2, if_neg (by omega)]; rfl
theorem BM_f {k : Nat} {u v : St} (h1 : u.1 k 12 = v.1 k 12) (h2 : ∀ i : Nat, u.1 (k + 5) i = v.1 (k + 5) i) : BM k u = BM k v := by
  unfold BM
  rw [h1]
  funext i
  rw [h2]
theorem inM (a b c : Int64) (v : St) : (F_X8_in a b c v).toInt = if b.toInt ≤ a.toInt ∧ a.toInt ≤ c.toInt then 1 else 0 := by
  have h1 := lcB a b
  have h2 := lcB a c
  have c0 : (0 : Int32).toInt = 0 := rfl
  have c1 : (1 : Int32).toInt = 1 := rfl
  simp only [F_X8_in, xl_d]
  generalize lg_cmp a b = p at h1 ⊢
  generalize lg_cmp a c = q at h2 ⊢
  repeat' split
  all_goals omega
theorem inI {x : Int32} {b c : Int64} {lo hi : Int} (v : St) (hb : b.toInt = lo) (hc : c.toInt = hi) : (F_X8_in x.toInt64 b c v).toInt = 0 ↔ ¬ (lo ≤ x.toInt ∧ x.toInt ≤ hi) := by
  rw [inM, i64_of, hb, hc]
  split <;> omega
theorem neeM {k : Nat} {a b : Int32} {v : St} (h : (v.1 k 17).toInt = 0) (ha : a.toInt = 0) : F_X8_needs k a b v = up1 (up1 v k 17 b) k 18 (v.1 k 14) := by
  simp only [F_X8_needs, xl_d]
  rw [if_pos ha, if_pos h, up1_n _ _ (Or.inr (by decide))]
theorem neeM_x {k : Nat} {a b : Int32} {v : St} (h : ¬ (v.1 k 17).toInt = 0) : F_X8_needs k a b v = v := by
  simp only [F_X8_needs, xl_d]
  by_cases ha : a.toInt = 0
  · rw [if_pos ha, if_neg h]
  · rw [if_neg ha]
theorem neeM_o {k : Nat} {a b : Int32} {v : St} (h : ¬ a.toInt = 0) : F_X8_needs k a b v = v := by
  simp only [F_X8_needs, xl_d]
  rw [if_neg h]
def TKm (B : Int → Int) (f : Int) (v u : St) : Prop := (∀ a b : Nat, (a ≠ 0 ∨ b < 13 ∨ 19 ≤ b) → u.1 a b = v.1 a b) ∧ (u.1 0 14).toInt = f ∧ (bad B f → (u.1 0 17).toInt = 1 ∧ (u.1 0 18).toInt = f) ∧ (¬ bad B f → (u.1 0 17).toInt = 0 ∧ (u.1 0 15).toInt = kd (B f) ∧ (u.1 0 13).toInt = rq B f ∧ (kd (B f) = 2 → (u.1 0 16).toInt = vl B f))
set_option maxHeartbeats 2000000 in
theorem tokM {v : St} {B : Int → Int} {L : Int} (hB : okB B L) (hb : BM 0 v = B) (h0 : (v.1 0 17).toInt = 0) (h5 : 0 ≤ (v.1 0 13).toInt ∧ (v.1 0 13).toInt ≤ L) : TKm B (skp B (v.1 0 13).toInt) v (F_X8_next1 0 v) := by
  generalize hu : F_X8_next1 0 v = u
  unfold F_X8_next1 at hu
  obtain ⟨J260, e260, hu⟩ := xl_e hu
  obtain ⟨J236, e236, hu⟩ := xl_e hu
  obtain ⟨P140, e140, hu⟩ := xl_e hu
  obtain ⟨P82, e82, hu⟩ := xl_e hu
  obtain ⟨P8, e8, hu⟩ := xl_e hu
  have hL := hB.2.1
  have hok := hB.2.2
  have c00 : (0 : Int32).toInt = 0 := rfl
  have c01 : (1 : Int32).toInt = 1 := rfl
  -- names
  have L82 : ∀ (n : Nat) (x : St), (2147483647 - (x.1 0 13).toInt).toNat < n → 0 ≤ (x.1 0 13).toInt → (x.1 0 13).toInt ≤ L → BM 0 x = B → (lp P82 (fun _ => v) n x).1 0 13 = (lp P82 (fun _ => v) n x).1 0 13 ∧ ((lp P82 (fun _ => v) n x).1 0 13).toInt = rn 97 122 B (x.1 0 13).toInt ∧ (∀ a b : Nat, (a ≠ 0 ∨ b ≠ 13) → (lp P82 (fun _ => v) n x).1 a b = x.1 a b) := by
    intro n
    induction n with
    | zero => intro x hm; exact absurd hm (Nat.not_lt_zero _)
    | succ n ih =>
      intro x hm hp hpL hx
      have hby := byM 0 (x.1 0 13) x hp
      rw [hx] at hby
      have hin := inI (x := F_X8_byteAt 0 (x.1 0 13) x) (b := 97) (c := 122) x rfl rfl
      rw [hby] at hin
      have hbb := hok (x.1 0 13).toInt
      have ep : lp P82 (fun _ => v) (n + 1) x = if 97 ≤ B (x.1 0 13).toInt ∧ B (x.1 0 13).toInt ≤ 122 then lp P82 (fun _ => v) n (up1 x 0 13 (x.1 0 13 + 1)) else x := by
        rw [lp_s]
        generalize lp P82 (fun _ => v) n = sf
        rw [e82]
        simp only [xl_d]
        by_cases c : 97 ≤ B (x.1 0 13).toInt ∧ B (x.1 0 13).toInt ≤ 122
        · rw [if_neg (fun z => hin.mp z c), if_pos c]
        · rw [if_pos (hin.mpr c), if_neg c]
      rw [ep]
      by_cases c : 97 ≤ B (x.1 0 13).toInt ∧ B (x.1 0 13).toInt ≤ 122
      · rw [if_pos c]
        have e5 : (x.1 0 13 + 1).toInt = (x.1 0 13).toInt + 1 := adI rfl rfl (by omega) (by omega)
        generalize hx3 : up1 x 0 13 (x.1 0 13 + 1) = x3
        have n3 : ∀ a b : Nat, (a ≠ 0 ∨ b ≠ 13) → x3.1 a b = x.1 a b := fun a b z => by rw [← hx3, up1_n _ _ (by omega)]
        have x35 : (x3.1 0 13).toInt = (x.1 0 13).toInt + 1 := by rw [← hx3, up1_s]; exact e5
        obtain ⟨-, q2, q3⟩ := ih x3 (by omega) (by omega) (by omega) (by rw [BM_f (n3 0 12 (by omega)) (fun i => n3 5 i (by omega))]; exact hx)
        refine ⟨rfl, by rw [q2, x35, rn_s hB (by omega) c], fun a b z => by rw [q3 a b z, n3 a b z]⟩
      · rw [if_neg c]
        exact ⟨rfl, (rn_e c).symm, fun _ _ _ => rfl⟩
  -- numbers
  have L140 : ∀ (f : Int), 0 ≤ f → ∀ (n : Nat) (x : St), (2147483647 - (x.1 0 13).toInt).toNat < n → f ≤ (x.1 0 13).toInt → (x.1 0 13).toInt ≤ L → BM 0 x = B → (x.1 0 14).toInt = f → (((x.1 0 13).toInt = f → (x.1 0 16).toInt = 0) ∧ ((x.1 0 13).toInt = f + 1 → (x.1 0 16).toInt = B f - 48) ∧ ((x.1 0 13).toInt = f + 2 → (x.1 0 16).toInt = 10 * (B f - 48) + (B (f + 1) - 48))) →
      ∃ x2 : St, lp P140 (fun _ => v) n x = J236 (if f + 2 < (x2.1 0 13).toInt then 0 else 1) x2 ∧ (x2.1 0 13).toInt = rn 48 57 B (x.1 0 13).toInt ∧ (∀ a b : Nat, (a ≠ 0 ∨ (b ≠ 13 ∧ b ≠ 16)) → x2.1 a b = x.1 a b) ∧ ((x2.1 0 13).toInt = f + 1 → (x2.1 0 16).toInt = B f - 48) ∧ ((x2.1 0 13).toInt = f + 2 → (x2.1 0 16).toInt = 10 * (B f - 48) + (B (f + 1) - 48)) := by
    intro f hf n
    induction n with
    | zero => intro x hm; exact absurd hm (Nat.not_lt_zero _)
    | succ n ih =>
      intro x hm hp hpL hx h14 hv
      have hby := byM 0 (x.1 0 13) x (by omega)
      rw [hx] at hby
      have hin := inI (x := F_X8_byteAt 0 (x.1 0 13) x) (b := 48) (c := 57) x rfl rfl
      rw [hby] at hin
      have hbb := hok (x.1 0 13).toInt
      have hd : (x.1 0 13 - x.1 0 14).toInt = (x.1 0 13).toInt - f := by rw [← h14]; exact sbI rfl rfl (by omega) (by omega)
      by_cases c : 48 ≤ B (x.1 0 13).toInt ∧ B (x.1 0 13).toInt ≤ 57
      · obtain ⟨w, hw, ep⟩ : ∃ w : Int32, ((x.1 0 13).toInt = f → w.toInt = B f - 48) ∧ ((x.1 0 13).toInt = f + 1 → w.toInt = 10 * (B f - 48) + (B (f + 1) - 48)) ∧ lp P140 (fun _ => v) (n + 1) x = lp P140 (fun _ => v) n (up1 (up1 x 0 16 w) 0 13 (x.1 0 13 + 1)) := by
          rw [lp_s]
          generalize lp P140 (fun _ => v) n = sf
          rw [e140]
          simp only [xl_d]
          rw [if_neg (fun z => hin.mp z c), hd]
          by_cases c2 : (x.1 0 13).toInt - f < 2
          · refine ⟨10 * x.1 0 16 + F_X8_byteAt 0 (x.1 0 13) x - 48, ?_, ?_, ?_⟩
            · intro z
              have := hv.1 z
              have m1 : (10 * x.1 0 16).toInt = 10 * (x.1 0 16).toInt := mlI rfl rfl (by omega) (by omega)
              have m2 := adI (x := 10 * x.1 0 16) (y := F_X8_byteAt 0 (x.1 0 13) x) m1 hby (by omega) (by omega)
              have m3 := sbI (x := 10 * x.1 0 16 + F_X8_byteAt 0 (x.1 0 13) x) (y := 48) (b := 48) m2 rfl (by omega) (by omega)
              rw [m3, this, z]; omega
            · intro z
              have := hv.2.1 z
              have hbf := hok f
              have m1 : (10 * x.1 0 16).toInt = 10 * (x.1 0 16).toInt := mlI rfl rfl (by omega) (by omega)
              have m2 := adI (x := 10 * x.1 0 16) (y := F_X8_byteAt 0 (x.1 0 13) x) m1 hby (by omega) (by omega)
              have m3 := sbI (x := 10 * x.1 0 16 + F_X8_byteAt 0 (x.1 0 13) x) (y := 48) (b := 48) m2 rfl (by omega) (by omega)
              rw [m3, this, z]; omega
            · rw [if_pos c2, up1_n _ _ (Or.inr (by decide))]
          · refine ⟨x.1 0 16, fun z => by omega, fun z => by omega, ?_⟩
            rw [if_neg c2, up1_n _ _ (Or.inr (by decide))]
        rw [ep.2]
        have e5 : (x.1 0 13 + 1).toInt = (x.1 0 13).toInt + 1 := adI rfl rfl (by omega) (by omega)
        generalize hx3 : up1 (up1 x 0 16 w) 0 13 (x.1 0 13 + 1) = x3
        have n3 : ∀ a b : Nat, (a ≠ 0 ∨ (b ≠ 13 ∧ b ≠ 16)) → x3.1 a b = x.1 a b := fun a b z => by rw [← hx3, up1_n _ _ (by omega), up1_n _ _ (by omega)]
        have x35 : (x3.1 0 13).toInt = (x.1 0 13).toInt + 1 := by rw [← hx3, up1_s]; exact e5
        have x36 : x3.1 0 16 = w := by rw [← hx3, up1_n _ _ (Or.inr (by decide)), up1_s]
        obtain ⟨x2, q1, q2, q3, q4, q5⟩ := ih x3 (by omega) (by omega) (by omega) (by rw [BM_f (n3 0 12 (by omega)) (fun i => n3 5 i (by omega))]; exact hx) (by rw [n3 0 14 (by omega)]; exact h14) ⟨fun z => by omega, fun z => by rw [x36]; exact hw (by omega), fun z => by rw [x36]; exact ep.1 (by omega)⟩
        refine ⟨x2, q1, by rw [q2, x35, rn_s hB (by omega) c], fun a b z => by rw [q3 a b z, n3 a b z], q4, q5⟩
      · refine ⟨x, ?_, (rn_e c).symm, fun _ _ _ => rfl, hv.2.1, hv.2.2⟩
        rw [lp_s]
        generalize lp P140 (fun _ => v) n = sf
        rw [e140]
        simp only [xl_d]
        rw [if_pos (hin.mpr c), hd]
        by_cases c2 : 2 < (x.1 0 13).toInt - f
        · rw [if_pos c2, if_pos (by omega)]
        · rw [if_neg c2, if_neg (by omega)]
  -- what stands behind the blanks
  have K8 : ∀ (sf : St → St) (x : St), 0 ≤ (x.1 0 13).toInt → (x.1 0 13).toInt ≤ L → BM 0 x = B → (x.1 0 17).toInt = 0 → ¬ B (x.1 0 13).toInt = 32 → TKm B (x.1 0 13).toInt x (P8 sf x) := by
    intro sf x hp hpL hx hx0 hn
    generalize hy : P8 sf x = y
    rw [e8] at hy
    simp only [xl_d] at hy
    have hby := byM 0 (x.1 0 13) x hp
    rw [hx] at hby
    rw [if_neg (by rw [hby]; exact hn)] at hy
    generalize hx1 : up1 x 0 14 (x.1 0 13) = x1 at hy
    have n1 : ∀ a b : Nat, (a ≠ 0 ∨ b ≠ 14) → x1.1 a b = x.1 a b := fun a b z => by rw [← hx1, up1_n _ _ (by omega)]
    have x14 : x1.1 0 14 = x.1 0 13 := by rw [← hx1, up1_s]
    have hb1 : BM 0 x1 = B := by rw [BM_f (n1 0 12 (by omega)) (fun i => n1 5 i (by omega))]; exact hx
    have hby1 := byM 0 (x.1 0 13) x1 hp
    rw [hb1] at hby1
    have hia := inI (x := F_X8_byteAt 0 (x.1 0 13) x1) (b := 97) (c := 122) x1 rfl rfl
    have hid := inI (x := F_X8_byteAt 0 (x.1 0 13) x1) (b := 48) (c := 57) x1 rfl rfl
    rw [hby1] at hia hid
    rw [hby1] at hy
    have hf : (x.1 0 13).toInt = (x.1 0 13).toInt := rfl
    have hbf := hok (x.1 0 13).toInt
    have ks := kd_sp (B (x.1 0 13).toInt)
    have hq := rq_r hB hp hpL
    have n13 := n1 0 13 (by omega)
    generalize hfe : (x.1 0 13).toInt = f at *
    by_cases cE : B f < 0
    · rw [if_pos cE] at hy
      have k0 := ks.1 (by omega)
      have nb : ¬ bad B f := fun z => by rcases z with z | z <;> omega
      have hr := (rq_n (B := B) (f := f) (by omega) (by omega)).1 k0
      subst hy
      refine ⟨fun a b w => by rw [up1_n _ _ (by omega), n1 a b (by omega)], by rw [up1_n _ _ (Or.inr (by decide)), x14]; exact hfe, fun z => absurd z nb, fun _ => ⟨?_, ?_, ?_, fun z => by omega⟩⟩
      · rw [up1_n _ _ (Or.inr (by decide)), n1 0 17 (by omega)]; exact hx0
      · rw [up1_s, k0]; rfl
      · rw [up1_n _ _ (Or.inr (by decide)), n13, hr]; exact hfe
    · rw [if_neg cE] at hy
      by_cases cA : 97 ≤ B f ∧ B f ≤ 122
      · rw [if_neg (fun z => hia.mp z cA)] at hy
        have k1 := ks.2.1 cA.1 cA.2
        have nb : ¬ bad B f := fun z => by rcases z with z | z <;> omega
        have hr : rq B f = rn 97 122 B f := by unfold rq; rw [if_pos cA]
        generalize hx2 : up1 x1 0 15 1 = x2 at hy
        have n2 : ∀ a b : Nat, (a ≠ 0 ∨ (b ≠ 14 ∧ b ≠ 15)) → x2.1 a b = x.1 a b := fun a b z => by rw [← hx2, up1_n _ _ (by omega), n1 a b (by omega)]
        have x213 : x2.1 0 13 = x.1 0 13 := n2 0 13 (by omega)
        obtain ⟨-, q2, q3⟩ := L82 _ x2 (Nat.lt_succ_self _) (by rw [x213, hfe]; exact hp) (by rw [x213, hfe]; exact hpL) (by rw [BM_f (n2 0 12 (by omega)) (fun i => n2 5 i (by omega))]; exact hx)
        rw [hy] at q2 q3
        rw [x213, hfe, ← hr] at q2
        refine ⟨fun a b w => by rw [q3 a b (by omega), n2 a b (by omega)], ?_, fun z => absurd z nb, fun _ => ⟨?_, ?_, q2, fun z => by omega⟩⟩
        · rw [q3 0 14 (by omega), ← hx2, up1_n _ _ (Or.inr (by decide)), x14]; exact hfe
        · rw [q3 0 17 (by omega), n2 0 17 (by omega)]; exact hx0
        · rw [q3 0 15 (by omega), ← hx2, up1_s, k1]; rfl
      · rw [if_pos (hia.mpr cA)] at hy
        by_cases cD : 48 ≤ B f ∧ B f ≤ 57
        · rw [if_neg (fun z => hid.mp z cD)] at hy
          have k2 := ks.2.2.1 cD.1 cD.2
          have hr : rq B f = rn 48 57 B f := by unfold rq; rw [if_neg cA, if_pos cD]
          have hgt := hq.2.2 (by omega)
          generalize hx2 : up1 (up1 x1 0 15 2) 0 16 0 = x2 at hy
          have n2 : ∀ a b : Nat, (a ≠ 0 ∨ (b ≠ 14 ∧ b ≠ 15 ∧ b ≠ 16)) → x2.1 a b = x.1 a b := fun a b z => by rw [← hx2, up1_n _ _ (by omega), up1_n _ _ (by omega), n1 a b (by omega)]
          have x213 : x2.1 0 13 = x.1 0 13 := n2 0 13 (by omega)
          have x214 : x2.1 0 14 = x.1 0 13 := by rw [← hx2, up1_n _ _ (Or.inr (by decide)), up1_n _ _ (Or.inr (by decide)), x14]
          have x215 : x2.1 0 15 = 2 := by rw [← hx2, up1_n _ _ (Or.inr (by decide)), up1_s]
          have x216 : x2.1 0 16 = 0 := by rw [← hx2, up1_s]
          obtain ⟨x3, q1, q2, q3, q4, q5⟩ := L140 f (by omega) _ x2 (Nat.lt_succ_self _) (by rw [x213, hfe]; exact Int.le_refl _) (by rw [x213, hfe]; exact hpL) (by rw [BM_f (n2 0 12 (by omega)) (fun i => n2 5 i (by omega))]; exact hx) (by rw [x214, hfe]) ⟨fun _ => by rw [x216]; rfl, fun z => by rw [x213, hfe] at z; omega, fun z => by rw [x213, hfe] at z; omega⟩
          rw [hy] at q1
          rw [x213, hfe, ← hr] at q2
          have w17 : (x3.1 0 17).toInt = 0 := by rw [q3 0 17 (by omega), n2 0 17 (by omega)]; exact hx0
          have w14 : (x3.1 0 14).toInt = f := by rw [q3 0 14 (by omega), x214]; exact hfe
          have w15 : (x3.1 0 15).toInt = 2 := by rw [q3 0 15 (by omega), x215]; rfl
          have B236 : ∀ (z : Int32) (s : St), J236 z s = F_X8_needs 0 z 1 s := fun z s => by rw [e236]; simp only [xl_d]
          rw [B236, q2] at q1
          by_cases hb2 : f + 2 < rq B f
          · rw [if_pos hb2, neeM w17 (by decide)] at q1
            subst q1
            refine ⟨fun a b w => ?_, ?_, fun _ => ⟨?_, ?_⟩, fun w => absurd (Or.inr ⟨k2, hb2⟩) w⟩
            · rw [up1_n _ _ (by omega), up1_n _ _ (by omega), q3 a b (by omega), n2 a b (by omega)]
            · rw [up1_n _ _ (Or.inr (by decide)), up1_n _ _ (Or.inr (by decide))]; exact w14
            · rw [up1_n _ _ (Or.inr (by decide)), up1_s]; rfl
            · rw [up1_s]; exact w14
          · rw [if_neg hb2, neeM_o (by decide)] at q1
            subst q1
            refine ⟨fun a b w => by rw [q3 a b (by omega), n2 a b (by omega)], w14, fun w => ?_, fun _ => ⟨w17, by rw [w15, k2], q2, fun _ => vl_of hgt hb2 (fun z => q4 (by omega)) (fun z => q5 (by omega))⟩⟩
            rcases w with w | w <;> omega
        · rw [if_pos (hid.mpr cD)] at hy
          generalize hx2 : up1 x1 0 15 3 = x2 at hy
          have n2 : ∀ a b : Nat, (a ≠ 0 ∨ (b ≠ 14 ∧ b ≠ 15)) → x2.1 a b = x.1 a b := fun a b z => by rw [← hx2, up1_n _ _ (by omega), n1 a b (by omega)]
          have x214 : x2.1 0 14 = x.1 0 13 := by rw [← hx2, up1_n _ _ (Or.inr (by decide)), x14]
          have x215 : x2.1 0 15 = 3 := by rw [← hx2, up1_s]
          have B260 : ∀ (z : Int32) (s : St), J260 z s = up1 (F_X8_needs 0 z 1 s) 0 13 ((F_X8_needs 0 z 1 s).1 0 13 + 1) := fun z s => by rw [e260]; simp only [xl_d]
          have w17 : (x2.1 0 17).toInt = 0 := by rw [n2 0 17 (by omega)]; exact hx0
          by_cases cS : B f = 59
          · rw [if_pos cS, B260, neeM_o (by decide)] at hy
            have k3 := ks.2.2.2.1 cS
            have nb : ¬ bad B f := fun z => by rcases z with z | z <;> omega
            have hr := (rq_n (B := B) (f := f) (by omega) (by omega)).2 (by omega)
            subst hy
            refine ⟨fun a b w => by rw [up1_n _ _ (by omega), n2 a b (by omega)], by rw [up1_n _ _ (Or.inr (by decide)), x214]; exact hfe, fun z => absurd z nb, fun _ => ⟨?_, ?_, ?_, fun z => by omega⟩⟩
            · rw [up1_n _ _ (Or.inr (by decide))]; exact w17
            · rw [up1_n _ _ (Or.inr (by decide)), x215, k3]; rfl
            · rw [up1_s, n2 0 13 (by omega), hr]
              have := adI (x := x.1 0 13) (y := 1) (b := 1) hfe rfl (by omega) (by omega)
              exact this
          · rw [if_neg cS, B260, neeM w17 (by decide)] at hy
            have k5 := ks.2.2.2.2 (by omega) cA cD cS
            subst hy
            refine ⟨fun a b w => ?_, ?_, fun _ => ⟨?_, ?_⟩, fun w => absurd (Or.inl k5) w⟩
            · rw [up1_n _ _ (by omega), up1_n _ _ (by omega), up1_n _ _ (by omega), n2 a b (by omega)]
            · rw [up1_n _ _ (Or.inr (by decide)), up1_n _ _ (Or.inr (by decide)), up1_n _ _ (Or.inr (by decide)), x214]; exact hfe
            · rw [up1_n _ _ (Or.inr (by decide)), up1_n _ _ (Or.inr (by decide)), up1_s]; rfl
            · rw [up1_n _ _ (Or.inr (by decide)), up1_s, x214]; exact hfe
  have L8 : ∀ (n : Nat) (x : St), (2147483647 - (x.1 0 13).toInt).toNat < n → 0 ≤ (x.1 0 13).toInt → (x.1 0 13).toInt ≤ L → BM 0 x = B → (x.1 0 17).toInt = 0 → TKm B (skp B (x.1 0 13).toInt) x (lp P8 (fun _ => v) n x) := by
    intro n
    induction n with
    | zero => intro x hm; exact absurd hm (Nat.not_lt_zero _)
    | succ n ih =>
      intro x hm hp hpL hx hx0
      have hby := byM 0 (x.1 0 13) x hp
      rw [hx] at hby
      have hbb := hok (x.1 0 13).toInt
      rw [lp_s]
      by_cases c : B (x.1 0 13).toInt = 32
      · have ep : P8 (lp P8 (fun _ => v) n) x = lp P8 (fun _ => v) n (up1 x 0 13 (x.1 0 13 + 1)) := by
          generalize lp P8 (fun _ => v) n = sf
          rw [e8]
          simp only [xl_d]
          rw [if_pos (by rw [hby]; exact c)]
        rw [ep]
        have e5 : (x.1 0 13 + 1).toInt = (x.1 0 13).toInt + 1 := adI rfl rfl (by omega) (by omega)
        generalize hx3 : up1 x 0 13 (x.1 0 13 + 1) = x3
        have n3 : ∀ a b : Nat, (a ≠ 0 ∨ b ≠ 13) → x3.1 a b = x.1 a b := fun a b z => by rw [← hx3, up1_n _ _ (by omega)]
        have x35 : (x3.1 0 13).toInt = (x.1 0 13).toInt + 1 := by rw [← hx3, up1_s]; exact e5
        have q := ih x3 (by omega) (by omega) (by omega) (by rw [BM_f (n3 0 12 (by omega)) (fun i => n3 5 i (by omega))]; exact hx) (by rw [n3 0 17 (by omega)]; exact hx0)
        rw [x35, ← skp_s hB c] at q
        exact ⟨fun a b z => by rw [q.1 a b z, n3 a b (by omega)], q.2⟩
      · rw [skp_e c]
        exact K8 _ x hp hpL hx hx0 c
  simp only [xl_d] at hu
  rw [if_neg (by omega)] at hu
  rw [← hu]
  exact L8 _ v (Nat.lt_succ_self _) h5.1 h5.2 hb h0
