/-! what was seen, held against the walk -/
def Es (m : St) (n k : Nat) : Prop := (m.1 1 (42 + 2 * k)).toInt = (n : Int) → ((sq m (min n (m.1 2 32).toInt.toNat)).1 2 31).toInt = (m.1 1 (42 + 2 * k + 1)).toInt
theorem soM {m : St} (hp : 0 ≤ (m.1 2 32).toInt ∧ (m.1 2 32).toInt ≤ 8) (hs : 0 ≤ (m.1 1 41).toInt ∧ (m.1 1 41).toInt ≤ 6) (hf : ∀ j : Nat, (j : Int) ≤ (m.1 2 32).toInt → Fm m (sq m j)) : ((F_X8_isSo 0 m).1.toInt = 0 ↔ ¬ ∀ n : Nat, n ≤ 8 → ∀ k : Nat, (k : Int) < (m.1 1 41).toInt → Es m n k) ∧ (F_X8_isSo 0 m).2 = sq m (m.1 2 32).toInt.toNat := by
  have c0 : (0 : Int32).toInt = 0 := rfl
  have c1 : (1 : Int32).toInt = 1 := rfl
  generalize hu : F_X8_isSo 0 m = u
  unfold F_X8_isSo at hu
  obtain ⟨N, hN⟩ : ∃ N : Nat, N = (2147483647 - (0 : Int32).toInt).toNat := ⟨_, rfl⟩
  rw [← hN] at hu
  obtain ⟨P, eP, hu⟩ := xl_e hu
  have Lp : ∀ (nf : Nat) (acc y : Int32) (n : Nat), (2147483647 - y.toInt).toNat < nf → y.toInt = (n : Int) → n ≤ 9 → ((lp P (fun _ _ _ => ((0 : Int32), m)) nf acc y (sq m (min n (m.1 2 32).toInt.toNat))).1.toInt = 0 ↔ (acc.toInt = 0 ∨ ¬ ∀ n' : Nat, n ≤ n' → n' ≤ 8 → ∀ k : Nat, (k : Int) < (m.1 1 41).toInt → Es m n' k)) ∧ (lp P (fun _ _ _ => ((0 : Int32), m)) nf acc y (sq m (min n (m.1 2 32).toInt.toNat))).2 = sq m (m.1 2 32).toInt.toNat := by
    intro nf
    induction nf with
    | zero => intro acc y n hm; exact absurd hm (Nat.not_lt_zero _)
    | succ nf ih =>
      intro acc y n hm hy h9
      rw [lp_s]
      generalize lp P (fun _ _ _ => ((0 : Int32), m)) nf = sf at ih ⊢
      generalize hx : P sf acc y (sq m (min n (m.1 2 32).toInt.toNat)) = X
      rw [eP] at hx
      obtain ⟨J, eJ, hx⟩ := xl_e hx
      obtain ⟨R, eR, hx⟩ := xl_e hx
      by_cases d : 8 < y.toInt
      · have hx := if_t d hx
        rw [← hx]
        refine ⟨⟨fun z => Or.inl z, fun z => z.elim id (fun q => absurd (fun n' a b => by omega) q)⟩, ?_⟩
        rw [show min n (m.1 2 32).toInt.toNat = (m.1 2 32).toInt.toNat by omega]
      · have hx := if_f d hx
        have ey : (y + 1).toInt = y.toInt + 1 := adI rfl rfl (by omega) (by omega)
        have hv := hf (min n (m.1 2 32).toInt.toNat) (by omega)
        have Lk : ∀ (nk : Nat) (ac k : Int32) (i : Nat), (2147483647 - k.toInt).toNat < nk → k.toInt = (i : Int) → (i : Int) ≤ (m.1 1 41).toInt → ∃ ac2 : Int32, (ac2.toInt = 0 ↔ (ac.toInt = 0 ∨ ¬ ∀ k' : Nat, i ≤ k' → (k' : Int) < (m.1 1 41).toInt → Es m n k')) ∧ lp R (fun _ _ _ => ((0 : Int32), m)) nk ac k (sq m (min n (m.1 2 32).toInt.toNat)) = sf ac2 (y + 1) (sq m (min (n + 1) (m.1 2 32).toInt.toNat)) := by
          intro nk
          induction nk with
          | zero => intro ac k i hm; exact absurd hm (Nat.not_lt_zero _)
          | succ nk ihk =>
            intro ac k i hmk hk hki
            rw [lp_s]
            have v41 : (sq m (min n (m.1 2 32).toInt.toNat)).1 1 41 = m.1 1 41 := hv 1 41 (by omega)
            have v32 : (sq m (min n (m.1 2 32).toInt.toNat)).1 2 32 = m.1 2 32 := hv 2 32 (by omega)
            by_cases dk : k.toInt < (m.1 1 41).toInt
            · have ek : (k + 1).toInt = k.toInt + 1 := adI rfl rfl (by omega) (by omega)
              have m2 : ((2 : Int32) * k).toInt = 2 * k.toInt := mlI rfl rfl (by omega) (by omega)
              have a2 : ((42 : Int32) + (2 : Int32) * k).toInt = 42 + 2 * k.toInt := adI rfl m2 (by omega) (by omega)
              have a3 : ((42 : Int32) + (2 : Int32) * k + 1).toInt = 42 + 2 * k.toInt + 1 := adI a2 rfl (by omega) (by omega)
              have n2 := cnI (x := (42 : Int32) + (2 : Int32) * k) (by omega)
              have n3 := cnI (x := (42 : Int32) + (2 : Int32) * k + 1) (by omega)
              have ep : ∃ ac' : Int32, (ac'.toInt = 0 ↔ (ac.toInt = 0 ∨ ¬ Es m n i)) ∧ R (lp R (fun _ _ _ => ((0 : Int32), m)) nk) ac k (sq m (min n (m.1 2 32).toInt.toNat)) = lp R (fun _ _ _ => ((0 : Int32), m)) nk ac' (k + 1) (sq m (min n (m.1 2 32).toInt.toNat)) := by
                generalize lp R (fun _ _ _ => ((0 : Int32), m)) nk = sr
                rw [eR]
                simp only [xl_d, xm_d, Nat.reduceAdd, cn41, cn32, cn31]
                rw [if_pos (by rw [v41]; exact dk), show ((42 : Int32) + (2 : Int32) * k).toNatClampNeg = 42 + 2 * i by omega, show ((42 : Int32) + (2 : Int32) * k + 1).toNatClampNeg = 42 + 2 * i + 1 by omega, hv 1 (42 + 2 * i) (by omega), hv 1 (42 + 2 * i + 1) (by omega)]
                by_cases z0 : ac.toInt = 0
                · refine ⟨0, ⟨fun _ => Or.inl z0, fun _ => c0⟩, ?_⟩
                  rw [if_pos z0]
                · rw [if_neg z0]
                  by_cases z1 : (m.1 1 (42 + 2 * i)).toInt = y.toInt
                  · rw [if_pos z1]
                    by_cases z2 : ((sq m (min n (m.1 2 32).toInt.toNat)).1 2 31).toInt = (m.1 1 (42 + 2 * i + 1)).toInt
                    · refine ⟨1, ⟨fun q => by omega, fun q => q.elim (fun q => absurd q z0) (fun q => absurd (fun _ => z2) q)⟩, ?_⟩
                      rw [if_pos z2]
                    · refine ⟨0, ⟨fun _ => Or.inr (fun q => z2 (q (by omega))), fun _ => c0⟩, ?_⟩
                      rw [if_neg z2]
                  · refine ⟨1, ⟨fun q => by omega, fun q => q.elim (fun q => absurd q z0) (fun q => absurd (fun q2 => absurd (by omega) z1) q)⟩, ?_⟩
                    rw [if_neg z1]
              obtain ⟨ac', ha', ep⟩ := ep
              rw [ep]
              obtain ⟨ac2, hb, hc⟩ := ihk ac' (k + 1) (i + 1) (by omega) (by omega) (by omega)
              refine ⟨ac2, ?_, hc⟩
              rw [hb, ha']
              constructor
              · rintro ((q | q) | q)
                · exact Or.inl q
                · exact Or.inr (fun t => q (t i (Nat.le_refl i) (by omega)))
                · exact Or.inr (fun t => q (fun k' e1 e2 => t k' (by omega) e2))
              · rintro (q | q)
                · exact Or.inl (Or.inl q)
                · by_cases t : Es m n i
                  · refine Or.inr (fun t2 => q (fun k' e1 e2 => ?_))
                    by_cases e : k' = i
                    · rw [e]; exact t
                    · exact t2 k' (by omega) e2
                  · exact Or.inl (Or.inr t)
            · refine ⟨ac, ⟨fun z => Or.inl z, fun z => z.elim id (fun q => absurd (fun k' a b => by omega) q)⟩, ?_⟩
              have y33 : ((33 : Int32) + y).toInt = 33 + y.toInt := adI rfl rfl (by omega) (by omega)
              have n33 := cnI (x := (33 : Int32) + y) (by omega)
              generalize lp R (fun _ _ _ => ((0 : Int32), m)) nk = sr
              rw [eR]
              simp only [xl_d, xm_d, Nat.reduceAdd, cn41, cn32, cn31]
              rw [if_neg (by rw [v41]; exact dk), v32]
              by_cases dn : y.toInt < (m.1 2 32).toInt
              · rw [if_pos dn, show ((33 : Int32) + y).toNatClampNeg = 33 + n by omega, hv 2 (33 + n) (by omega), eJ, show min n (m.1 2 32).toInt.toNat = n by omega, show min (n + 1) (m.1 2 32).toInt.toNat = n + 1 by omega, sq_s]
                rfl
              · rw [if_neg dn, eJ, show min (n + 1) (m.1 2 32).toInt.toNat = min n (m.1 2 32).toInt.toNat by omega]
                rfl
        obtain ⟨ac2, h1, h2⟩ := Lk (N + 1) acc 0 0 (by rw [← hN]; exact Nat.lt_succ_self N) rfl (by omega)
        have hx : sf ac2 (y + 1) (sq m (min (n + 1) (m.1 2 32).toInt.toNat)) = X := h2.symm.trans hx
        rw [← hx]
        have hi := ih ac2 (y + 1) (n + 1) (by omega) (by omega) (by omega)
        refine ⟨hi.1.trans ?_, hi.2⟩
        rw [h1]
        constructor
        · rintro ((q | q) | q)
          · exact Or.inl q
          · exact Or.inr (fun t => q (fun k' _ hk => t n (Nat.le_refl n) (by omega) k' hk))
          · exact Or.inr (fun t => q (fun n' e1 e2 => t n' (by omega) e2))
        · rintro (q | q)
          · exact Or.inl (Or.inl q)
          · by_cases t : ∀ k' : Nat, 0 ≤ k' → (k' : Int) < (m.1 1 41).toInt → Es m n k'
            · refine Or.inr (fun t2 => q (fun n' e1 e2 k hk => ?_))
              by_cases e : n' = n
              · rw [e]; exact t k (Nat.zero_le k) hk
              · exact t2 n' (by omega) e2 k hk
            · exact Or.inl (Or.inr t)
  have := Lp (N + 1) 1 0 0 (by rw [← hN]; exact Nat.lt_succ_self N) rfl (by omega)
  rw [show sq m (min 0 (m.1 2 32).toInt.toNat) = m by rw [Nat.zero_min]; rfl] at this
  rw [← hu]
  refine ⟨this.1.trans ⟨fun z => z.elim (fun q => by omega) (fun q t => q (fun n' _ e2 => t n' e2)), fun z => Or.inr (fun t => z (fun n' e2 => t n' (Nat.zero_le _) e2))⟩, this.2⟩
def Gs (m : St) (k : Nat) : Prop := ((sq m (min (m.1 1 (42 + 2 * k)).toInt.toNat (m.1 2 32).toInt.toNat)).1 2 31).toInt = (m.1 1 (42 + 2 * k + 1)).toInt
theorem seenC {c m : St} (h : TR c m) (hs : SQ c m) : ((F_X6_isAllAsSeen 21 c).1.toInt = 0 ↔ ¬ ∀ k : Nat, (k : Int) < (m.1 1 41).toInt → Gs m k) ∧ (F_X6_isAllAsSeen 21 c).2 = F_X6_walkPlan 21 c := by
  have c0 : (0 : Int32).toInt = 0 := rfl
  have c1 : (1 : Int32).toInt = 1 := rfl
  obtain ⟨-, -, g3, -, -, g6, -⟩ := h.walk
  have h8 := h.2.2.1
  generalize hu : F_X6_isAllAsSeen 21 c = u
  unfold F_X6_isAllAsSeen at hu
  obtain ⟨N, hN⟩ : ∃ N : Nat, N = (2147483647 - (0 : Int32).toInt).toNat := ⟨_, rfl⟩
  rw [← hN] at hu
  obtain ⟨P, eP, hu⟩ := xl_e hu
  rw [xl_d] at hu
  generalize F_X6_walkPlan 21 c = x at *
  have x17 : x.1 22 17 = m.1 1 41 := by rw [g3 22 17 (by omega)]; exact hs.1.1
  have x14 : x.1 22 14 = m.1 2 32 := by rw [g3 22 14 (by omega)]; exact h8.1
  have s6 := hs.1.2
  have Lp : ∀ (n : Nat) (y : Int32) (i : Nat), (2147483647 - y.toInt).toNat < n → y.toInt = (i : Int) → (i : Int) ≤ (m.1 1 41).toInt → ((lp P (fun _ _ => ((0 : Int32), c)) n y x).1.toInt = 0 ↔ ¬ ∀ k : Nat, i ≤ k → (k : Int) < (m.1 1 41).toInt → Gs m k) ∧ (lp P (fun _ _ => ((0 : Int32), c)) n y x).2 = x := by
    intro n
    induction n with
    | zero => intro y i hm; exact absurd hm (Nat.not_lt_zero _)
    | succ n ih =>
      intro y i hm hy h1
      rw [lp_s]
      generalize lp P (fun _ _ => ((0 : Int32), c)) n = sf at *
      rw [eP]
      simp only [xl_d, Nat.reduceAdd]
      by_cases d : y.toInt < (m.1 1 41).toInt
      · have ey : (y + 1).toInt = y.toInt + 1 := adI rfl rfl (by omega) (by omega)
        have n0 := cnI (x := y) (by omega)
        have hq := hs.2 i (by omega)
        have x29 : x.1 29 i = m.1 1 (42 + 2 * i) := by rw [g3 29 i (by omega)]; exact hq.1
        have x30 : x.1 30 i = m.1 1 (42 + 2 * i + 1) := by rw [g3 30 i (by omega)]; exact hq.2.1
        have emn : (if m.1 2 32 < m.1 1 (42 + 2 * i) then m.1 2 32 else m.1 1 (42 + 2 * i)).toNatClampNeg = min (m.1 1 (42 + 2 * i)).toInt.toNat (m.1 2 32).toInt.toNat := by
          have n1 := cnI (x := m.1 2 32) (by omega)
          have n2 := cnI (x := m.1 1 (42 + 2 * i)) (by omega)
          by_cases e : m.1 2 32 < m.1 1 (42 + 2 * i)
          · rw [if_pos e]
            have := Int32.lt_iff_toInt_lt.mp e
            omega
          · rw [if_neg e]
            have : ¬ (m.1 2 32).toInt < (m.1 1 (42 + 2 * i)).toInt := fun q => e (Int32.lt_iff_toInt_lt.mpr q)
            omega
        rw [if_pos (by rw [x17]; exact d), show y.toNatClampNeg = i by omega, x29, x30, x14, emn, g6 _ (by omega)]
        by_cases e : ((sq m (min (m.1 1 (42 + 2 * i)).toInt.toNat (m.1 2 32).toInt.toNat)).1 2 31).toInt = (m.1 1 (42 + 2 * i + 1)).toInt
        · rw [if_pos e]
          have hi := ih (y + 1) (i + 1) (by omega) (by omega) (by omega)
          refine ⟨hi.1.trans ⟨fun q t => q (fun k e1 e2 => t k (by omega) e2), fun q t => q (fun k e1 e2 => ?_)⟩, hi.2⟩
          by_cases e3 : k = i
          · rw [e3]; exact e
          · exact t k (by omega) e2
        · rw [if_neg e]
          exact ⟨⟨fun _ t => e (t i (Nat.le_refl i) (by omega)), fun _ => c0⟩, rfl⟩
      · rw [if_neg (by rw [x17]; exact d)]
        exact ⟨⟨fun q => absurd (c1.symm.trans q) (by decide), fun q => absurd (fun k e1 e2 => by omega) q⟩, rfl⟩
  have := Lp (N + 1) 0 0 (by rw [← hN]; exact Nat.lt_succ_self N) rfl (by omega)
  rw [← hu]
  exact ⟨this.1.trans ⟨fun q t => q (fun k _ e2 => t k e2), fun q t => q (fun k e2 => t k (Nat.zero_le k) e2)⟩, this.2⟩
theorem TR.seen {c m : St} (h : TR c m) (hs : SQ c m) : ((F_X6_isAllAsSeen 21 c).1.toInt = 0 ↔ (F_X8_isSo 0 m).1.toInt = 0) ∧ Fc c (F_X6_isAllAsSeen 21 c).2 ∧ Fm m (F_X8_isSo 0 m).2 := by
  obtain ⟨-, -, g3, -, -, -, g7⟩ := h.walk
  have h8 := h.2.2.1.2
  obtain ⟨a1, a2⟩ := seenC h hs
  obtain ⟨b1, b2⟩ := soM h8 hs.1.2 g7
  refine ⟨a1.trans (Iff.trans ?_ b1.symm), by rw [a2]; exact g3, by rw [b2]; exact g7 _ (by omega)⟩
  refine not_congr ⟨fun t n hn k hk e => ?_, fun t k hk => ?_⟩
  · have := t k hk
    unfold Gs at this
    rw [show (m.1 1 (42 + 2 * k)).toInt.toNat = n by omega] at this
    exact this
  · have hq := (hs.2 k hk).2.2
    exact t (m.1 1 (42 + 2 * k)).toInt.toNat (by omega) k hk (by omega)
theorem SQ.fr {c m c2 m2 : St} (h : SQ c m) (hc : ∀ a b : Nat, ((a = 22 ∧ b = 17) ∨ a = 29 ∨ a = 30) → c2.1 a b = c.1 a b) (hm : ∀ b : Nat, m2.1 1 b = m.1 1 b) : SQ c2 m2 := by
  unfold SQ at h ⊢
  rw [hc 22 17 (by omega), hm 41]
  refine ⟨h.1, fun i hi => ?_⟩
  rw [hc 29 i (by omega), hc 30 i (by omega), hm, hm]
  exact h.2 i hi
theorem ans_whose {c m : St} {r r2 : Int32} {u w : St} (h : Sim c m) (hC : (r, u) = F_X7_whose 0 c) (hM : (r2, w) = F_X8_whose 0 m) : r = r2 := by
  have c0 : (0 : Int32).toInt = 0 := rfl
  unfold F_X7_whose at hC
  unfold F_X8_whose at hM
  obtain ⟨N, hN⟩ : ∃ N : Nat, N = (2147483647 - (0 : Int32).toInt).toNat := ⟨_, rfl⟩
  rw [← hN] at hC hM
  obtain ⟨P, eP, hC⟩ := xl_e hC.symm
  obtain ⟨Q, eQ, hM⟩ := xl_e hM.symm
  have Lp : ∀ (n : Nat) (a y : Int32) (i : Nat) (x z : St), (2147483647 - y.toInt).toNat < n → y.toInt = (i : Int) → i ≤ 3 → 0 ≤ a.toInt ∧ a.toInt < ((2 ^ i : Nat) : Int) → NR 12 0 x z → (lp P (fun _ _ _ => ((0 : Int32), c)) n a y x).1 = (lp Q (fun _ _ _ => ((0 : Int32), m)) n a y z).1 := by
    intro n
    induction n with
    | zero => intro a y i x z hm; exact absurd hm (Nat.not_lt_zero _)
    | succ n ih =>
      intro a y i x z hm hy hi ha hR
      rw [lp_s, lp_s]
      generalize lp P (fun _ _ _ => ((0 : Int32), c)) n = sf at *
      generalize lp Q (fun _ _ _ => ((0 : Int32), m)) n = sg at *
      rw [eP, eQ]
      simp only [xl_d, xm_d, Nat.reduceAdd, cn23]
      have h3 := hR.1.2
      rw [h3.1]
      by_cases d : y.toInt < (z.1 0 4).toInt
      · have ey : (y + 1).toInt = y.toInt + 1 := adI rfl rfl (by omega) (by omega)
        obtain ⟨hT, hs, fb⟩ := hR.tr
        have fs := (stM1 z).2
        have hT2 := hT.front (w := y) ⟨by omega, by rw [fs 0 4 (by omega)]; exact d⟩
        have hs2 : SQ (up1 (F_X6_begin 21 12 x) 22 7 y) (up1 (F_X8_starts 0 z) 2 23 y) := hs.fr (fun a b _ => nn_ a b (by omega)) (fun b => by rw [nn_ 1 b (by omega)]; exact fs 1 b (by omega))
        obtain ⟨t1, t2, t3⟩ := hT2.seen hs2
        rw [if_pos d, if_pos d]
        have hb := wbtC (x := (F_X6_isAllAsSeen 21 (up1 (F_X6_begin 21 12 x) 22 7 y)).1) (F_X6_isAllAsSeen 21 (up1 (F_X6_begin 21 12 x) 22 7 y)).2 hy (by omega) ha
        have hn : NR 12 0 (F_X6_isAllAsSeen 21 (up1 (F_X6_begin 21 12 x) 22 7 y)).2 (F_X8_isSo 0 (up1 (F_X8_starts 0 z) 2 23 y)).2 := hR.nx (fun a b zz => by rw [t2 a b (by omega), nn_ a b (by omega)]; exact fb a b (by omega)) (fun a b zz => by rw [t3 a b (by omega), nn_ a b (by omega)]; exact fs a b (by omega))
        have := ih _ (y + 1) (i + 1) _ _ (by omega) (by omega) (by omega) hb.2 hn
        rw [this, hb.1, flagE _ (F_X8_isSo 0 (up1 (F_X8_starts 0 z) 2 23 y)).2 t1]
      · rw [if_neg d, if_neg d]
  have := Lp (N + 1) 0 0 0 c m (by rw [← hN]; exact Nat.lt_succ_self N) rfl (by omega) ⟨by decide, by decide⟩ h.1
  rw [hC, hM] at this
  exact this
