/-! the two readings, side by side -/
/-- stars told so far -/
def DS (c m : St) : Prop := (c.1 3 3 = m.1 0 6 ∧ 0 ≤ (m.1 0 6).toInt ∧ (m.1 0 6).toInt ≤ 5) ∧ ∀ i : Nat, (i : Int) < (m.1 0 6).toInt → c.1 4 i = m.1 4 (4 * i) ∧ c.1 5 i = m.1 4 (4 * i + 1) ∧ c.1 6 i = m.1 4 (4 * i + 2) ∧ 0 ≤ (m.1 4 (4 * i + 2)).toInt ∧ (m.1 4 (4 * i + 2)).toInt ≤ 6
/-- walkers -/
def DW (c m : St) : Prop := (c.1 3 6 = m.1 0 7 ∧ 0 ≤ (m.1 0 7).toInt ∧ (m.1 0 7).toInt ≤ 3) ∧ ∀ i : Nat, (i : Int) < (m.1 0 7).toInt → c.1 7 i = m.1 4 (20 + i) ∧ 0 ≤ (m.1 4 (20 + i)).toInt ∧ (m.1 4 (20 + i)).toInt ≤ 3
/-- plain numbers -/
def DF (c m : St) : Prop := (c.1 3 7 = m.1 4 23 ∧ (m.1 4 23).toInt = 0) ∧ c.1 3 8 = m.1 4 24 ∧ c.1 3 9 = m.1 4 25 ∧ c.1 3 10 = m.1 4 26 ∧ (c.1 8 3 = m.1 4 27 ∧ 0 ≤ (m.1 4 27).toInt ∧ (m.1 4 27).toInt ≤ 99) ∧ c.1 3 11 = m.1 4 28 ∧ (c.1 8 0 = m.1 4 29 ∧ (m.1 4 29).toInt = 0) ∧ (c.1 8 1 = m.1 4 30 ∧ (m.1 4 30).toInt = 0) ∧ (c.1 8 2 = m.1 4 31 ∧ (m.1 4 31).toInt = 0) ∧ (c.1 3 17 = m.1 4 41 ∧ (m.1 4 41).toInt = 0)
/-- the plan, the stars known, the highest star that is named -/
def DP (c m : St) : Prop := (c.1 3 14 = m.1 4 32 ∧ 0 ≤ (m.1 4 32).toInt ∧ (m.1 4 32).toInt ≤ 8) ∧ (c.1 3 4 = m.1 0 8 ∧ 0 ≤ (m.1 0 8).toInt ∧ (m.1 0 8).toInt ≤ 31) ∧ (∀ i : Nat, (i : Int) < (m.1 4 32).toInt → c.1 9 i = m.1 4 (33 + i) ∧ 0 ≤ (m.1 4 (33 + i)).toInt ∧ (m.1 4 (33 + i)).toInt ≤ 6) ∧ (∀ s : Nat, s ≤ 5 → ((m.1 0 10).toInt < (s : Int) ↔ ((m.1 0 8).toInt < ((2 ^ s : Nat) : Int) ∧ ∀ i : Nat, (i : Int) < (m.1 4 32).toInt → (m.1 4 (33 + i)).toInt < 5 → (m.1 4 (33 + i)).toInt < (s : Int))))
/-- which lines were told -/
def DT (c m : St) : Prop := (m.1 0 9 = c.1 1 7 <<< 7 ∧ 0 ≤ (c.1 1 7).toInt ∧ (c.1 1 7).toInt ≤ 15) ∧ ((c.1 1 7).toInt < 8 → (m.1 4 32).toInt = 0)
def Dr (c m : St) : Prop := DS c m ∧ DW c m ∧ DF c m ∧ DP c m ∧ DT c m
theorem DS.fr {c m c2 m2 : St} (h : DS c m) (hc : ∀ b : Nat, c2.1 3 3 = c.1 3 3 ∧ c2.1 4 b = c.1 4 b ∧ c2.1 5 b = c.1 5 b ∧ c2.1 6 b = c.1 6 b) (h6 : m2.1 0 6 = m.1 0 6) (hm : ∀ b : Nat, b < 20 → m2.1 4 b = m.1 4 b) : DS c2 m2 := by
  unfold DS at h ⊢
  rw [(hc 0).1, h6]
  refine ⟨h.1, fun i hi => ?_⟩
  rw [(hc i).2.1, (hc i).2.2.1, (hc i).2.2.2, hm _ (by omega), hm _ (by omega), hm _ (by omega)]
  exact h.2 i hi
theorem DW.fr {c m c2 m2 : St} (h : DW c m) (hc : ∀ b : Nat, c2.1 3 6 = c.1 3 6 ∧ c2.1 7 b = c.1 7 b) (h7 : m2.1 0 7 = m.1 0 7) (hm : ∀ b : Nat, 20 ≤ b → b < 23 → m2.1 4 b = m.1 4 b) : DW c2 m2 := by
  unfold DW at h ⊢
  rw [(hc 0).1, h7]
  refine ⟨h.1, fun i hi => ?_⟩
  rw [(hc i).2, hm _ (by omega) (by omega)]
  exact h.2 i hi
theorem DF.fr {c m c2 m2 : St} (h : DF c m) (hc : ∀ b : Nat, 7 ≤ b → ¬ b = 14 → c2.1 3 b = c.1 3 b) (h8 : ∀ b : Nat, c2.1 8 b = c.1 8 b) (hm : ∀ b : Nat, 23 ≤ b → b < 32 ∨ b = 41 → m2.1 4 b = m.1 4 b) : DF c2 m2 := by
  unfold DF at h ⊢
  rw [hc 7 (by omega) (by omega), hc 8 (by omega) (by omega), hc 9 (by omega) (by omega), hc 10 (by omega) (by omega), hc 11 (by omega) (by omega), hc 17 (by omega) (by omega), h8, h8, h8, h8, hm 23 (by omega) (by omega), hm 24 (by omega) (by omega), hm 25 (by omega) (by omega), hm 26 (by omega) (by omega), hm 27 (by omega) (by omega), hm 28 (by omega) (by omega), hm 29 (by omega) (by omega), hm 30 (by omega) (by omega), hm 31 (by omega) (by omega), hm 41 (by omega) (by omega)]
  exact h
theorem DP.fr {c m c2 m2 : St} (h : DP c m) (hc : c2.1 3 14 = c.1 3 14 ∧ c2.1 3 4 = c.1 3 4) (h9 : ∀ b : Nat, c2.1 9 b = c.1 9 b) (h8 : m2.1 0 8 = m.1 0 8) (h10 : m2.1 0 10 = m.1 0 10) (hm : ∀ b : Nat, 32 ≤ b → b < 41 → m2.1 4 b = m.1 4 b) : DP c2 m2 := by
  unfold DP at h ⊢
  rw [hc.1, hc.2, h8, h10, hm 32 (by omega) (by omega)]
  obtain ⟨a1, a2, a3, a4⟩ := h
  refine ⟨a1, a2, fun i hi => ?_, fun s hs => ?_⟩
  · rw [h9, hm _ (by omega) (by omega)]; exact a3 i hi
  · rw [a4 s hs]
    constructor
    · intro z
      exact ⟨z.1, fun i hi => by rw [hm _ (by omega) (by omega)]; exact z.2 i hi⟩
    · intro z
      exact ⟨z.1, fun i hi => by have := z.2 i hi; rw [hm _ (by omega) (by omega)] at this; exact this⟩
theorem DT.fr {c m c2 m2 : St} (h : DT c m) (hc : c2.1 1 7 = c.1 1 7) (h9 : m2.1 0 9 = m.1 0 9) (hm : m2.1 4 32 = m.1 4 32) : DT c2 m2 := by
  unfold DT at h ⊢
  rw [hc, h9, hm]
  exact h
theorem Dr.fr {c m c2 m2 : St} (h : Dr c m) (hc : ∀ a b : Nat, (a ≠ 1 ∨ b = 7) → c2.1 a b = c.1 a b) (hm : ∀ a b : Nat, (a ≠ 0 ∨ b < 13) → m2.1 a b = m.1 a b) : Dr c2 m2 :=
  ⟨h.1.fr (fun b => ⟨hc _ _ (by omega), hc _ _ (by omega), hc _ _ (by omega), hc _ _ (by omega)⟩) (hm _ _ (by omega)) (fun b _ => hm _ _ (by omega)), h.2.1.fr (fun b => ⟨hc _ _ (by omega), hc _ _ (by omega)⟩) (hm _ _ (by omega)) (fun b _ _ => hm _ _ (by omega)), h.2.2.1.fr (fun b _ _ => hc _ _ (by omega)) (fun b => hc _ _ (by omega)) (fun b _ _ => hm _ _ (by omega)), h.2.2.2.1.fr ⟨hc _ _ (by omega), hc _ _ (by omega)⟩ (fun b => hc _ _ (by omega)) (hm _ _ (by omega)) (hm _ _ (by omega)) (fun b _ _ => hm _ _ (by omega)), h.2.2.2.2.fr (hc _ _ (by omega)) (hm _ _ (by omega)) (hm _ _ (by omega))⟩
/-- a fault at the same place -/
def Fl (c m : St) : Prop := ¬ (c.1 1 8).toInt = 0 ∧ 0 < (m.1 0 17).toInt ∧ (c.1 1 9).toInt = (m.1 0 18).toInt
def TP (B : Int → Int) (L : Int) (c m : St) : Prop := BC 1 c = B ∧ BM 0 m = B ∧ (c.1 1 1).toInt = L
/-- the same token -/
def TT (q : Int) (B : Int → Int) (L : Int) (c m : St) : Prop := (c.1 1 3).toInt = (m.1 0 15).toInt ∧ (c.1 1 4).toInt = (m.1 0 14).toInt ∧ (c.1 1 5).toInt = (m.1 0 13).toInt ∧ (0 ≤ (m.1 0 14).toInt ∧ (m.1 0 14).toInt ≤ (m.1 0 13).toInt ∧ (m.1 0 13).toInt ≤ L ∧ q ≤ (m.1 0 13).toInt) ∧ (m.1 0 15).toInt = kd (B (m.1 0 14).toInt) ∧ (m.1 0 13).toInt = rq B (m.1 0 14).toInt ∧ ((m.1 0 15).toInt = 2 → (c.1 1 6).toInt = (m.1 0 16).toInt ∧ 0 ≤ (m.1 0 16).toInt ∧ (m.1 0 16).toInt ≤ 99)
/-- what the token's steps leave alone -/
def FC (c c2 : St) : Prop := ∀ a b : Nat, (a ≠ 1 ∨ b < 3 ∨ b = 7 ∨ 10 ≤ b) → c2.1 a b = c.1 a b
def FM (m m2 : St) : Prop := ∀ a b : Nat, (a ≠ 0 ∨ b < 13 ∨ 19 ≤ b) → m2.1 a b = m.1 a b
theorem FC.rf (c : St) : FC c c := fun _ _ _ => rfl
theorem FM.rf (m : St) : FM m m := fun _ _ _ => rfl
theorem FC.tr {a b c : St} (h : FC a b) (g : FC b c) : FC a c := fun x y z => by rw [g x y z, h x y z]
theorem FM.tr {a b c : St} (h : FM a b) (g : FM b c) : FM a c := fun x y z => by rw [g x y z, h x y z]
theorem FC.bc {c c2 : St} (h : FC c c2) : BC 1 c2 = BC 1 c := BC_f (h 1 1 (by omega)) (fun i => h 2 i (by omega))
theorem FM.bm {m m2 : St} (h : FM m m2) : BM 0 m2 = BM 0 m := BM_f (h 0 12 (by omega)) (fun i => h 5 i (by omega))
/-- what is told of the drafts must not look at the token -/
def Stb (D : St → St → Prop) : Prop := ∀ c m c2 m2 : St, FC c c2 → FM m m2 → D c m → D c2 m2
def RT (q : Int) (D : St → St → Prop) (B : Int → Int) (L : Int) (c m : St) : Prop := TP B L c m ∧ (Fl c m ∨ ((c.1 1 8).toInt = 0 ∧ (m.1 0 17).toInt = 0 ∧ TT q B L c m ∧ D c m))
/-- the same place -/
def RS (q : Int) (D : St → St → Prop) (B : Int → Int) (L : Int) (c m : St) : Prop := TP B L c m ∧ (Fl c m ∨ ((c.1 1 8).toInt = 0 ∧ (m.1 0 17).toInt = 0 ∧ (c.1 1 5).toInt = (m.1 0 13).toInt ∧ (0 ≤ (m.1 0 13).toInt ∧ (m.1 0 13).toInt ≤ L ∧ q ≤ (m.1 0 13).toInt) ∧ D c m))
/-- the reference has the next token already -/
def AA (B : Int → Int) (f : Int) (m : St) : Prop := (m.1 0 14).toInt = f ∧ (bad B f → (m.1 0 17).toInt = 1 ∧ (m.1 0 18).toInt = f) ∧ (¬ bad B f → (m.1 0 17).toInt = 0 ∧ (m.1 0 15).toInt = kd (B f) ∧ (m.1 0 13).toInt = rq B f ∧ (kd (B f) = 2 → (m.1 0 16).toInt = vl B f))
def RA (q : Int) (D : St → St → Prop) (B : Int → Int) (L : Int) (c m : St) : Prop := TP B L c m ∧ (Fl c m ∨ ((c.1 1 8).toInt = 0 ∧ (0 ≤ (c.1 1 5).toInt ∧ (c.1 1 5).toInt ≤ L ∧ q ≤ (c.1 1 5).toInt) ∧ AA B (skp B (c.1 1 5).toInt) m ∧ D c m))
theorem RT.s {D : St → St → Prop} {q : Int} {B : Int → Int} {L : Int} {c m : St} (h : RT q D B L c m) : RS q D B L c m := ⟨h.1, h.2.imp id (fun z => ⟨z.1, z.2.1, z.2.2.1.2.2.1, ⟨Int.le_trans z.2.2.1.2.2.2.1.1 z.2.2.1.2.2.2.1.2.1, z.2.2.1.2.2.2.1.2.2⟩, z.2.2.2⟩)⟩
theorem TP.fr {B : Int → Int} {L : Int} {c m c2 m2 : St} (h : TP B L c m) (hc : FC c c2) (hm : FM m m2) : TP B L c2 m2 := ⟨by rw [hc.bc]; exact h.1, by rw [hm.bm]; exact h.2.1, by rw [hc 1 1 (by omega)]; exact h.2.2⟩
theorem Dr.tk {c m c2 m2 : St} (h : Dr c m) (hc : FC c c2) (hm : FM m m2) : Dr c2 m2 := h.fr (fun a b z => hc a b (by omega)) (fun a b z => hm a b (by omega))
theorem takeC_x {c : St} (h : ¬ (c.1 1 8).toInt = 0) : F_X5_takeToken 1 c = c := by
  generalize hu : F_X5_takeToken 1 c = u
  unfold F_X5_takeToken at hu
  obtain ⟨J231, e231, hu⟩ := xl_e hu
  obtain ⟨J202, e202, hu⟩ := xl_e hu
  obtain ⟨P134, e134, hu⟩ := xl_e hu
  obtain ⟨J131, e131, hu⟩ := xl_e hu
  obtain ⟨J126, e126, hu⟩ := xl_e hu
  obtain ⟨J92, e92, hu⟩ := xl_e hu
  obtain ⟨J56, e56, hu⟩ := xl_e hu
  obtain ⟨P18, e18, hu⟩ := xl_e hu
  simp only [xl_d] at hu
  rw [if_neg h] at hu
  exact hu.symm
theorem nextM_x {m : St} (h : 0 < (m.1 0 17).toInt) : F_X8_next1 0 m = m := by
  generalize hu : F_X8_next1 0 m = u
  unfold F_X8_next1 at hu
  obtain ⟨J260, e260, hu⟩ := xl_e hu
  obtain ⟨J236, e236, hu⟩ := xl_e hu
  obtain ⟨P140, e140, hu⟩ := xl_e hu
  obtain ⟨P82, e82, hu⟩ := xl_e hu
  obtain ⟨P8, e8, hu⟩ := xl_e hu
  simp only [xl_d] at hu
  rw [if_pos h] at hu
  exact hu.symm
/-- the class takes the token that the reference has -/
theorem RA.take {D : St → St → Prop} {q : Int} {B : Int → Int} {L : Int} {c m : St} (hS : Stb D) (hB : okB B L) (h : RA q D B L c m) : RT q D B L (F_X5_takeToken 1 c) m ∧ FC c (F_X5_takeToken 1 c) ∧ (((F_X5_takeToken 1 c).1 1 8).toInt = 0 → q ≤ ((F_X5_takeToken 1 c).1 1 4).toInt) := by
  obtain ⟨hT, h | ⟨h0, h5, hA, hD⟩⟩ := h
  · rw [takeC_x h.1]
    exact ⟨⟨hT, Or.inl h⟩, FC.rf c, fun z => absurd z h.1⟩
  · have hk := tokC hB hT.1 h0 ⟨h5.1, h5.2.1⟩
    have hs := skp_r hB h5.1 h5.2.1
    have hq := rq_r hB (f := skp B (c.1 1 5).toInt) (by omega) hs.2.1
    generalize F_X5_takeToken 1 c = u at hk ⊢
    generalize skp B (c.1 1 5).toInt = f at hA hk hs hq
    obtain ⟨k1, k2, k3, k4⟩ := hk
    obtain ⟨a1, a2, a3⟩ := hA
    refine ⟨⟨hT.fr k1 (FM.rf m), ?_⟩, k1, fun _ => by omega⟩
    by_cases hb : bad B f
    · have q1 := k3 hb
      have q2 := a2 hb
      exact Or.inl ⟨by omega, by omega, by omega⟩
    · have q1 := k4 hb
      have q2 := a3 hb
      refine Or.inr ⟨q1.1, q2.1, ⟨by omega, by omega, by omega, ⟨by omega, by rw [q2.2.2.1]; omega, by rw [q2.2.2.1]; omega, by rw [q2.2.2.1]; omega⟩, by rw [q2.2.1, a1], by rw [q2.2.2.1, a1], fun z => ?_⟩, hS _ _ _ _ k1 (FM.rf m) hD⟩
      have z2 : kd (B f) = 2 := by omega
      have v1 := q1.2.2.2 z2
      have v2 := q2.2.2.2 z2
      have v3 := vl_r hB (f := f) (by omega) hs.2.1 z2 (fun y => hb (Or.inr ⟨z2, y⟩))
      omega
/-- the reference takes the next token -/
theorem RS.next {D : St → St → Prop} {q : Int} {B : Int → Int} {L : Int} {c m : St} (hS : Stb D) (hB : okB B L) (h : RS q D B L c m) : RA q D B L c (F_X8_next1 0 m) ∧ FM m (F_X8_next1 0 m) := by
  obtain ⟨hT, h | ⟨h0, h1, h2, h3, hD⟩⟩ := h
  · rw [nextM_x h.2.1]
    exact ⟨⟨hT, Or.inl h⟩, FM.rf m⟩
  · have hk := tokM hB hT.2.1 h1 ⟨h3.1, h3.2.1⟩
    rw [← h2] at hk
    obtain ⟨k1, k2⟩ := hk
    exact ⟨⟨hT.fr (FC.rf c) k1, Or.inr ⟨h0, by omega, k2, hS _ _ _ _ (FC.rf c) k1 hD⟩⟩, k1⟩
theorem needC_ok {d : Int32} {c : St} (h : (c.1 1 3).toInt = d.toInt) : F_X5_need 1 d c = c := by
  simp only [F_X5_need, xl_d]
  rw [if_pos h]
theorem needC_no {d : Int32} {c : St} (h : ¬ (c.1 1 3).toInt = d.toInt) : F_X5_need 1 d c = F_X5_refuse 1 2 (c.1 1 4) c := by
  simp only [F_X5_need, xl_d]
  rw [if_neg h]
theorem wiC {a b : Int32} {c : St} : F_X5_needWithin 1 a b c = if a.toInt ≤ (c.1 1 6).toInt ∧ (c.1 1 6).toInt ≤ b.toInt then c else F_X5_refuse 1 3 (c.1 1 4) c := by
  simp only [F_X5_needWithin, xl_d]
  by_cases c1 : (c.1 1 6).toInt < a.toInt
  · rw [if_pos c1, if_neg (by omega)]
  · rw [if_neg c1]
    by_cases c2 : b.toInt < (c.1 1 6).toInt
    · rw [if_pos c2, if_neg (by omega)]
    · rw [if_neg c2, if_pos (by omega)]
theorem needC_x {d : Int32} {c : St} (h : ¬ (c.1 1 8).toInt = 0) : F_X5_need 1 d c = c := by
  by_cases z : (c.1 1 3).toInt = d.toInt
  · exact needC_ok z
  · rw [needC_no z, refC_x h]
theorem wiC_x {a b : Int32} {c : St} (h : ¬ (c.1 1 8).toInt = 0) : F_X5_needWithin 1 a b c = c := by
  rw [wiC, refC_x h]
  split <;> rfl
theorem lookM {a b : Int32} {m : St} : F_X8_looked 0 a b m = if (m.1 0 17).toInt = 0 then (if (m.1 0 15).toInt = 2 then (if a.toInt ≤ (m.1 0 16).toInt ∧ (m.1 0 16).toInt ≤ b.toInt then (m.1 0 16, m) else (0, up1 (up1 m 0 17 3) 0 18 (m.1 0 14))) else (0, up1 (up1 m 0 17 2) 0 18 (m.1 0 14))) else (0, m) := by
  have c2 : (2 : Int32).toInt = 2 := rfl
  have c3 : (3 : Int32).toInt = 3 := rfl
  generalize hu : F_X8_looked 0 a b m = u
  unfold F_X8_looked at hu
  obtain ⟨J49, e49, hu⟩ := xl_e hu
  obtain ⟨J25, e25, hu⟩ := xl_e hu
  obtain ⟨J21, e21, hu⟩ := xl_e hu
  simp only [xl_d] at hu
  have E49 : ∀ x : St, J49 x = if (x.1 0 17).toInt = 0 then (x.1 0 16, x) else (0, x) := fun x => by rw [e49]; simp only [xl_d]
  have E25 : ∀ x : St, J25 x = if (x.1 0 17).toInt = 0 then J49 (F_X8_needs 0 (F_X8_in (x.1 0 16).toInt64 a.toInt64 b.toInt64 x) 3 x) else J49 x := fun x => by rw [e25]; simp only [xl_d]
  have E21 : ∀ x : Int32, J21 x = J25 (F_X8_needs 0 x 2 m) := fun x => by rw [e21]; simp only [xl_d]
  by_cases h0 : (m.1 0 17).toInt = 0
  · rw [if_pos h0] at hu ⊢
    by_cases h2 : (m.1 0 15).toInt = 2
    · rw [if_pos h2, E21, neeM_o (by decide), E25, if_pos h0] at hu
      rw [if_pos h2]
      have hin := inI (x := m.1 0 16) (b := a.toInt64) (c := b.toInt64) m (i64_of a) (i64_of b)
      by_cases c : a.toInt ≤ (m.1 0 16).toInt ∧ (m.1 0 16).toInt ≤ b.toInt
      · rw [if_pos c]
        rw [neeM_o (fun z => hin.mp z c), E49, if_pos h0] at hu
        exact hu.symm
      · rw [if_neg c]
        rw [neeM h0 (hin.mpr c), E49, if_neg (by rw [up1_n _ _ (Or.inr (by decide)), up1_s]; omega)] at hu
        exact hu.symm
    · rw [if_neg h2, E21, neeM h0 (by decide), E25, if_neg (by rw [up1_n _ _ (Or.inr (by decide)), up1_s]; omega), E49, if_neg (by rw [up1_n _ _ (Or.inr (by decide)), up1_s]; omega)] at hu
      rw [if_neg h2]
      exact hu.symm
  · rw [if_neg h0, E25, if_neg h0, E49, if_neg h0] at hu
    rw [if_neg h0]
    exact hu.symm
theorem FC.rf89 {c : St} {x y : Int32} : FC c (up1 (up1 c 1 8 x) 1 9 y) := fun a b z => by rw [up1_n _ _ (by omega), up1_n _ _ (by omega)]
theorem FM.rf78 {m : St} {x y : Int32} : FM m (up1 (up1 m 0 17 x) 0 18 y) := fun a b z => by rw [up1_n _ _ (by omega), up1_n _ _ (by omega)]
theorem Fl.new {c m : St} {x y z w : Int32} (hx : ¬ x.toInt = 0) (hz : 0 < z.toInt) (e : y.toInt = w.toInt) : Fl (up1 (up1 c 1 8 x) 1 9 y) (up1 (up1 m 0 17 z) 0 18 w) := by
  refine ⟨?_, ?_, ?_⟩
  · rw [up1_n _ _ (Or.inr (by decide)), up1_s]; exact hx
  · rw [up1_n _ _ (Or.inr (by decide)), up1_s]; exact hz
  · rw [up1_s, up1_s]; exact e
/-- a number is looked at -/
theorem RA.num {D : St → St → Prop} {q : Int} {B : Int → Int} {L : Int} {c m : St} (hS : Stb D) (hB : okB B L) (h : RA q D B L c m) (a b : Int32) : RT q D B L (F_X5_takeNumber 1 a b c).2 (F_X8_looked 0 a b m).2 ∧ FC c (F_X5_takeNumber 1 a b c).2 ∧ FM m (F_X8_looked 0 a b m).2 ∧ (((F_X5_takeNumber 1 a b c).2.1 1 8).toInt = 0 → (F_X5_takeNumber 1 a b c).1 = (F_X8_looked 0 a b m).1 ∧ a.toInt ≤ (F_X8_looked 0 a b m).1.toInt ∧ (F_X8_looked 0 a b m).1.toInt ≤ b.toInt) ∧ ((¬ (c.1 1 8).toInt = 0) → ¬ ((F_X5_takeNumber 1 a b c).2.1 1 8).toInt = 0) ∧ ((¬ ((F_X5_takeNumber 1 a b c).2.1 1 8).toInt = 0) → (F_X5_takeNumber 1 a b c).1 = a ∧ (F_X8_looked 0 a b m).1 = 0) := by
  have hx : ∀ u : St, F_X5_takeToken 1 c = u → ¬ (c.1 1 8).toInt = 0 → u = c := fun u e z => by rw [← e, takeC_x z]
  replace hx := hx _ rfl
  obtain ⟨hR, hf, -⟩ := h.take hS hB
  have c2 : (2 : Int32).toInt = 2 := rfl
  have c3 : (3 : Int32).toInt = 3 := rfl
  have c0 : (0 : Int32).toInt = 0 := rfl
  rw [lookM]
  simp only [F_X5_takeNumber, xl_d]
  generalize F_X5_takeToken 1 c = u at hx hR hf ⊢
  obtain ⟨hT, h | ⟨h0, h1, hTT, hD⟩⟩ := hR
  · rw [needC_x h.1, wiC_x h.1, if_neg h.1, if_neg (by have := h.2.1; omega)]
    exact ⟨⟨hT, Or.inl h⟩, hf, FM.rf m, fun z => absurd z h.1, fun _ => h.1, fun _ => ⟨rfl, rfl⟩⟩
  · rw [if_pos h1]
    obtain ⟨t1, t2, t3, t4, t5, t6, t7⟩ := hTT
    by_cases hk : (m.1 0 15).toInt = 2
    · rw [if_pos hk, needC_ok (by omega), wiC]
      obtain ⟨v1, v2, v3⟩ := t7 hk
      rw [v1]
      by_cases hv : a.toInt ≤ (m.1 0 16).toInt ∧ (m.1 0 16).toInt ≤ b.toInt
      · rw [if_pos hv, if_pos hv, if_pos h0]
        exact ⟨⟨hT, Or.inr ⟨h0, h1, ⟨t1, t2, t3, t4, t5, t6, t7⟩, hD⟩⟩, hf, FM.rf m, fun _ => ⟨Int32.toInt_inj.mp v1, hv⟩, fun z => by rw [hx z] at h0; exact absurd h0 z, fun z => absurd h0 z⟩
      · rw [if_neg hv, if_neg hv, refC h0, if_neg (by rw [up1_n _ _ (Or.inr (by decide)), up1_s]; omega)]
        exact ⟨⟨hT.fr FC.rf89 FM.rf78, Or.inl (Fl.new (by omega) (by omega) t2)⟩, hf.tr FC.rf89, FM.rf78, fun z => by rw [up1_n _ _ (Or.inr (by decide)), up1_s] at z; omega, fun _ => by rw [up1_n _ _ (Or.inr (by decide)), up1_s]; omega, fun _ => ⟨rfl, rfl⟩⟩
    · rw [if_neg hk, needC_no (by omega), refC h0, wiC_x (by rw [up1_n _ _ (Or.inr (by decide)), up1_s]; omega), if_neg (by rw [up1_n _ _ (Or.inr (by decide)), up1_s]; omega)]
      exact ⟨⟨hT.fr FC.rf89 FM.rf78, Or.inl (Fl.new (by omega) (by omega) t2)⟩, hf.tr FC.rf89, FM.rf78, fun z => by rw [up1_n _ _ (Or.inr (by decide)), up1_s] at z; omega, fun _ => by rw [up1_n _ _ (Or.inr (by decide)), up1_s]; omega, fun _ => ⟨rfl, rfl⟩⟩
/-- a number, and the next token of the reference -/
theorem RA.rnum {D : St → St → Prop} {q : Int} {B : Int → Int} {L : Int} {c m : St} (hS : Stb D) (hB : okB B L) (h : RA q D B L c m) (a b : Int32) : RA q D B L (F_X5_takeNumber 1 a b c).2 (F_X8_readNumber 0 a b m).2 ∧ FC c (F_X5_takeNumber 1 a b c).2 ∧ FM m (F_X8_readNumber 0 a b m).2 ∧ (((F_X5_takeNumber 1 a b c).2.1 1 8).toInt = 0 → (F_X5_takeNumber 1 a b c).1 = (F_X8_readNumber 0 a b m).1 ∧ a.toInt ≤ (F_X8_readNumber 0 a b m).1.toInt ∧ (F_X8_readNumber 0 a b m).1.toInt ≤ b.toInt) ∧ ((¬ (c.1 1 8).toInt = 0) → ¬ ((F_X5_takeNumber 1 a b c).2.1 1 8).toInt = 0) ∧ ((¬ ((F_X5_takeNumber 1 a b c).2.1 1 8).toInt = 0) → (F_X5_takeNumber 1 a b c).1 = a ∧ (F_X8_readNumber 0 a b m).1 = 0) := by
  obtain ⟨h1, h2, h3, h4⟩ := h.num hS hB a b
  obtain ⟨q1, q2⟩ := h1.s.next hS hB
  have e : F_X8_readNumber 0 a b m = ((F_X8_looked 0 a b m).1, F_X8_next1 0 (F_X8_looked 0 a b m).2) := by simp only [F_X8_readNumber, xl_d, xm_d]
  rw [e]
  exact ⟨q1, h2, h3.tr q2, h4⟩
/-- what the reference does with the token where the line must end -/
def stM (m : St) : St := if (m.1 0 17).toInt = 0 then (if (m.1 0 15).toInt = 3 then m else up1 (up1 m 0 17 2) 0 18 (m.1 0 14)) else m
theorem RA.stop {D : St → St → Prop} {q : Int} {B : Int → Int} {L : Int} {c m : St} (hS : Stb D) (hB : okB B L) (h : RA q D B L c m) : RT q D B L (F_X5_takeStop 1 c) (stM m) ∧ FC c (F_X5_takeStop 1 c) ∧ FM m (stM m) ∧ ((¬ (c.1 1 8).toInt = 0) → ¬ ((F_X5_takeStop 1 c).1 1 8).toInt = 0) := by
  have hx : ∀ u : St, F_X5_takeToken 1 c = u → ¬ (c.1 1 8).toInt = 0 → u = c := fun u e z => by rw [← e, takeC_x z]
  replace hx := hx _ rfl
  obtain ⟨hR, hf, -⟩ := h.take hS hB
  have c2 : (2 : Int32).toInt = 2 := rfl
  have c3 : (3 : Int32).toInt = 3 := rfl
  unfold stM
  simp only [F_X5_takeStop, xl_d]
  generalize F_X5_takeToken 1 c = u at hx hR hf ⊢
  obtain ⟨hT, h | ⟨h0, h1, hTT, hD⟩⟩ := hR
  · rw [needC_x h.1, if_neg (by have := h.2.1; omega)]
    exact ⟨⟨hT, Or.inl h⟩, hf, FM.rf m, fun _ => h.1⟩
  · rw [if_pos h1]
    obtain ⟨t1, t2, t3⟩ := id hTT
    by_cases hk : (m.1 0 15).toInt = 3
    · rw [if_pos hk, needC_ok (by omega)]
      exact ⟨⟨hT, Or.inr ⟨h0, h1, hTT, hD⟩⟩, hf, FM.rf m, fun z => by rw [hx z] at h0; exact absurd h0 z⟩
    · rw [if_neg hk, needC_no (by omega), refC h0]
      exact ⟨⟨hT.fr FC.rf89 FM.rf78, Or.inl (Fl.new (by omega) (by omega) t2)⟩, hf.tr FC.rf89, FM.rf78, fun _ => by rw [up1_n _ _ (Or.inr (by decide)), up1_s]; omega⟩
