/-! the world: roles k < N, each at its own address q k, of a kind kd k; what it holds is a row of ints and a row of longs -/
abbrev St : Type := (Nat → Nat → Int32) × (Nat → Nat → Int64)
def ck (cy : Nat → ClassId) (q : Nat → Nat) (K k : Nat) (r : Nat → Int32) (lr : Nat → Int64) : va_E := match K with
  | 0 => .inr (0, [.ref (q (k + 1)), .ref (q (k + 2)), .ref (q (k + 3)), .int (r 3), .int (r 4), .ref (q (k + 4)), .int (r 6), .int (r 7), .int (r 8), .int (r 9), .int (r 10), .int (r 11), .ref (q (k + 5)), .ref (q (k + 6)), .int (r 14), .ref (q (k + 7)), .ref (q (k + 8)), .int (r 17)])
  | 1 => .inr (1, [.ref (q (k + 1)), .ref (q (k + 10)), .int (r 2), .int (r 3)])
  | 2 => .inr (2, [.int (r 0), .int (r 1), .int (r 2), .int (r 3)])
  | 3 => .inr (3, [.ref (q (k + 1)), .ref (q (k + 2)), .ref (q (k + 3)), .int (r 3), .int (r 4), .int (r 5)])
  | 4 => .inr (4, [.int (r 0), .int (r 1), .ref (q (k + 1))])
  | 5 => .inr (5, [.ref (q (k + 1)), .int (r 1), .ref (q (k + 2)), .int (r 3), .int (r 4), .int (r 5), .int (r 6), .int (r 7), .int (r 8), .int (r 9)])
  | 6 => .inr (6, [.ref (q (k + 1)), .ref (q (k + 10)), .int (r 2), .int (r 3)])
  | 7 => .inr (7, [.ref (q (k + 1)), .ref (q (k + 12)), .ref (q (k + 21)), .ref (q (k + 32)), .ref (q (k + 41)), .ref (q (k + 61)), .ref (q (k + 62)), .ref (q (k + 63)), .ref (q (k + 64)), .int (r 9), .int (r 10)])
  | 8 => .inr (8, [.ref (q (k + 1)), .ref (q (k + 2)), .ref (q (k + 3)), .int (r 3), .int (r 4), .ref (q (k + 4)), .int (r 6), .int (r 7), .int (r 8), .int (r 9), .int (r 10), .ref (q (k + 5)), .int (r 12), .int (r 13), .int (r 14), .int (r 15), .int (r 16), .int (r 17), .int (r 18), .int (r 19), .int (r 20), .int (r 21), .int (r 22), .long (lr 23), .long (lr 24), .long (lr 25), .ref (q (k + 6)), .ref (q (k + 7)), .ref (q (k + 8)), .int (r 29), .ref (q (k + 9))])
  | 10 => .inl (cy 1, 5, .inl r)
  | 11 => .inl (cy 1, 3, .inl r)
  | 12 => .inl (cy 1, 8, .inl r)
  | 13 => .inl (cy 1, 6, .inl r)
  | 14 => .inl (cy 1, 6, .inl r)
  | 15 => .inl (cy 1, 9, .inl r)
  | 16 => .inl (cy 1, 4, .inl r)
  | 17 => .inl (cy 0, 160, .inl r)
  | 18 => .inl (cy 1, 40, .inl r)
  | 19 => .inl (cy 2, 2, .inl r)
  | 30 => .inl (cy 1, 162, .inl r)
  | 31 => .inl (cy 1, 54, .inl r)
  | 32 => .inl (cy 2, 2, .inl r)
  | 33 => .inl (cy 1, 54, .inl r)
  | 34 => .inl (cy 1, 160, .inl r)
  | 35 => .inl (cy 1, 4, .inl r)
  | 36 => .inl (cy 1, 4, .inl r)
  | 37 => .inl (cy 1, 160, .inl r)
  | 38 => .inl (cy 1, 54, .inl r)
  | 20 => .inl (cy 3, 2, .inr (.inr (.inr (.inr (va_up (va_up (fun _ => none) 0 (some (q (k + 3)))) 1 (some (q (k + 12))))))))
  | 21 => .inl (cy 4, 5, .inr (.inr (.inr (.inr (va_up (va_up (va_up (va_up (va_up (fun _ => none) 0 (some (q (k + 3)))) 1 (some (q (k + 4)))) 2 (some (q (k + 5)))) 3 (some (q (k + 6)))) 4 (some (q (k + 7))))))))
  | 22 => .inl (cy 4, 9, .inr (.inr (.inr (.inr (va_up (va_up (va_up (va_up (va_up (va_up (va_up (va_up (va_up (fun _ => none) 0 (some (q (k + 1)))) 1 (some (q (k + 2)))) 2 (some (q (k + 3)))) 3 (some (q (k + 4)))) 4 (some (q (k + 5)))) 5 (some (q (k + 6)))) 6 (some (q (k + 7)))) 7 (some (q (k + 8)))) 8 (some (q (k + 9))))))))
  | 23 => .inl (cy 5, 4, .inr (.inr (.inr (.inr (va_up (va_up (va_up (va_up (fun _ => none) 0 (some (q (k + 19)))) 1 (some (q (k + 21)))) 2 (some (q (k + 23)))) 3 (some (q (k + 25))))))))
  | _ => .inl (cy 1, 0, .inl r)
abbrev Wp : Type := va_G × (Nat → ClassId) × Nat × (Nat → Nat) × (Nat → Nat) × (Nat → Nat) × (Nat → Nat)
def wD (w : Wp) : va_G := w.1
def wc (w : Wp) : Nat → ClassId := w.2.1
def wN (w : Wp) : Nat := w.2.2.1
def wq (w : Wp) : Nat → Nat := w.2.2.2.1
def wk (w : Wp) : Nat → Nat := w.2.2.2.2.1
def wa (w : Wp) : Nat → Nat := w.2.2.2.2.2.1
def wv (w : Wp) : Nat → Nat := w.2.2.2.2.2.2
def ce (w : Wp) (v : St) (k : Nat) : va_E := ck (wc w) (wq w) (wk w k) k (v.1 k) (v.2 k)
def wd (w : Wp) (v : St) : va_W := (List.range (wN w)).map (fun k => (wq w k, ce w v k))
def tys (cy : Nat → ClassId) : List (ClassId × FieldType) := [(cy 0, .byte), (cy 1, .int), (cy 2, .boolean), (cy 3, .object "StarWalk$Night"), (cy 4, .object "StarWalk$Place"), (cy 5, .object "StarWalk$Sheet")]
def Aw (w : Wp) : Nat → Prop := fun x => ∃ k, k < wN w ∧ wq w k = x
def Inj (w : Wp) : Prop := ∀ i j, i < wN w → j < wN w → wq w i = wq w j → i = j
def up1 (v : St) (k j : Nat) (x : Int32) : St := (va_up v.1 k (upd (v.1 k) j x), v.2)
def upL (v : St) (k j : Nat) (x : Int64) : St := (v.1, va_up v.2 k (vp_updL (v.2 k) j x))
/-- a whole row of ints anew -/
def upR (v : St) (k : Nat) (r : Nat → Int32) : St := (va_up v.1 k r, v.2)
/-- what each slot may hold, by kind -/
def okk (K j : Nat) (x : Int) : Prop := match K with
  | 0 => (j = 3 → 0 ≤ x ∧ x ≤ 5) ∧ (j = 6 → 0 ≤ x ∧ x ≤ 3) ∧ (j = 14 → 0 ≤ x ∧ x ≤ 8) ∧ (j = 17 → 0 ≤ x ∧ x ≤ 6)
  | 4 => (j = 1 → 0 ≤ x ∧ x ≤ 40)
  | 5 => (j = 1 → 0 ≤ x ∧ x ≤ 160)
  | 8 => (j = 3 → 0 ≤ x ∧ x ≤ 5) ∧ (j = 4 → 0 ≤ x ∧ x ≤ 3) ∧ (j = 6 → 0 ≤ x ∧ x ≤ 5) ∧ (j = 7 → 0 ≤ x ∧ x ≤ 3) ∧ (j = 12 → 0 ≤ x ∧ x ≤ 160) ∧ (j = 13 → 0 ≤ x ∧ x ≤ 160) ∧ (j = 14 → 0 ≤ x ∧ x ≤ 160) ∧ (j = 17 → 0 ≤ x ∧ x ≤ 6)
  | 13 => 0 ≤ x ∧ x ≤ 8
  | 30 => (j % 54 = 23 → 0 ≤ x ∧ x ≤ 2) ∧ (j % 54 = 29 → 0 ≤ x ∧ x ≤ 10) ∧ (j % 54 = 32 → 0 ≤ x ∧ x ≤ 8) ∧ (33 ≤ j % 54 → j % 54 ≤ 40 → 0 ≤ x ∧ x ≤ 6) ∧ (j % 54 = 41 → 0 ≤ x ∧ x ≤ 6)
  | 31 => (j = 23 → 0 ≤ x ∧ x ≤ 2) ∧ (j = 29 → 0 ≤ x ∧ x ≤ 10) ∧ (j = 32 → 0 ≤ x ∧ x ≤ 8) ∧ (33 ≤ j → j ≤ 40 → 0 ≤ x ∧ x ≤ 6) ∧ (j = 41 → 0 ≤ x ∧ x ≤ 6)
  | 33 => (j = 23 → 0 ≤ x ∧ x ≤ 2) ∧ (j = 29 → 0 ≤ x ∧ x ≤ 10) ∧ (j = 32 → 0 ≤ x ∧ x ≤ 8) ∧ (33 ≤ j → j ≤ 40 → 0 ≤ x ∧ x ≤ 6) ∧ (j = 41 → 0 ≤ x ∧ x ≤ 6)
  | 38 => (j = 23 → 0 ≤ x ∧ x ≤ 2) ∧ (j = 29 → 0 ≤ x ∧ x ≤ 10) ∧ (j = 32 → 0 ≤ x ∧ x ≤ 8) ∧ (33 ≤ j → j ≤ 40 → 0 ≤ x ∧ x ≤ 6) ∧ (j = 41 → 0 ≤ x ∧ x ≤ 6)
  | 36 => 0 ≤ x ∧ x ≤ 40
  | _ => True
/-- the slots whose very value is told -/
def gh (K j : Nat) : Bool := match K with
  | _ => false
def WF (kd : Nat → Nat) (g : Nat → Nat → Int32) (v : St) : Prop := ∀ k j, okk (kd k) j (v.1 k j).toInt ∧ (gh (kd k) j = true → v.1 k j = g k j)
def gup (g : Nat → Nat → Int32) (k j : Nat) (x : Int32) : Nat → Nat → Int32 := va_up g k (upd (g k) j x)
theorem up1_s (v : St) (k j : Nat) (x : Int32) : (up1 v k j x).1 k j = x := by simp [up1, va_up, upd]
theorem up1_n (v : St) {k j k2 j2 : Nat} (x : Int32) (h : k2 ≠ k ∨ j2 ≠ j) : (up1 v k j x).1 k2 j2 = v.1 k2 j2 := by
  unfold up1 va_up upd
  by_cases h1 : k2 = k
  · subst h1
    have h2 : j2 ≠ j := h.resolve_left (fun z => z rfl)
    simp [h2]
  · simp [h1]
theorem WF.put {kd : Nat → Nat} {g : Nat → Nat → Int32} {v : St} (h : WF kd g v) {k j : Nat} {x : Int32} {K : Nat} (hk : kd k = K) (hx : okk K j x.toInt) (hg : gh K j = false) : WF kd g (up1 v k j x) := by
  intro k2 j2
  by_cases e : k2 = k ∧ j2 = j
  · obtain ⟨rfl, rfl⟩ := e
    rw [up1_s, hk]
    exact ⟨hx, fun z => by rw [hg] at z; cases z⟩
  · rw [up1_n _ _ (by omega)]
    exact h k2 j2
theorem WF.putG {kd : Nat → Nat} {g : Nat → Nat → Int32} {v : St} (h : WF kd g v) {k j : Nat} {x : Int32} {K : Nat} (hk : kd k = K) (hx : okk K j x.toInt) : WF kd (gup g k j x) (up1 v k j x) := by
  intro k2 j2
  by_cases e : k2 = k ∧ j2 = j
  · obtain ⟨rfl, rfl⟩ := e
    rw [up1_s, hk]
    exact ⟨hx, fun _ => by simp [gup, va_up, upd]⟩
  · have hne : k2 ≠ k ∨ j2 ≠ j := by omega
    rw [up1_n _ _ hne]
    refine ⟨(h k2 j2).1, fun z => ?_⟩
    rw [(h k2 j2).2 z]
    unfold gup va_up upd
    by_cases h1 : k2 = k
    · subst h1
      have h2 : j2 ≠ j := hne.resolve_left (fun z => z rfl)
      simp [h2]
    · simp [h1]
theorem WF.putL {kd : Nat → Nat} {g : Nat → Nat → Int32} {v : St} (h : WF kd g v) (k j : Nat) (x : Int64) : WF kd g (upL v k j x) := h
theorem WF.row {kd : Nat → Nat} {g : Nat → Nat → Int32} {v : St} (h : WF kd g v) {k : Nat} {r : Nat → Int32} {K : Nat} (hk : kd k = K) (hx : ∀ j, okk K j (r j).toInt) (hg : ∀ j, gh K j = false) : WF kd g (upR v k r) := by
  intro k2 j2
  unfold upR va_up
  dsimp only
  by_cases h1 : k2 = k
  · subst h1
    rw [if_pos rfl, hk]
    exact ⟨hx j2, fun z => by rw [hg] at z; cases z⟩
  · rw [if_neg h1]
    exact h k2 j2
theorem wd_len {w : Wp} {v : St} : (wd w v).length = wN w := by simp [wd]
theorem wd_get {w : Wp} {v : St} {k : Nat} (h : k < wN w) : (wd w v)[k]? = some (wq w k, ce w v k) := by
  unfold wd
  rw [List.getElem?_map, List.getElem?_range h]
  rfl
theorem wd_inv {w : Wp} {v : St} {k : Nat} {x : Nat × va_E} (h : (wd w v)[k]? = some x) : k < wN w ∧ x = (wq w k, ce w v k) := by
  have hk : k < wN w := by
    have h1 := (List.getElem?_eq_some_iff.mp h).1
    rw [wd_len] at h1
    exact h1
  rw [wd_get hk] at h
  exact ⟨hk, (Option.some.inj h).symm⟩
theorem wd_D {w : Wp} {v : St} (h : Inj w) : va_D (Aw w) (wd w v) := by
  refine ⟨fun i j x y hx hy hxy => ?_, fun k x hx => ?_⟩
  · obtain ⟨h1, rfl⟩ := wd_inv hx
    obtain ⟨h2, rfl⟩ := wd_inv hy
    exact h i j h1 h2 hxy
  · obtain ⟨h1, rfl⟩ := wd_inv hx
    exact ⟨k, h1, rfl⟩
theorem wd_set {w : Wp} {v v' : St} {k : Nat} {e : va_E} (h : k < wN w) (he : ce w v' k = e) (h1 : ∀ i, i ≠ k → v'.1 i = v.1 i) (h2 : ∀ i, i ≠ k → v'.2 i = v.2 i) : (wd w v).set k (wq w k, e) = wd w v' := by
  apply List.ext_getElem?
  intro i
  by_cases hi : i = k
  · subst hi
    rw [wd_get h, List.getElem?_set_self (by rw [wd_len]; exact h), he]
  · rw [List.getElem?_set_ne (fun z => hi z.symm)]
    by_cases hN : i < wN w
    · rw [wd_get hN, wd_get hN]
      unfold ce
      rw [h1 i hi, h2 i hi]
    · rw [List.getElem?_eq_none (by rw [wd_len]; omega), List.getElem?_eq_none (by rw [wd_len]; omega)]
theorem up1_o (v : St) (k j : Nat) (x : Int32) : ∀ i, i ≠ k → (up1 v k j x).1 i = v.1 i := fun i h => by simp [up1, va_up, h]
theorem up1_k (v : St) (k j : Nat) (x : Int32) : (up1 v k j x).1 k = upd (v.1 k) j x := by simp [up1, va_up]
theorem upR_o (v : St) (k : Nat) (r : Nat → Int32) : ∀ i, i ≠ k → (upR v k r).1 i = v.1 i := fun i h => by simp [upR, va_up, h]
theorem upR_k (v : St) (k : Nat) (r : Nat → Int32) : (upR v k r).1 k = r := by simp [upR, va_up]
theorem upL_o (v : St) (k j : Nat) (x : Int64) : ∀ i, i ≠ k → (upL v k j x).2 i = v.2 i := fun i h => by simp [upL, va_up, h]
theorem upL_k (v : St) (k j : Nat) (x : Int64) : (upL v k j x).2 k = vp_updL (v.2 k) j x := by simp [upL, va_up]
theorem upL_s (v : St) (k j : Nat) (x : Int64) : (upL v k j x).2 k j = x := by simp [upL, va_up, vp_updL]
theorem ce_o {w : Wp} {v : St} {k K : Nat} (h : wk w k = K) : ce w v k = ck (wc w) (wq w) K k (v.1 k) (v.2 k) := by unfold ce; rw [h]
/-- the table's words that keep -/
def lw_g : List Cond := lw_tbl.filter goodWord
theorem lg_in {x : Cond} (h : x ∈ lw_tbl) (hg : goodWord x = true) : x ∈ lw_g := List.mem_filter.mpr ⟨h, hg⟩
theorem lg_good {x : Cond} (h : x ∈ lw_g) : (x.onTables && x.keeps) = true ∨ ∃ ty, x = .arrayClass ty := good_of_word (List.mem_filter.mp h).2

def Xn (U : State) : Prop := va_Nw (Cond.methodLinkNest "StarWalk" 9 yX5_init "StarWalk") U ∧ va_Nw (Cond.methodLinkNest "StarWalk$Night" 26 yX2_init "StarWalk") U ∧ va_Nw (Cond.methodLinkNest "StarWalk" 25 yX6_init "StarWalk") U ∧ va_Nw (Cond.methodLinkNest "StarWalk$Search" 24 yX2_init "StarWalk") U ∧ va_Nw (Cond.methodLinkNest "StarWalk$Odds" 24 yX2_init "StarWalk") U ∧ va_Nw (Cond.methodLinkNest "StarWalk" 46 yX2_init "StarWalk") U ∧ va_Nw (Cond.methodLinkNest "StarWalk" 65 yX4_init "StarWalk") U ∧ va_Nw (Cond.methodLinkNest "StarWalk$Tape" 142 yX7_withBit "StarWalk") U ∧ va_Nw (Cond.methodLinkNest "StarWalk$Odds" 59 yX7_oneIf "StarWalk") U ∧ va_Nw (Cond.methodLinkNest "StarWalk$Odds" 75 yX7_withBit "StarWalk") U
theorem Xn.warm {s U : State} (hW : s.WarmedH U.vm) (h : Xn s) : Xn U := by
  obtain ⟨h0, h1, h2, h3, h4, h5, h6, h7, h8, h9⟩ := h
  exact ⟨va_Nw.warmM hW h0, va_Nw.warmM hW h1, va_Nw.warmM hW h2, va_Nw.warmM hW h3, va_Nw.warmM hW h4, va_Nw.warmM hW h5, va_Nw.warmM hW h6, va_Nw.warmM hW h7, va_Nw.warmM hW h8, va_Nw.warmM hW h9⟩
theorem Xn.same {u U : State} (hv : u.vm = U.vm) (h : Xn u) : Xn U := by
  obtain ⟨h0, h1, h2, h3, h4, h5, h6, h7, h8, h9⟩ := h
  exact ⟨va_Nw.same rfl hv h0, va_Nw.same rfl hv h1, va_Nw.same rfl hv h2, va_Nw.same rfl hv h3, va_Nw.same rfl hv h4, va_Nw.same rfl hv h5, va_Nw.same rfl hv h6, va_Nw.same rfl hv h7, va_Nw.same rfl hv h8, va_Nw.same rfl hv h9⟩
def Xr (w : Wp) (U : State) : Prop := vk_R "StarWalk$Tape" 75 "star" (wa w 0) U ∧ vk_R "StarWalk$Tape" 84 "known" (wa w 1) U ∧ vk_R "StarWalk$Tape" 88 "plain" (wa w 2) U ∧ vk_R "StarWalk$Tape" 94 "lame" (wa w 3) U ∧ vk_R "StarWalk$Tape" 96 "tired" (wa w 4) U ∧ vk_R "StarWalk$Tape" 98 "guide" (wa w 5) U ∧ vk_R "StarWalk$Tape" 100 "well" (wa w 6) U ∧ vk_R "StarWalk$Tape" 105 "wind" (wa w 7) U ∧ vk_R "StarWalk$Tape" 110 "water" (wa w 8) U ∧ vk_R "StarWalk$Tape" 115 "cloud" (wa w 9) U ∧ vk_R "StarWalk$Tape" 120 "plan" (wa w 10) U
theorem Xr.warm {w : Wp} {s U : State} (hW : s.WarmedH U.vm) (h : Xr w s) : Xr w U := by
  obtain ⟨h0, h1, h2, h3, h4, h5, h6, h7, h8, h9, h10⟩ := h
  exact ⟨vk_R.warm hW h0, vk_R.warm hW h1, vk_R.warm hW h2, vk_R.warm hW h3, vk_R.warm hW h4, vk_R.warm hW h5, vk_R.warm hW h6, vk_R.warm hW h7, vk_R.warm hW h8, vk_R.warm hW h9, vk_R.warm hW h10⟩
theorem Xr.same {w : Wp} {u U : State} (hv : U.vm = u.vm) (h : Xr w u) : Xr w U := by
  obtain ⟨h0, h1, h2, h3, h4, h5, h6, h7, h8, h9, h10⟩ := h
  exact ⟨vk_R.same hv h0, vk_R.same hv h1, vk_R.same hv h2, vk_R.same hv h3, vk_R.same hv h4, vk_R.same hv h5, vk_R.same hv h6, vk_R.same hv h7, vk_R.same hv h8, vk_R.same hv h9, vk_R.same hv h10⟩
def sln : List Nat := [4, 5, 5, 4, 5, 5, 4, 4, 5, 5, 4]
def sbt : List (List Int32) := [[115, 116, 97, 114], [107, 110, 111, 119, 110], [112, 108, 97, 105, 110], [108, 97, 109, 101], [116, 105, 114, 101, 100], [103, 117, 105, 100, 101], [119, 101, 108, 108], [119, 105, 110, 100], [119, 97, 116, 101, 114], [99, 108, 111, 117, 100], [112, 108, 97, 110]]
def Xw (w : Wp) (U : State) (H : Heap) : Prop := Xn U ∧ Xr w U ∧ vk_S 11 sln sbt (wa w) (wv w) (Aw w) U H ∧ va_Z "java/lang/String" "COMPACT_STRINGS" "Z" (.int 1) (Aw w) U H ∧ va_Zq "jdk/internal/util/Preconditions" "SIOOBE_FORMATTER" "Ljava/util/function/BiFunction;" (Aw w) U H
theorem Xw.warm {w : Wp} {s U : State} {H : Heap} (hW : s.WarmedH U.vm) (h : Xw w s H) : Xw w U H := ⟨h.1.warm hW, h.2.1.warm hW, vk_S.moved hW.alike h.2.2.1, va_Z.moved hW.alike h.2.2.2.1, va_Zq.moved hW.alike h.2.2.2.2⟩
theorem Xw.kept {w : Wp} {U : State} {H H1 : Heap} (h : Xw w U H) (hq : ∀ a : Nat, a < H.size → ¬ Aw w a → H1[a]? = H[a]?) : Xw w U H1 := ⟨h.1, h.2.1, h.2.2.1.kept hq, h.2.2.2.1.kept hq, h.2.2.2.2.kept hq⟩
theorem Xw.same {w : Wp} {u U : State} {H : Heap} (hv : U.vm = u.vm) (ha : u.vm.Alike U.vm) (h : Xw w u H) : Xw w U H := ⟨h.1.same hv.symm, h.2.1.same hv, vk_S.moved ha h.2.2.1, va_Z.moved ha h.2.2.2.1, va_Zq.moved ha h.2.2.2.2⟩
def En (w : Wp) (p : Program) (m : MethodId) (c : Code) (cc : ByteArray) (nL : Nat) (s : State) (args : Array Value) (own : String) : Prop := CallFix p m c cc nL s args lw_g own ∧ va_K (wD w) vwCl (tys (wc w)) s ∧ Inj w ∧ Xw w s s.heap
def Wo (w : Wp) (g : Nat → Nat → Int32) (H0 : Heap) (v : St) (H : Heap) (locs : List Loc) : Prop := va_P (wD w) vwCl (wd w v) H ∧ va_S (Aw w) H0 H locs ∧ WF (wk w) g v
def Bw (w : Wp) (u : St) (t : State) : Prop := va_P (wD w) vwCl (wd w u) t.heap
def Bp (w : Wp) (v : St) (U : State) : Prop := va_P (wD w) vwCl (wd w v) U.heap ∧ va_K (wD w) vwCl (tys (wc w)) U ∧ Xw w U U.heap
def Pw (w : Wp) (av : List Value) (v : St) : Array Value → State → Prop := va_Pc av (Bp w v)
theorem Pw.blind {w : Wp} {av : List Value} {v : St} : FrameBlind (Pw w av v) := fun a U g mk z => by
  obtain ⟨q0, q1, q2, q3⟩ := z
  exact ⟨q0, q1, va_K.moved (u := U) (U := U.calling g mk a) (Vm.Alike.refl U.vm) q2, Xw.same (u := U) (U := U.calling g mk a) rfl (Vm.Alike.refl U.vm) q3⟩
def wsy (y : MethodName) (cc : ByteArray) (n : Nat) (ret : Option FieldType) : List Cond := Cond.code y cc n ret :: lw_g
/-- contracts: an int, a long, nothing comes back; the post tells the new state too -/
def CTi (w : Wp) (l : Launch) (y : MethodName) (ws : List Cond) (rm : Room) (av : List Value) (v : St) (post : Int32 → St → Prop) : Prop := Met l y ws rm (Pw w av v) (va_Qi post (Bw w) (Aw w)) 0 0 (Aw w)
def CTl (w : Wp) (l : Launch) (y : MethodName) (ws : List Cond) (rm : Room) (av : List Value) (v : St) (post : Int64 → St → Prop) : Prop := Met l y ws rm (Pw w av v) (va_Ql post (Bw w) (Aw w)) 0 0 (Aw w)
def CTv (w : Wp) (l : Launch) (y : MethodName) (ws : List Cond) (rm : Room) (av : List Value) (v : St) (post : St → Prop) : Prop := Met l y ws rm (Pw w av v) (va_Qv post (Bw w) (Aw w)) 0 0 (Aw w)
section WR
variable {p : Program} {l : Launch} {e : Env} {R : Room} {s : State} {m : MethodId} {args : Array Value} {below : List Frame} {meth : Method} {c : Code} {H : Heap} {locs : List Loc} {cells slots : Nat} {Q : State → Prop}
variable {cc : ByteArray} {pc : Nat} {ls : Array Slot} {rest : List Value} {w : Wp} {g : Nat → Nat → Int32} {v : St} {H0 : Heap} {nL : Nat} {own : String}
theorem Ew (E : En w p m c cc nL s args own) {x : Cond} (h : x ∈ lw_tbl) (hg : goodWord x = true) : x.before args s = true := E.1.2.2.2.2 x (lg_in h hg)
theorem gF (E : En w p m c cc nL s args own) (I : Wo w g H0 v H locs) {ref C : String} {T : u_T} {N' ci index : Nat} (hin : ∀ x ∈ u_ws C T N', x ∈ lw_g) {k : Nat} (hk : k < wN w) {fs : List Value} (he : ce w v k = .inr (ci, fs)) (hc : vwCl[ci]? = some (C, T, N')) (j : Nat) (hj : j < N') (hlink : (Cond.fieldLink own index ref (T j).2.1 (T j).2.2.1).before args s = true) (href : (T j).1 = ref) {x : Value} (hv : fs[j]? = some x) (hdg : decode cc pc = .ok (.getfield index, 3))
    (kk : W p l e R s m args below meth c H locs cells slots Q (F0 m (pc + 3) ls (x :: rest))) : W p l e R s m args below meth c H locs cells slots Q (F0 m pc ls (.ref (wq w k) :: rest)) := by
  obtain ⟨⟨hx, hb, hml, hown, hts⟩, hK, hq, -⟩ := E
  exact va_get (D := wD w) (ci := ci) (v := x) (C := C) (T := T) (N := N') hx hb hts hin hown hK I.1 k (by rw [wd_get hk, he]) hc j hj hlink (fun z h9 => by rw [← href]; exact h9) hv hdg kk
theorem pF (E : En w p m c cc nL s args own) (I : Wo w g H0 v H locs) {ref C : String} {T : u_T} {N' ci index : Nat} (hin : ∀ x ∈ u_ws C T N', x ∈ lw_g) (ty0 : Nat → FieldType) (hty : ∀ k, k < N' → parseFieldDescriptor (T k).2.2.1 = some (ty0 k)) (hnm : ∀ a, a < N' → ∀ b, b < N' → a ≠ b → (T a).2.1 ≠ (T b).2.1) {k : Nat} (hk : k < wN w) {fs : List Value} (he : ce w v k = .inr (ci, fs)) (hc : vwCl[ci]? = some (C, T, N')) (j : Nat) (hj : j < N') (hlink : (Cond.fieldLink own index ref (T j).2.1 (T j).2.2.1).before args s = true) (href : (T j).1 = ref) (hfin : (T j).2.2.2 = false) {ty : FieldType} {x : Value} (hd : parseFieldDescriptor (T j).2.2.1 = some ty) (hn : narrow ty x = x) (hfit : fits ty x = true) (hl : j < fs.length) {v' : St} (hs : ce w v' k = .inr (ci, fs.set j x)) (h1 : ∀ i, i ≠ k → v'.1 i = v.1 i) (h2 : ∀ i, i ≠ k → v'.2 i = v.2 i) {g' : Nat → Nat → Int32} (hw : WF (wk w) g' v') (hdg : decode cc pc = .ok (.putfield index, 3))
    (kk : ∀ (H1 : Heap) (locs1 : List Loc), Wo w g' H0 v' H1 locs1 → W p l e R s m args below meth c H1 locs1 cells slots Q (F0 m (pc + 3) ls rest)) : W p l e R s m args below meth c H locs cells slots Q (F0 m pc ls (x :: .ref (wq w k) :: rest)) := by
  obtain ⟨⟨hx, hb, hml, hown, hts⟩, hK, hq, -⟩ := E
  refine va_put (D := wD w) (ci := ci) (v := x) (ty := ty) (C := C) (T := T) (N := N') hx hb hts hin ty0 hty hnm hown hK I.1 (wd_D hq) I.2.1 k (by rw [wd_get hk, he]) hc j hj hlink (fun z h9 => by rw [← href]; exact h9) hfin hd hn hfit hl hdg (fun H1 locs1 hP _ hS => ?_)
  rw [wd_set hk hs h1 h2] at hP
  exact kk H1 locs1 ⟨hP, hS, hw⟩

theorem gA (E : En w p m c cc nL s args own) (I : Wo w g H0 v H locs) {k n : Nat} (hk : k < wN w) (he : ce w v k = .inl (wc w 1, n, .inl (v.1 k))) {i : Int32} (hi : vp_in i n) (hdg : decode cc pc = .ok (.iaload, 1))
    (kk : W p l e R s m args below meth c H locs cells slots Q (F0 m (pc + 1) ls (.int (v.1 k i.toNatClampNeg) :: rest))) : W p l e R s m args below meth c H locs cells slots Q (F0 m pc ls (.int i :: .ref (wq w k) :: rest)) := by
  obtain ⟨⟨hx, hb, hml, hown, hts⟩, hK, hq, -⟩ := E
  exact va_iald hx hb hK I.1 k 1 (by rw [wd_get hk, he]) rfl hi hdg kk
theorem gAb (E : En w p m c cc nL s args own) (I : Wo w g H0 v H locs) {k n : Nat} (hk : k < wN w) (he : ce w v k = .inl (wc w 0, n, .inl (v.1 k))) {i : Int32} (hi : vp_in i n) (hdg : decode cc pc = .ok (.baload, 1))
    (kk : W p l e R s m args below meth c H locs cells slots Q (F0 m (pc + 1) ls (.int (v.1 k i.toNatClampNeg) :: rest))) : W p l e R s m args below meth c H locs cells slots Q (F0 m pc ls (.int i :: .ref (wq w k) :: rest)) := by
  obtain ⟨⟨hx, hb, hml, hown, hts⟩, hK, hq, -⟩ := E
  exact va_bald hx hb hK I.1 k 0 (by rw [wd_get hk, he]) rfl hi hdg kk
theorem gAz (E : En w p m c cc nL s args own) (I : Wo w g H0 v H locs) {k n : Nat} (hk : k < wN w) (he : ce w v k = .inl (wc w 2, n, .inl (v.1 k))) {i : Int32} (hi : vp_in i n) (hdg : decode cc pc = .ok (.baload, 1))
    (kk : W p l e R s m args below meth c H locs cells slots Q (F0 m (pc + 1) ls (.int (v.1 k i.toNatClampNeg) :: rest))) : W p l e R s m args below meth c H locs cells slots Q (F0 m pc ls (.int i :: .ref (wq w k) :: rest)) := by
  obtain ⟨⟨hx, hb, hml, hown, hts⟩, hK, hq, -⟩ := E
  exact va_zald hx hb hK I.1 k 2 (by rw [wd_get hk, he]) rfl hi hdg kk
theorem gAr (E : En w p m c cc nL s args own) (I : Wo w g H0 v H locs) {k n : Nat} (hk : k < wN w) {f : Nat → Option Nat} (t0 : Nat) {C : String} (ht : (tys (wc w))[t0]? = some (wc w t0, .object C)) (he : ce w v k = .inl (wc w t0, n, .inr (.inr (.inr (.inr f))))) {i : Int32} (hi : vp_in i n) {z : Nat} (hz : f i.toNatClampNeg = some (wq w z)) (hdg : decode cc pc = .ok (.aaload, 1))
    (kk : W p l e R s m args below meth c H locs cells slots Q (F0 m (pc + 1) ls (.ref (wq w z) :: rest))) : W p l e R s m args below meth c H locs cells slots Q (F0 m pc ls (.int i :: .ref (wq w k) :: rest)) := by
  obtain ⟨⟨hx, hb, hml, hown, hts⟩, hK, hq, -⟩ := E
  refine va_aldq hx hb hK I.1 k t0 (by rw [wd_get hk, he]) ht hi hdg ?_
  rw [hz]
  exact kk
theorem pA (E : En w p m c cc nL s args own) (I : Wo w g H0 v H locs) {k n : Nat} (hk : k < wN w) (he : ∀ r, ck (wc w) (wq w) (wk w k) k r (v.2 k) = .inl (wc w 1, n, .inl r)) {i x : Int32} (hi : vp_in i n) {g' : Nat → Nat → Int32} (hw : WF (wk w) g' (up1 v k i.toNatClampNeg x)) (hdg : decode cc pc = .ok (.iastore, 1))
    (kk : ∀ (H1 : Heap) (locs1 : List Loc), Wo w g' H0 (up1 v k i.toNatClampNeg x) H1 locs1 → W p l e R s m args below meth c H1 locs1 cells slots Q (F0 m (pc + 1) ls rest)) : W p l e R s m args below meth c H locs cells slots Q (F0 m pc ls (.int x :: .int i :: .ref (wq w k) :: rest)) := by
  obtain ⟨⟨hx, hb, hml, hown, hts⟩, hK, hq, -⟩ := E
  refine va_iast hx hb hK I.1 (wd_D hq) I.2.1 k 1 (by rw [wd_get hk]; unfold ce; rw [he]) rfl hi hdg (fun H1 locs1 hP _ hS => ?_)
  rw [wd_set (v' := up1 v k i.toNatClampNeg x) hk (by unfold ce; rw [up1_k]; exact he _) (up1_o _ _ _ _) (fun _ _ => rfl)] at hP
  exact kk H1 locs1 ⟨hP, hS, hw⟩
theorem pAb (E : En w p m c cc nL s args own) (I : Wo w g H0 v H locs) {k n : Nat} (hk : k < wN w) (he : ∀ r, ck (wc w) (wq w) (wk w k) k r (v.2 k) = .inl (wc w 0, n, .inl r)) {i x : Int32} (hi : vp_in i n) {g' : Nat → Nat → Int32} (hw : WF (wk w) g' (up1 v k i.toNatClampNeg (vp_nar .byte x))) (hdg : decode cc pc = .ok (.bastore, 1))
    (kk : ∀ (H1 : Heap) (locs1 : List Loc), Wo w g' H0 (up1 v k i.toNatClampNeg (vp_nar .byte x)) H1 locs1 → W p l e R s m args below meth c H1 locs1 cells slots Q (F0 m (pc + 1) ls rest)) : W p l e R s m args below meth c H locs cells slots Q (F0 m pc ls (.int x :: .int i :: .ref (wq w k) :: rest)) := by
  obtain ⟨⟨hx, hb, hml, hown, hts⟩, hK, hq, -⟩ := E
  refine va_bast hx hb hK I.1 (wd_D hq) I.2.1 k 0 (by rw [wd_get hk]; unfold ce; rw [he]) rfl hi hdg (fun H1 locs1 hP _ hS => ?_)
  rw [wd_set (v' := up1 v k i.toNatClampNeg (vp_nar .byte x)) hk (by unfold ce; rw [up1_k]; exact he _) (up1_o _ _ _ _) (fun _ _ => rfl)] at hP
  exact kk H1 locs1 ⟨hP, hS, hw⟩
theorem pAz (E : En w p m c cc nL s args own) (I : Wo w g H0 v H locs) {k n : Nat} (hk : k < wN w) (he : ∀ r, ck (wc w) (wq w) (wk w k) k r (v.2 k) = .inl (wc w 2, n, .inl r)) {i x : Int32} (hi : vp_in i n) {g' : Nat → Nat → Int32} (hw : WF (wk w) g' (up1 v k i.toNatClampNeg (vp_nar .boolean x))) (hdg : decode cc pc = .ok (.bastore, 1))
    (kk : ∀ (H1 : Heap) (locs1 : List Loc), Wo w g' H0 (up1 v k i.toNatClampNeg (vp_nar .boolean x)) H1 locs1 → W p l e R s m args below meth c H1 locs1 cells slots Q (F0 m (pc + 1) ls rest)) : W p l e R s m args below meth c H locs cells slots Q (F0 m pc ls (.int x :: .int i :: .ref (wq w k) :: rest)) := by
  obtain ⟨⟨hx, hb, hml, hown, hts⟩, hK, hq, -⟩ := E
  refine va_zast hx hb hK I.1 (wd_D hq) I.2.1 k 2 (by rw [wd_get hk]; unfold ce; rw [he]) rfl hi hdg (fun H1 locs1 hP _ hS => ?_)
  rw [wd_set (v' := up1 v k i.toNatClampNeg (vp_nar .boolean x)) hk (by unfold ce; rw [up1_k]; exact he _) (up1_o _ _ _ _) (fun _ _ => rfl)] at hP
  exact kk H1 locs1 ⟨hP, hS, hw⟩
theorem cVi (E : En w p m c cc nL s args own) (I : Wo w g s.heap v H locs) {y : MethodName} {bytes : ByteArray} {maxL n index : Nat} {ret : Option FieldType} {ws : List Cond} {rm : Room} {As : List Value} {post : Int32 → St → Prop} {C : String} {k : Nat} (hM : CTi w l y ws rm (.ref (wq w k) :: As) v post) (cw : CallW R s args own C index y bytes maxL ret ws rm 0 0 n) (hk : k < wN w) {ci : Nat} {fs : List Value} (he : ce w v k = .inr (ci, fs)) {T : u_T} {N' : Nat} (hc : vwCl[ci]? = some (C, T, N')) {st0 : List Value} (hn : As.length = n) (hsize : ls.size = nL) (hstack : st0 = As.reverse ++ .ref (wq w k) :: rest) (hW : (rest.map fun v => v.category).sum ≤ 8) (hdg : decode cc pc = .ok (.invokevirtual index, 3)) (hf : cells ≤ R.cells ∧ slots ≤ R.slots)
    (kk : ∀ (r : Int32) (u : St) (H1 : Heap) (locs1 : List Loc), post r u → (va_P (wD w) vwCl (wd w u) H1 ∧ va_S (Aw w) s.heap H1 locs1) → W p l e R s m args below meth c H1 locs1 cells slots Q (F0 m (pc + 3) ls (.int r :: rest))) : W p l e R s m args below meth c H locs cells slots Q (F0 m pc ls st0) := by
  obtain ⟨S, hK, hq, hX⟩ := E
  subst hstack
  refine va_calli (A0 := Aw w) (va_runV (As := As) (rest := rest) S hM cw ⟨Pw.blind, va_recv hK I.1 (ci := ci) (q0 := k) hc (by rw [wd_get hk, he]), fun U hU hW => ⟨rfl, by rw [hU]; exact I.1, va_K.moved hW.alike hK, by rw [hU]; exact (hX.warm hW).kept I.2.1.2.1⟩⟩ rfl hn hsize rfl (lv_room hW) hdg hf) I.2.1 (fun _ _ h => h) (fun _ h => h) (fun r u t H1 locs1 ht hvm hw hB hz1 hk1 hS => ?_)
  exact kk r u H1 locs1 hw ⟨by rw [← ht]; exact hB, hS⟩
theorem cSi (E : En w p m c cc nL s args own) (I : Wo w g s.heap v H locs) {y : MethodName} {bytes : ByteArray} {maxL n index : Nat} {ret : Option FieldType} {ws : List Cond} {rm : Room} {As : List Value} {post : Int32 → St → Prop} (hM : CTi w l y ws rm As v post) (cw : CallB R s args own index y bytes maxL ret ws rm 0 0 n ∧ (Cond.static y).before args s = true) {st0 : List Value} (hn : As.length = n) (hsize : ls.size = nL) (hstack : st0 = As.reverse ++ rest) (hW : (rest.map fun v => v.category).sum ≤ 8) (hdg : decode cc pc = .ok (.invokestatic index, 3)) (hf : cells ≤ R.cells ∧ slots ≤ R.slots)
    (kk : ∀ (r : Int32) (u : St) (H1 : Heap) (locs1 : List Loc), post r u → (va_P (wD w) vwCl (wd w u) H1 ∧ va_S (Aw w) s.heap H1 locs1) → W p l e R s m args below meth c H1 locs1 cells slots Q (F0 m (pc + 3) ls (.int r :: rest))) : W p l e R s m args below meth c H locs cells slots Q (F0 m pc ls st0) := by
  obtain ⟨S, hK, hq, hX⟩ := E
  subst hstack
  refine va_calli (A0 := Aw w) (va_runS (As := As) (rest := rest) S hM cw ⟨Pw.blind, fun U hU hW => ⟨rfl, by rw [hU]; exact I.1, va_K.moved hW.alike hK, by rw [hU]; exact (hX.warm hW).kept I.2.1.2.1⟩⟩ rfl hn hsize rfl (lv_room hW) hdg hf) I.2.1 (fun _ _ h => h) (fun _ h => h) (fun r u t H1 locs1 ht hvm hw hB hz1 hk1 hS => ?_)
  exact kk r u H1 locs1 hw ⟨by rw [← ht]; exact hB, hS⟩
theorem cNi (E : En w p m c cc nL s args own) (I : Wo w g s.heap v H locs) {y : MethodName} {bytes : ByteArray} {maxL n index : Nat} {ret : Option FieldType} {ws : List Cond} {rm : Room} {As : List Value} {host : String} {post : Int32 → St → Prop} (hM : CTi w l y ws rm As v post) (cw : va_CN R s args own index y host bytes maxL ret ws rm 0 0 n ∧ (Cond.static y).before args s = true ∧ True) {st0 : List Value} (hn : As.length = n) (hsize : ls.size = nL) (hstack : st0 = As.reverse ++ rest) (hW : (rest.map fun v => v.category).sum ≤ 8) (hdg : decode cc pc = .ok (.invokestatic index, 3)) (hf : cells ≤ R.cells ∧ slots ≤ R.slots)
    (kk : ∀ (r : Int32) (u : St) (H1 : Heap) (locs1 : List Loc), post r u → (va_P (wD w) vwCl (wd w u) H1 ∧ va_S (Aw w) s.heap H1 locs1) → W p l e R s m args below meth c H1 locs1 cells slots Q (F0 m (pc + 3) ls (.int r :: rest))) : W p l e R s m args below meth c H locs cells slots Q (F0 m pc ls st0) := by
  obtain ⟨S, hK, hq, hX⟩ := E
  subst hstack
  refine va_calli (A0 := Aw w) (va_runSN (As := As) (rest := rest) S hM cw ⟨Pw.blind, fun U hU hW => ⟨rfl, by rw [hU]; exact I.1, va_K.moved hW.alike hK, by rw [hU]; exact (hX.warm hW).kept I.2.1.2.1⟩⟩ rfl hn hsize rfl (lv_room hW) hdg hf) I.2.1 (fun _ _ h => h) (fun _ h => h) (fun r u t H1 locs1 ht hvm hw hB hz1 hk1 hS => ?_)
  exact kk r u H1 locs1 hw ⟨by rw [← ht]; exact hB, hS⟩
theorem cVl (E : En w p m c cc nL s args own) (I : Wo w g s.heap v H locs) {y : MethodName} {bytes : ByteArray} {maxL n index : Nat} {ret : Option FieldType} {ws : List Cond} {rm : Room} {As : List Value} {post : Int64 → St → Prop} {C : String} {k : Nat} (hM : CTl w l y ws rm (.ref (wq w k) :: As) v post) (cw : CallW R s args own C index y bytes maxL ret ws rm 0 0 n) (hk : k < wN w) {ci : Nat} {fs : List Value} (he : ce w v k = .inr (ci, fs)) {T : u_T} {N' : Nat} (hc : vwCl[ci]? = some (C, T, N')) {st0 : List Value} (hn : As.length = n) (hsize : ls.size = nL) (hstack : st0 = As.reverse ++ .ref (wq w k) :: rest) (hW : (rest.map fun v => v.category).sum ≤ 8) (hdg : decode cc pc = .ok (.invokevirtual index, 3)) (hf : cells ≤ R.cells ∧ slots ≤ R.slots)
    (kk : ∀ (r : Int64) (u : St) (H1 : Heap) (locs1 : List Loc), post r u → (va_P (wD w) vwCl (wd w u) H1 ∧ va_S (Aw w) s.heap H1 locs1) → W p l e R s m args below meth c H1 locs1 cells slots Q (F0 m (pc + 3) ls (.long r :: rest))) : W p l e R s m args below meth c H locs cells slots Q (F0 m pc ls st0) := by
  obtain ⟨S, hK, hq, hX⟩ := E
  subst hstack
  refine va_calll (A0 := Aw w) (va_runV (As := As) (rest := rest) S hM cw ⟨Pw.blind, va_recv hK I.1 (ci := ci) (q0 := k) hc (by rw [wd_get hk, he]), fun U hU hW => ⟨rfl, by rw [hU]; exact I.1, va_K.moved hW.alike hK, by rw [hU]; exact (hX.warm hW).kept I.2.1.2.1⟩⟩ rfl hn hsize rfl (lv_room hW) hdg hf) I.2.1 (fun _ _ h => h) (fun _ h => h) (fun r u t H1 locs1 ht hvm hw hB hz1 hk1 hS => ?_)
  exact kk r u H1 locs1 hw ⟨by rw [← ht]; exact hB, hS⟩
theorem cSl (E : En w p m c cc nL s args own) (I : Wo w g s.heap v H locs) {y : MethodName} {bytes : ByteArray} {maxL n index : Nat} {ret : Option FieldType} {ws : List Cond} {rm : Room} {As : List Value} {post : Int64 → St → Prop} (hM : CTl w l y ws rm As v post) (cw : CallB R s args own index y bytes maxL ret ws rm 0 0 n ∧ (Cond.static y).before args s = true) {st0 : List Value} (hn : As.length = n) (hsize : ls.size = nL) (hstack : st0 = As.reverse ++ rest) (hW : (rest.map fun v => v.category).sum ≤ 8) (hdg : decode cc pc = .ok (.invokestatic index, 3)) (hf : cells ≤ R.cells ∧ slots ≤ R.slots)
    (kk : ∀ (r : Int64) (u : St) (H1 : Heap) (locs1 : List Loc), post r u → (va_P (wD w) vwCl (wd w u) H1 ∧ va_S (Aw w) s.heap H1 locs1) → W p l e R s m args below meth c H1 locs1 cells slots Q (F0 m (pc + 3) ls (.long r :: rest))) : W p l e R s m args below meth c H locs cells slots Q (F0 m pc ls st0) := by
  obtain ⟨S, hK, hq, hX⟩ := E
  subst hstack
  refine va_calll (A0 := Aw w) (va_runS (As := As) (rest := rest) S hM cw ⟨Pw.blind, fun U hU hW => ⟨rfl, by rw [hU]; exact I.1, va_K.moved hW.alike hK, by rw [hU]; exact (hX.warm hW).kept I.2.1.2.1⟩⟩ rfl hn hsize rfl (lv_room hW) hdg hf) I.2.1 (fun _ _ h => h) (fun _ h => h) (fun r u t H1 locs1 ht hvm hw hB hz1 hk1 hS => ?_)
  exact kk r u H1 locs1 hw ⟨by rw [← ht]; exact hB, hS⟩
theorem cNl (E : En w p m c cc nL s args own) (I : Wo w g s.heap v H locs) {y : MethodName} {bytes : ByteArray} {maxL n index : Nat} {ret : Option FieldType} {ws : List Cond} {rm : Room} {As : List Value} {host : String} {post : Int64 → St → Prop} (hM : CTl w l y ws rm As v post) (cw : va_CN R s args own index y host bytes maxL ret ws rm 0 0 n ∧ (Cond.static y).before args s = true ∧ True) {st0 : List Value} (hn : As.length = n) (hsize : ls.size = nL) (hstack : st0 = As.reverse ++ rest) (hW : (rest.map fun v => v.category).sum ≤ 8) (hdg : decode cc pc = .ok (.invokestatic index, 3)) (hf : cells ≤ R.cells ∧ slots ≤ R.slots)
    (kk : ∀ (r : Int64) (u : St) (H1 : Heap) (locs1 : List Loc), post r u → (va_P (wD w) vwCl (wd w u) H1 ∧ va_S (Aw w) s.heap H1 locs1) → W p l e R s m args below meth c H1 locs1 cells slots Q (F0 m (pc + 3) ls (.long r :: rest))) : W p l e R s m args below meth c H locs cells slots Q (F0 m pc ls st0) := by
  obtain ⟨S, hK, hq, hX⟩ := E
  subst hstack
  refine va_calll (A0 := Aw w) (va_runSN (As := As) (rest := rest) S hM cw ⟨Pw.blind, fun U hU hW => ⟨rfl, by rw [hU]; exact I.1, va_K.moved hW.alike hK, by rw [hU]; exact (hX.warm hW).kept I.2.1.2.1⟩⟩ rfl hn hsize rfl (lv_room hW) hdg hf) I.2.1 (fun _ _ h => h) (fun _ h => h) (fun r u t H1 locs1 ht hvm hw hB hz1 hk1 hS => ?_)
  exact kk r u H1 locs1 hw ⟨by rw [← ht]; exact hB, hS⟩
theorem cVv (E : En w p m c cc nL s args own) (I : Wo w g s.heap v H locs) {y : MethodName} {bytes : ByteArray} {maxL n index : Nat} {ret : Option FieldType} {ws : List Cond} {rm : Room} {As : List Value} {post : St → Prop} {C : String} {k : Nat} (hM : CTv w l y ws rm (.ref (wq w k) :: As) v post) (cw : CallW R s args own C index y bytes maxL ret ws rm 0 0 n) (hk : k < wN w) {ci : Nat} {fs : List Value} (he : ce w v k = .inr (ci, fs)) {T : u_T} {N' : Nat} (hc : vwCl[ci]? = some (C, T, N')) {st0 : List Value} (hn : As.length = n) (hsize : ls.size = nL) (hstack : st0 = As.reverse ++ .ref (wq w k) :: rest) (hW : (rest.map fun v => v.category).sum ≤ 8) (hdg : decode cc pc = .ok (.invokevirtual index, 3)) (hf : cells ≤ R.cells ∧ slots ≤ R.slots)
    (kk : ∀ (u : St) (H1 : Heap) (locs1 : List Loc), post u → (va_P (wD w) vwCl (wd w u) H1 ∧ va_S (Aw w) s.heap H1 locs1) → W p l e R s m args below meth c H1 locs1 cells slots Q (F0 m (pc + 3) ls rest)) : W p l e R s m args below meth c H locs cells slots Q (F0 m pc ls st0) := by
  obtain ⟨S, hK, hq, hX⟩ := E
  subst hstack
  refine va_callv (A0 := Aw w) (va_runV (As := As) (rest := rest) S hM cw ⟨Pw.blind, va_recv hK I.1 (ci := ci) (q0 := k) hc (by rw [wd_get hk, he]), fun U hU hW => ⟨rfl, by rw [hU]; exact I.1, va_K.moved hW.alike hK, by rw [hU]; exact (hX.warm hW).kept I.2.1.2.1⟩⟩ rfl hn hsize rfl (lv_room hW) hdg hf) I.2.1 (fun _ _ h => h) (fun _ h => h) (fun u t H1 locs1 ht hvm hw hB hz1 hk1 hS => ?_)
  exact kk u H1 locs1 hw ⟨by rw [← ht]; exact hB, hS⟩
theorem cSv (E : En w p m c cc nL s args own) (I : Wo w g s.heap v H locs) {y : MethodName} {bytes : ByteArray} {maxL n index : Nat} {ret : Option FieldType} {ws : List Cond} {rm : Room} {As : List Value} {post : St → Prop} (hM : CTv w l y ws rm As v post) (cw : CallB R s args own index y bytes maxL ret ws rm 0 0 n ∧ (Cond.static y).before args s = true) {st0 : List Value} (hn : As.length = n) (hsize : ls.size = nL) (hstack : st0 = As.reverse ++ rest) (hW : (rest.map fun v => v.category).sum ≤ 8) (hdg : decode cc pc = .ok (.invokestatic index, 3)) (hf : cells ≤ R.cells ∧ slots ≤ R.slots)
    (kk : ∀ (u : St) (H1 : Heap) (locs1 : List Loc), post u → (va_P (wD w) vwCl (wd w u) H1 ∧ va_S (Aw w) s.heap H1 locs1) → W p l e R s m args below meth c H1 locs1 cells slots Q (F0 m (pc + 3) ls rest)) : W p l e R s m args below meth c H locs cells slots Q (F0 m pc ls st0) := by
  obtain ⟨S, hK, hq, hX⟩ := E
  subst hstack
  refine va_callv (A0 := Aw w) (va_runS (As := As) (rest := rest) S hM cw ⟨Pw.blind, fun U hU hW => ⟨rfl, by rw [hU]; exact I.1, va_K.moved hW.alike hK, by rw [hU]; exact (hX.warm hW).kept I.2.1.2.1⟩⟩ rfl hn hsize rfl (lv_room hW) hdg hf) I.2.1 (fun _ _ h => h) (fun _ h => h) (fun u t H1 locs1 ht hvm hw hB hz1 hk1 hS => ?_)
  exact kk u H1 locs1 hw ⟨by rw [← ht]; exact hB, hS⟩
theorem gWs {own : String} {index : Nat} {C : String} {y : MethodName} {cc : ByteArray} {n : Nat} {ret : Option FieldType} (h1 : Cond.methodLink own index y ∈ lw_tbl) (h2 : Cond.instanceMethod y ∈ lw_tbl) (h3 : Cond.selects C y y ∈ lw_tbl) (h4 : Cond.initialized C ∈ lw_tbl) (h5 : Cond.code y cc n ret ∈ lw_tbl) : GoodIn lw_g (wsV own index C y (wsy y cc n ret)) := by
  have hc : ∀ x ∈ wsV own index C y (wsy y cc n ret), x ∈ lw_g := by
    unfold wsV wsy
    refine List.forall_mem_append.mpr ⟨?_, List.forall_mem_cons.mpr ⟨lg_in h5 rfl, fun x h => h⟩⟩
    exact List.forall_mem_cons.mpr ⟨lg_in h1 rfl, List.forall_mem_cons.mpr ⟨lg_in h2 rfl, List.forall_mem_cons.mpr ⟨lg_in h3 rfl, List.forall_mem_cons.mpr ⟨lg_in h4 rfl, fun _ h => absurd h List.not_mem_nil⟩⟩⟩⟩
  exact fun x h => ⟨hc x h, lg_good (hc x h)⟩
theorem gSs {own : String} {index : Nat} {y : MethodName} {cc : ByteArray} {n : Nat} {ret : Option FieldType} (h1 : Cond.methodLink own index y ∈ lw_tbl) (h2 : Cond.static y ∈ lw_tbl) (h4 : Cond.initialized y.cls ∈ lw_tbl) (h5 : Cond.code y cc n ret ∈ lw_tbl) : GoodIn lw_g (va_wsS own index y (wsy y cc n ret)) := by
  have hc : ∀ x ∈ va_wsS own index y (wsy y cc n ret), x ∈ lw_g := by
    unfold va_wsS wsy
    refine List.forall_mem_append.mpr ⟨?_, List.forall_mem_cons.mpr ⟨lg_in h5 rfl, fun x h => h⟩⟩
    exact List.forall_mem_cons.mpr ⟨lg_in h1 rfl, List.forall_mem_cons.mpr ⟨lg_in h2 rfl, List.forall_mem_cons.mpr ⟨lg_in h4 rfl, fun _ h => absurd h List.not_mem_nil⟩⟩⟩
  exact fun x h => ⟨hc x h, lg_good (hc x h)⟩
theorem gYs {y : MethodName} {cc : ByteArray} {n : Nat} {ret : Option FieldType} (h5 : Cond.code y cc n ret ∈ lw_tbl) : GoodIn lw_g (wsy y cc n ret) := by
  have hc : ∀ x ∈ wsy y cc n ret, x ∈ lw_g := List.forall_mem_cons.mpr ⟨lg_in h5 rfl, fun x h => h⟩
  exact fun x h => ⟨hc x h, lg_good (hc x h)⟩
theorem rI {post : Int32 → St → Prop} {ty : FieldType} {x : Int32} (E : En w p m c cc nL s args own) (I : Wo w g s.heap v H locs) (hr : meth.sig.returnType = some ty) (hlocks : meth.locks = false) (hn : narrow ty (.int x) = .int x) (hp : post x v) (hdg : decode cc pc = .ok (.ireturn, 1)) : W p l e R s m args below meth c H locs 0 0 (MQ below (va_Qi post (Bw w) (Aw w)) args s 0 0 (Aw w)) (F0 m pc ls [.int x]) :=
  W.zret (v := x) E.1.1 E.1.2.1 hr hn (fun t ht hW => ⟨⟨x, v, rfl, hp, by unfold Bw; rw [ht]; exact I.1⟩, I.2.1.F ht⟩) I.2.1.2.2 hdg hlocks
theorem rL {post : Int64 → St → Prop} {x : Int64} (E : En w p m c cc nL s args own) (I : Wo w g s.heap v H locs) (hr : meth.sig.returnType = some .long) (hlocks : meth.locks = false) (hp : post x v) (hdg : decode cc pc = .ok (.lreturn, 1)) : W p l e R s m args below meth c H locs 0 0 (MQ below (va_Ql post (Bw w) (Aw w)) args s 0 0 (Aw w)) (F0 m pc ls [.long x]) :=
  W.lret (v := x) E.1.1 E.1.2.1 hr (fun t ht hW => ⟨⟨x, v, rfl, hp, by unfold Bw; rw [ht]; exact I.1⟩, I.2.1.F ht⟩) I.2.1.2.2 hdg hlocks
theorem rV {post : St → Prop} (E : En w p m c cc nL s args own) (I : Wo w g s.heap v H locs) (hr : meth.sig.returnType = none) (hlocks : meth.locks = false) (hp : post v) (hdg : decode cc pc = .ok (.return_, 1)) : W p l e R s m args below meth c H locs 0 0 (MQ below (va_Qv post (Bw w) (Aw w)) args s 0 0 (Aw w)) (F0 m pc ls []) :=
  W.vret E.1.1 E.1.2.1 hr (fun t ht hW => ⟨⟨v, rfl, hp, by unfold Bw; rw [ht]; exact I.1⟩, I.2.1.F ht⟩) I.2.1.2.2 hdg hlocks
end WR

theorem CTi.of {w : Wp} {l : Launch} {y : MethodName} {rm : Room} {av : List Value} {v : St} {post : Int32 → St → Prop} {g : Nat → Nat → Int32} (cc : ByteArray) (maxL : Nat) (ret : Option FieldType) (own : String) (hy : plainName y.cls = true) (hown : y.cls = own) (hq : Inj w) (hwf : WF (wk w) g v) (hlen : (lg_sl av).length ≤ maxL)
    (body : ∀ p e s m args below meth c ls, En w p m c cc maxL s args own → Wo w g s.heap v s.heap [] → meth.sig.returnType = ret → meth.locks = false → lv_has ls maxL (lv_args 0 av) → W p l e rm s m args below meth c s.heap [] 0 0 (MQ below (va_Qi post (Bw w) (Aw w)) args s 0 0 (Aw w)) (F0 m 0 ls [])) : CTi w l y (wsy y cc maxL ret) rm av v post := by
  refine Met.ofW (cc := cc) (maxL := maxL) (ret := ret) hy rfl ?_
  intro p e s m args below meth c s₁ B hml hv
  obtain ⟨rfl, hP, hK, hX⟩ := hv
  have hl := lv_entry av (n := maxL) hlen
  rw [lg_entry_eq]
  exact body p e s m _ below meth c _ ⟨⟨B.exec, B.bytes, hml, by rw [← hown]; exact findClass_of_methodNamed B.named, fun x h => atoms_spec (ws := wsy y cc maxL ret) B.pre x (List.mem_cons_of_mem _ h)⟩, hK, hq, hX⟩ ⟨hP, va_S.rf, hwf⟩ B.returns B.notSynchronized hl
theorem CTl.of {w : Wp} {l : Launch} {y : MethodName} {rm : Room} {av : List Value} {v : St} {post : Int64 → St → Prop} {g : Nat → Nat → Int32} (cc : ByteArray) (maxL : Nat) (ret : Option FieldType) (own : String) (hy : plainName y.cls = true) (hown : y.cls = own) (hq : Inj w) (hwf : WF (wk w) g v) (hlen : (lg_sl av).length ≤ maxL)
    (body : ∀ p e s m args below meth c ls, En w p m c cc maxL s args own → Wo w g s.heap v s.heap [] → meth.sig.returnType = ret → meth.locks = false → lv_has ls maxL (lv_args 0 av) → W p l e rm s m args below meth c s.heap [] 0 0 (MQ below (va_Ql post (Bw w) (Aw w)) args s 0 0 (Aw w)) (F0 m 0 ls [])) : CTl w l y (wsy y cc maxL ret) rm av v post := by
  refine Met.ofW (cc := cc) (maxL := maxL) (ret := ret) hy rfl ?_
  intro p e s m args below meth c s₁ B hml hv
  obtain ⟨rfl, hP, hK, hX⟩ := hv
  have hl := lv_entry av (n := maxL) hlen
  rw [lg_entry_eq]
  exact body p e s m _ below meth c _ ⟨⟨B.exec, B.bytes, hml, by rw [← hown]; exact findClass_of_methodNamed B.named, fun x h => atoms_spec (ws := wsy y cc maxL ret) B.pre x (List.mem_cons_of_mem _ h)⟩, hK, hq, hX⟩ ⟨hP, va_S.rf, hwf⟩ B.returns B.notSynchronized hl
theorem CTv.of {w : Wp} {l : Launch} {y : MethodName} {rm : Room} {av : List Value} {v : St} {post : St → Prop} {g : Nat → Nat → Int32} (cc : ByteArray) (maxL : Nat) (ret : Option FieldType) (own : String) (hy : plainName y.cls = true) (hown : y.cls = own) (hq : Inj w) (hwf : WF (wk w) g v) (hlen : (lg_sl av).length ≤ maxL)
    (body : ∀ p e s m args below meth c ls, En w p m c cc maxL s args own → Wo w g s.heap v s.heap [] → meth.sig.returnType = ret → meth.locks = false → lv_has ls maxL (lv_args 0 av) → W p l e rm s m args below meth c s.heap [] 0 0 (MQ below (va_Qv post (Bw w) (Aw w)) args s 0 0 (Aw w)) (F0 m 0 ls [])) : CTv w l y (wsy y cc maxL ret) rm av v post := by
  refine Met.ofW (cc := cc) (maxL := maxL) (ret := ret) hy rfl ?_
  intro p e s m args below meth c s₁ B hml hv
  obtain ⟨rfl, hP, hK, hX⟩ := hv
  have hl := lv_entry av (n := maxL) hlen
  rw [lg_entry_eq]
  exact body p e s m _ below meth c _ ⟨⟨B.exec, B.bytes, hml, by rw [← hown]; exact findClass_of_methodNamed B.named, fun x h => atoms_spec (ws := wsy y cc maxL ret) B.pre x (List.mem_cons_of_mem _ h)⟩, hK, hq, hX⟩ ⟨hP, va_S.rf, hwf⟩ B.returns B.notSynchronized hl
