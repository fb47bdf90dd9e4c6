theorem bb_ {E X Y Z : Type} {A B : Except E X} {F : X → Except E Y} {G : Y → Except E Z} {r : Except E Z} (e : A = B) (h : Except.bind (Except.bind B F) G = r) : Except.bind (Except.bind A F) G = r := by rw [e]; exact h
theorem bc_ {E X Y Z : Type} {x : X} {y : Except E Y} {F : X → Except E Y} {G : Y → Except E Z} {r : Except E Z} (e : F x = y) (h : Except.bind y G = r) : Except.bind (Except.bind (.ok x) F) G = r := by
  show Except.bind (F x) G = r
  rw [e]; exact h
theorem cc_ {E X Y : Type} {A B : Except E X} {F : X → Except E Y} {r : Except E Y} (e : A = B) (h : Except.bind B F = r) : Except.bind A F = r := by rw [e]; exact h
theorem u1_r {c : ByteArray} {p : Nat} {a : UInt8} (h : c.data.toList[p]? = some a) : (Jvm.ClassFile.Reader.u1 : Jvm.ClassFile.Decoder Nat) c p = .ok (a.toNat, p + 1) := by
  obtain ⟨h1, h2⟩ := List.getElem?_eq_some_iff.mp h
  have hs : p < c.size := h1
  have e0 : (Jvm.ClassFile.Reader.u1 : Jvm.ClassFile.Decoder Nat) c p = (dite (p < c.size) (fun _ => fun _ _ => .ok (c[p].toNat, p + 1)) (fun _ => fun _ _ => .error (.truncated p)) : Jvm.ClassFile.Decoder Nat) c p := rfl
  have e : (Jvm.ClassFile.Reader.u1 : Jvm.ClassFile.Decoder Nat) c p = .ok (c[p].toNat, p + 1) := by rw [e0, dif_pos hs]
  have : c[p] = a := h2
  rw [e, this]
theorem u2_r {c : ByteArray} {p : Nat} {a b : UInt8} (h : c.data.toList[p]? = some a) (h2 : c.data.toList[p + 1]? = some b) : (Jvm.ClassFile.Reader.u2 : Jvm.ClassFile.Decoder Nat) c p = .ok (a.toNat * 256 + b.toNat, p + 2) := by
  have e1 := u1_r h
  have e2 := u1_r h2
  have t : (Jvm.ClassFile.Reader.u2 : Jvm.ClassFile.Decoder Nat) c p = Except.bind ((Jvm.ClassFile.Reader.u1 : Jvm.ClassFile.Decoder Nat) c p) (fun x => Except.bind ((Jvm.ClassFile.Reader.u1 : Jvm.ClassFile.Decoder Nat) c x.2) (fun y => .ok (x.1 * 256 + y.1, y.2))) := rfl
  rw [t, e1]
  show Except.bind ((Jvm.ClassFile.Reader.u1 : Jvm.ClassFile.Decoder Nat) c (p + 1)) _ = _
  rw [e2]
  rfl
theorem s1_r {c : ByteArray} {p : Nat} {a : UInt8} (h : c.data.toList[p]? = some a) : (Jvm.ClassFile.Reader.s1 : Jvm.ClassFile.Decoder Int) c p = .ok (Jvm.ClassFile.Reader.signed 8 a.toNat, p + 1) := by
  have e := u1_r h
  have t : (Jvm.ClassFile.Reader.s1 : Jvm.ClassFile.Decoder Int) c p = Except.bind ((Jvm.ClassFile.Reader.u1 : Jvm.ClassFile.Decoder Nat) c p) (fun x => .ok (Jvm.ClassFile.Reader.signed 8 x.1, x.2)) := rfl
  rw [t, e]
  rfl
theorem s2_r {c : ByteArray} {p : Nat} {a b : UInt8} (h : c.data.toList[p]? = some a) (h2 : c.data.toList[p + 1]? = some b) : (Jvm.ClassFile.Reader.s2 : Jvm.ClassFile.Decoder Int) c p = .ok (Jvm.ClassFile.Reader.signed 16 (a.toNat * 256 + b.toNat), p + 2) := by
  have e := u2_r h h2
  have t : (Jvm.ClassFile.Reader.s2 : Jvm.ClassFile.Decoder Int) c p = Except.bind ((Jvm.ClassFile.Reader.u2 : Jvm.ClassFile.Decoder Nat) c p) (fun x => .ok (Jvm.ClassFile.Reader.signed 16 x.1, x.2)) := rfl
  rw [t, e]
  rfl
theorem dr_g {l L M : List UInt8} {q n j k i : Nat} {x : UInt8} (hL : (l.drop q).take n = L) (h : (L.drop j).take k = M) (hi : i < k) (hx : M[i]? = some x) : l[q + j + i]? = some x := by
  have e1 : L[j + i]? = some x := by rw [← hx, ← h, List.getElem?_take_of_lt hi, List.getElem?_drop]
  rw [← hL] at e1
  have h1 := (List.getElem?_eq_some_iff.mp e1).1
  have h2 := List.length_take_le n (l.drop q)
  rw [List.getElem?_take_of_lt (Nat.lt_of_lt_of_le h1 h2), List.getElem?_drop, ← Nat.add_assoc] at e1
  exact e1
theorem dk_2 {c : ByteArray} {L : List UInt8} {q n j : Nat} (hL : (c.data.toList.drop q).take n = L) (h : (L.drop j).take 1 = [2]) : decode c (q + j) = .ok (.iconst (-1), 1) := by
  have t : decode c (q + j) = .ok (.iconst (-1), q + j + 1 - (q + j)) := bb_ (u1_r (dr_g hL h (i := 0) (by decide) rfl)) rfl
  rw [t, Nat.add_sub_cancel_left]
theorem dk_3 {c : ByteArray} {L : List UInt8} {q n j : Nat} (hL : (c.data.toList.drop q).take n = L) (h : (L.drop j).take 1 = [3]) : decode c (q + j) = .ok (.iconst 0, 1) := by
  have t : decode c (q + j) = .ok (.iconst 0, q + j + 1 - (q + j)) := bb_ (u1_r (dr_g hL h (i := 0) (by decide) rfl)) rfl
  rw [t, Nat.add_sub_cancel_left]
theorem dk_4 {c : ByteArray} {L : List UInt8} {q n j : Nat} (hL : (c.data.toList.drop q).take n = L) (h : (L.drop j).take 1 = [4]) : decode c (q + j) = .ok (.iconst 1, 1) := by
  have t : decode c (q + j) = .ok (.iconst 1, q + j + 1 - (q + j)) := bb_ (u1_r (dr_g hL h (i := 0) (by decide) rfl)) rfl
  rw [t, Nat.add_sub_cancel_left]
theorem dk_5 {c : ByteArray} {L : List UInt8} {q n j : Nat} (hL : (c.data.toList.drop q).take n = L) (h : (L.drop j).take 1 = [5]) : decode c (q + j) = .ok (.iconst 2, 1) := by
  have t : decode c (q + j) = .ok (.iconst 2, q + j + 1 - (q + j)) := bb_ (u1_r (dr_g hL h (i := 0) (by decide) rfl)) rfl
  rw [t, Nat.add_sub_cancel_left]
theorem dk_6 {c : ByteArray} {L : List UInt8} {q n j : Nat} (hL : (c.data.toList.drop q).take n = L) (h : (L.drop j).take 1 = [6]) : decode c (q + j) = .ok (.iconst 3, 1) := by
  have t : decode c (q + j) = .ok (.iconst 3, q + j + 1 - (q + j)) := bb_ (u1_r (dr_g hL h (i := 0) (by decide) rfl)) rfl
  rw [t, Nat.add_sub_cancel_left]
theorem dk_7 {c : ByteArray} {L : List UInt8} {q n j : Nat} (hL : (c.data.toList.drop q).take n = L) (h : (L.drop j).take 1 = [7]) : decode c (q + j) = .ok (.iconst 4, 1) := by
  have t : decode c (q + j) = .ok (.iconst 4, q + j + 1 - (q + j)) := bb_ (u1_r (dr_g hL h (i := 0) (by decide) rfl)) rfl
  rw [t, Nat.add_sub_cancel_left]
theorem dk_8 {c : ByteArray} {L : List UInt8} {q n j : Nat} (hL : (c.data.toList.drop q).take n = L) (h : (L.drop j).take 1 = [8]) : decode c (q + j) = .ok (.iconst 5, 1) := by
  have t : decode c (q + j) = .ok (.iconst 5, q + j + 1 - (q + j)) := bb_ (u1_r (dr_g hL h (i := 0) (by decide) rfl)) rfl
  rw [t, Nat.add_sub_cancel_left]
theorem dk_9 {c : ByteArray} {L : List UInt8} {q n j : Nat} (hL : (c.data.toList.drop q).take n = L) (h : (L.drop j).take 1 = [9]) : decode c (q + j) = .ok (.lconst 0, 1) := by
  have t : decode c (q + j) = .ok (.lconst 0, q + j + 1 - (q + j)) := bb_ (u1_r (dr_g hL h (i := 0) (by decide) rfl)) rfl
  rw [t, Nat.add_sub_cancel_left]
theorem dk_10 {c : ByteArray} {L : List UInt8} {q n j : Nat} (hL : (c.data.toList.drop q).take n = L) (h : (L.drop j).take 1 = [10]) : decode c (q + j) = .ok (.lconst 1, 1) := by
  have t : decode c (q + j) = .ok (.lconst 1, q + j + 1 - (q + j)) := bb_ (u1_r (dr_g hL h (i := 0) (by decide) rfl)) rfl
  rw [t, Nat.add_sub_cancel_left]
theorem dk_16 {c : ByteArray} {L : List UInt8} {q n j : Nat} (hL : (c.data.toList.drop q).take n = L) {a : UInt8} {v : Int} (h : (L.drop j).take 2 = [16, a] ∧ Jvm.ClassFile.Reader.signed 8 a.toNat = v) : decode c (q + j) = .ok (.bipush v, 2) := by
  obtain ⟨h, rfl⟩ := h
  have t : decode c (q + j) = .ok (.bipush (Jvm.ClassFile.Reader.signed 8 a.toNat), q + j + 1 + 1 - (q + j)) := bb_ (u1_r (dr_g hL h (i := 0) (by decide) rfl)) (bc_ (y := .ok (.bipush (Jvm.ClassFile.Reader.signed 8 a.toNat), q + j + 1 + 1)) (cc_ (s1_r (dr_g hL h (i := 1) (by decide) rfl)) rfl) rfl)
  rw [t, Nat.add_assoc (q + j), Nat.add_sub_cancel_left]
theorem dk_17 {c : ByteArray} {L : List UInt8} {q n j : Nat} (hL : (c.data.toList.drop q).take n = L) {a b : UInt8} {v : Int} (h : (L.drop j).take 3 = [17, a, b] ∧ Jvm.ClassFile.Reader.signed 16 (a.toNat * 256 + b.toNat) = v) : decode c (q + j) = .ok (.sipush v, 3) := by
  obtain ⟨h, rfl⟩ := h
  have t : decode c (q + j) = .ok (.sipush (Jvm.ClassFile.Reader.signed 16 (a.toNat * 256 + b.toNat)), q + j + 1 + 2 - (q + j)) := bb_ (u1_r (dr_g hL h (i := 0) (by decide) rfl)) (bc_ (y := .ok (.sipush (Jvm.ClassFile.Reader.signed 16 (a.toNat * 256 + b.toNat)), q + j + 1 + 2)) (cc_ (s2_r (dr_g hL h (i := 1) (by decide) rfl) (dr_g hL h (i := 2) (by decide) rfl)) rfl) rfl)
  rw [t, Nat.add_assoc (q + j), Nat.add_sub_cancel_left]
theorem dk_18 {c : ByteArray} {L : List UInt8} {q n j : Nat} (hL : (c.data.toList.drop q).take n = L) {a : UInt8} {v : Nat} (h : (L.drop j).take 2 = [18, a] ∧ a.toNat = v) : decode c (q + j) = .ok (.ldc v, 2) := by
  obtain ⟨h, rfl⟩ := h
  have t : decode c (q + j) = .ok (.ldc (a.toNat), q + j + 1 + 1 - (q + j)) := bb_ (u1_r (dr_g hL h (i := 0) (by decide) rfl)) (bc_ (y := .ok (.ldc (a.toNat), q + j + 1 + 1)) (cc_ (u1_r (dr_g hL h (i := 1) (by decide) rfl)) rfl) rfl)
  rw [t, Nat.add_assoc (q + j), Nat.add_sub_cancel_left]
theorem dk_19 {c : ByteArray} {L : List UInt8} {q n j : Nat} (hL : (c.data.toList.drop q).take n = L) {a b : UInt8} {v : Nat} (h : (L.drop j).take 3 = [19, a, b] ∧ a.toNat * 256 + b.toNat = v) : decode c (q + j) = .ok (.ldc_w v, 3) := by
  obtain ⟨h, rfl⟩ := h
  have t : decode c (q + j) = .ok (.ldc_w (a.toNat * 256 + b.toNat), q + j + 1 + 2 - (q + j)) := bb_ (u1_r (dr_g hL h (i := 0) (by decide) rfl)) (bc_ (y := .ok (.ldc_w (a.toNat * 256 + b.toNat), q + j + 1 + 2)) (cc_ (u2_r (dr_g hL h (i := 1) (by decide) rfl) (dr_g hL h (i := 2) (by decide) rfl)) rfl) rfl)
  rw [t, Nat.add_assoc (q + j), Nat.add_sub_cancel_left]
theorem dk_20 {c : ByteArray} {L : List UInt8} {q n j : Nat} (hL : (c.data.toList.drop q).take n = L) {a b : UInt8} {v : Nat} (h : (L.drop j).take 3 = [20, a, b] ∧ a.toNat * 256 + b.toNat = v) : decode c (q + j) = .ok (.ldc2_w v, 3) := by
  obtain ⟨h, rfl⟩ := h
  have t : decode c (q + j) = .ok (.ldc2_w (a.toNat * 256 + b.toNat), q + j + 1 + 2 - (q + j)) := bb_ (u1_r (dr_g hL h (i := 0) (by decide) rfl)) (bc_ (y := .ok (.ldc2_w (a.toNat * 256 + b.toNat), q + j + 1 + 2)) (cc_ (u2_r (dr_g hL h (i := 1) (by decide) rfl) (dr_g hL h (i := 2) (by decide) rfl)) rfl) rfl)
  rw [t, Nat.add_assoc (q + j), Nat.add_sub_cancel_left]
theorem dk_21 {c : ByteArray} {L : List UInt8} {q n j : Nat} (hL : (c.data.toList.drop q).take n = L) {a : UInt8} {v : Nat} (h : (L.drop j).take 2 = [21, a] ∧ a.toNat = v) : decode c (q + j) = .ok (.iload v, 2) := by
  obtain ⟨h, rfl⟩ := h
  have t : decode c (q + j) = .ok (.iload (a.toNat), q + j + 1 + 1 - (q + j)) := bb_ (u1_r (dr_g hL h (i := 0) (by decide) rfl)) (bc_ (y := .ok (.iload (a.toNat), q + j + 1 + 1)) (cc_ (u1_r (dr_g hL h (i := 1) (by decide) rfl)) rfl) rfl)
  rw [t, Nat.add_assoc (q + j), Nat.add_sub_cancel_left]
theorem dk_22 {c : ByteArray} {L : List UInt8} {q n j : Nat} (hL : (c.data.toList.drop q).take n = L) {a : UInt8} {v : Nat} (h : (L.drop j).take 2 = [22, a] ∧ a.toNat = v) : decode c (q + j) = .ok (.lload v, 2) := by
  obtain ⟨h, rfl⟩ := h
  have t : decode c (q + j) = .ok (.lload (a.toNat), q + j + 1 + 1 - (q + j)) := bb_ (u1_r (dr_g hL h (i := 0) (by decide) rfl)) (bc_ (y := .ok (.lload (a.toNat), q + j + 1 + 1)) (cc_ (u1_r (dr_g hL h (i := 1) (by decide) rfl)) rfl) rfl)
  rw [t, Nat.add_assoc (q + j), Nat.add_sub_cancel_left]
theorem dk_25 {c : ByteArray} {L : List UInt8} {q n j : Nat} (hL : (c.data.toList.drop q).take n = L) {a : UInt8} {v : Nat} (h : (L.drop j).take 2 = [25, a] ∧ a.toNat = v) : decode c (q + j) = .ok (.aload v, 2) := by
  obtain ⟨h, rfl⟩ := h
  have t : decode c (q + j) = .ok (.aload (a.toNat), q + j + 1 + 1 - (q + j)) := bb_ (u1_r (dr_g hL h (i := 0) (by decide) rfl)) (bc_ (y := .ok (.aload (a.toNat), q + j + 1 + 1)) (cc_ (u1_r (dr_g hL h (i := 1) (by decide) rfl)) rfl) rfl)
  rw [t, Nat.add_assoc (q + j), Nat.add_sub_cancel_left]
theorem dk_26 {c : ByteArray} {L : List UInt8} {q n j : Nat} (hL : (c.data.toList.drop q).take n = L) (h : (L.drop j).take 1 = [26]) : decode c (q + j) = .ok (.iload_n 0, 1) := by
  have t : decode c (q + j) = .ok (.iload_n 0, q + j + 1 - (q + j)) := bb_ (u1_r (dr_g hL h (i := 0) (by decide) rfl)) rfl
  rw [t, Nat.add_sub_cancel_left]
theorem dk_27 {c : ByteArray} {L : List UInt8} {q n j : Nat} (hL : (c.data.toList.drop q).take n = L) (h : (L.drop j).take 1 = [27]) : decode c (q + j) = .ok (.iload_n 1, 1) := by
  have t : decode c (q + j) = .ok (.iload_n 1, q + j + 1 - (q + j)) := bb_ (u1_r (dr_g hL h (i := 0) (by decide) rfl)) rfl
  rw [t, Nat.add_sub_cancel_left]
theorem dk_28 {c : ByteArray} {L : List UInt8} {q n j : Nat} (hL : (c.data.toList.drop q).take n = L) (h : (L.drop j).take 1 = [28]) : decode c (q + j) = .ok (.iload_n 2, 1) := by
  have t : decode c (q + j) = .ok (.iload_n 2, q + j + 1 - (q + j)) := bb_ (u1_r (dr_g hL h (i := 0) (by decide) rfl)) rfl
  rw [t, Nat.add_sub_cancel_left]
theorem dk_29 {c : ByteArray} {L : List UInt8} {q n j : Nat} (hL : (c.data.toList.drop q).take n = L) (h : (L.drop j).take 1 = [29]) : decode c (q + j) = .ok (.iload_n 3, 1) := by
  have t : decode c (q + j) = .ok (.iload_n 3, q + j + 1 - (q + j)) := bb_ (u1_r (dr_g hL h (i := 0) (by decide) rfl)) rfl
  rw [t, Nat.add_sub_cancel_left]
theorem dk_30 {c : ByteArray} {L : List UInt8} {q n j : Nat} (hL : (c.data.toList.drop q).take n = L) (h : (L.drop j).take 1 = [30]) : decode c (q + j) = .ok (.lload_n 0, 1) := by
  have t : decode c (q + j) = .ok (.lload_n 0, q + j + 1 - (q + j)) := bb_ (u1_r (dr_g hL h (i := 0) (by decide) rfl)) rfl
  rw [t, Nat.add_sub_cancel_left]
theorem dk_31 {c : ByteArray} {L : List UInt8} {q n j : Nat} (hL : (c.data.toList.drop q).take n = L) (h : (L.drop j).take 1 = [31]) : decode c (q + j) = .ok (.lload_n 1, 1) := by
  have t : decode c (q + j) = .ok (.lload_n 1, q + j + 1 - (q + j)) := bb_ (u1_r (dr_g hL h (i := 0) (by decide) rfl)) rfl
  rw [t, Nat.add_sub_cancel_left]
theorem dk_32 {c : ByteArray} {L : List UInt8} {q n j : Nat} (hL : (c.data.toList.drop q).take n = L) (h : (L.drop j).take 1 = [32]) : decode c (q + j) = .ok (.lload_n 2, 1) := by
  have t : decode c (q + j) = .ok (.lload_n 2, q + j + 1 - (q + j)) := bb_ (u1_r (dr_g hL h (i := 0) (by decide) rfl)) rfl
  rw [t, Nat.add_sub_cancel_left]
theorem dk_42 {c : ByteArray} {L : List UInt8} {q n j : Nat} (hL : (c.data.toList.drop q).take n = L) (h : (L.drop j).take 1 = [42]) : decode c (q + j) = .ok (.aload_n 0, 1) := by
  have t : decode c (q + j) = .ok (.aload_n 0, q + j + 1 - (q + j)) := bb_ (u1_r (dr_g hL h (i := 0) (by decide) rfl)) rfl
  rw [t, Nat.add_sub_cancel_left]
theorem dk_43 {c : ByteArray} {L : List UInt8} {q n j : Nat} (hL : (c.data.toList.drop q).take n = L) (h : (L.drop j).take 1 = [43]) : decode c (q + j) = .ok (.aload_n 1, 1) := by
  have t : decode c (q + j) = .ok (.aload_n 1, q + j + 1 - (q + j)) := bb_ (u1_r (dr_g hL h (i := 0) (by decide) rfl)) rfl
  rw [t, Nat.add_sub_cancel_left]
theorem dk_44 {c : ByteArray} {L : List UInt8} {q n j : Nat} (hL : (c.data.toList.drop q).take n = L) (h : (L.drop j).take 1 = [44]) : decode c (q + j) = .ok (.aload_n 2, 1) := by
  have t : decode c (q + j) = .ok (.aload_n 2, q + j + 1 - (q + j)) := bb_ (u1_r (dr_g hL h (i := 0) (by decide) rfl)) rfl
  rw [t, Nat.add_sub_cancel_left]
theorem dk_45 {c : ByteArray} {L : List UInt8} {q n j : Nat} (hL : (c.data.toList.drop q).take n = L) (h : (L.drop j).take 1 = [45]) : decode c (q + j) = .ok (.aload_n 3, 1) := by
  have t : decode c (q + j) = .ok (.aload_n 3, q + j + 1 - (q + j)) := bb_ (u1_r (dr_g hL h (i := 0) (by decide) rfl)) rfl
  rw [t, Nat.add_sub_cancel_left]
theorem dk_46 {c : ByteArray} {L : List UInt8} {q n j : Nat} (hL : (c.data.toList.drop q).take n = L) (h : (L.drop j).take 1 = [46]) : decode c (q + j) = .ok (.iaload, 1) := by
  have t : decode c (q + j) = .ok (.iaload, q + j + 1 - (q + j)) := bb_ (u1_r (dr_g hL h (i := 0) (by decide) rfl)) rfl
  rw [t, Nat.add_sub_cancel_left]
theorem dk_50 {c : ByteArray} {L : List UInt8} {q n j : Nat} (hL : (c.data.toList.drop q).take n = L) (h : (L.drop j).take 1 = [50]) : decode c (q + j) = .ok (.aaload, 1) := by
  have t : decode c (q + j) = .ok (.aaload, q + j + 1 - (q + j)) := bb_ (u1_r (dr_g hL h (i := 0) (by decide) rfl)) rfl
  rw [t, Nat.add_sub_cancel_left]
theorem dk_51 {c : ByteArray} {L : List UInt8} {q n j : Nat} (hL : (c.data.toList.drop q).take n = L) (h : (L.drop j).take 1 = [51]) : decode c (q + j) = .ok (.baload, 1) := by
  have t : decode c (q + j) = .ok (.baload, q + j + 1 - (q + j)) := bb_ (u1_r (dr_g hL h (i := 0) (by decide) rfl)) rfl
  rw [t, Nat.add_sub_cancel_left]
theorem dk_54 {c : ByteArray} {L : List UInt8} {q n j : Nat} (hL : (c.data.toList.drop q).take n = L) {a : UInt8} {v : Nat} (h : (L.drop j).take 2 = [54, a] ∧ a.toNat = v) : decode c (q + j) = .ok (.istore v, 2) := by
  obtain ⟨h, rfl⟩ := h
  have t : decode c (q + j) = .ok (.istore (a.toNat), q + j + 1 + 1 - (q + j)) := bb_ (u1_r (dr_g hL h (i := 0) (by decide) rfl)) (bc_ (y := .ok (.istore (a.toNat), q + j + 1 + 1)) (cc_ (u1_r (dr_g hL h (i := 1) (by decide) rfl)) rfl) rfl)
  rw [t, Nat.add_assoc (q + j), Nat.add_sub_cancel_left]
theorem dk_55 {c : ByteArray} {L : List UInt8} {q n j : Nat} (hL : (c.data.toList.drop q).take n = L) {a : UInt8} {v : Nat} (h : (L.drop j).take 2 = [55, a] ∧ a.toNat = v) : decode c (q + j) = .ok (.lstore v, 2) := by
  obtain ⟨h, rfl⟩ := h
  have t : decode c (q + j) = .ok (.lstore (a.toNat), q + j + 1 + 1 - (q + j)) := bb_ (u1_r (dr_g hL h (i := 0) (by decide) rfl)) (bc_ (y := .ok (.lstore (a.toNat), q + j + 1 + 1)) (cc_ (u1_r (dr_g hL h (i := 1) (by decide) rfl)) rfl) rfl)
  rw [t, Nat.add_assoc (q + j), Nat.add_sub_cancel_left]
theorem dk_58 {c : ByteArray} {L : List UInt8} {q n j : Nat} (hL : (c.data.toList.drop q).take n = L) {a : UInt8} {v : Nat} (h : (L.drop j).take 2 = [58, a] ∧ a.toNat = v) : decode c (q + j) = .ok (.astore v, 2) := by
  obtain ⟨h, rfl⟩ := h
  have t : decode c (q + j) = .ok (.astore (a.toNat), q + j + 1 + 1 - (q + j)) := bb_ (u1_r (dr_g hL h (i := 0) (by decide) rfl)) (bc_ (y := .ok (.astore (a.toNat), q + j + 1 + 1)) (cc_ (u1_r (dr_g hL h (i := 1) (by decide) rfl)) rfl) rfl)
  rw [t, Nat.add_assoc (q + j), Nat.add_sub_cancel_left]
theorem dk_59 {c : ByteArray} {L : List UInt8} {q n j : Nat} (hL : (c.data.toList.drop q).take n = L) (h : (L.drop j).take 1 = [59]) : decode c (q + j) = .ok (.istore_n 0, 1) := by
  have t : decode c (q + j) = .ok (.istore_n 0, q + j + 1 - (q + j)) := bb_ (u1_r (dr_g hL h (i := 0) (by decide) rfl)) rfl
  rw [t, Nat.add_sub_cancel_left]
theorem dk_60 {c : ByteArray} {L : List UInt8} {q n j : Nat} (hL : (c.data.toList.drop q).take n = L) (h : (L.drop j).take 1 = [60]) : decode c (q + j) = .ok (.istore_n 1, 1) := by
  have t : decode c (q + j) = .ok (.istore_n 1, q + j + 1 - (q + j)) := bb_ (u1_r (dr_g hL h (i := 0) (by decide) rfl)) rfl
  rw [t, Nat.add_sub_cancel_left]
theorem dk_61 {c : ByteArray} {L : List UInt8} {q n j : Nat} (hL : (c.data.toList.drop q).take n = L) (h : (L.drop j).take 1 = [61]) : decode c (q + j) = .ok (.istore_n 2, 1) := by
  have t : decode c (q + j) = .ok (.istore_n 2, q + j + 1 - (q + j)) := bb_ (u1_r (dr_g hL h (i := 0) (by decide) rfl)) rfl
  rw [t, Nat.add_sub_cancel_left]
theorem dk_62 {c : ByteArray} {L : List UInt8} {q n j : Nat} (hL : (c.data.toList.drop q).take n = L) (h : (L.drop j).take 1 = [62]) : decode c (q + j) = .ok (.istore_n 3, 1) := by
  have t : decode c (q + j) = .ok (.istore_n 3, q + j + 1 - (q + j)) := bb_ (u1_r (dr_g hL h (i := 0) (by decide) rfl)) rfl
  rw [t, Nat.add_sub_cancel_left]
theorem dk_76 {c : ByteArray} {L : List UInt8} {q n j : Nat} (hL : (c.data.toList.drop q).take n = L) (h : (L.drop j).take 1 = [76]) : decode c (q + j) = .ok (.astore_n 1, 1) := by
  have t : decode c (q + j) = .ok (.astore_n 1, q + j + 1 - (q + j)) := bb_ (u1_r (dr_g hL h (i := 0) (by decide) rfl)) rfl
  rw [t, Nat.add_sub_cancel_left]
theorem dk_77 {c : ByteArray} {L : List UInt8} {q n j : Nat} (hL : (c.data.toList.drop q).take n = L) (h : (L.drop j).take 1 = [77]) : decode c (q + j) = .ok (.astore_n 2, 1) := by
  have t : decode c (q + j) = .ok (.astore_n 2, q + j + 1 - (q + j)) := bb_ (u1_r (dr_g hL h (i := 0) (by decide) rfl)) rfl
  rw [t, Nat.add_sub_cancel_left]
theorem dk_78 {c : ByteArray} {L : List UInt8} {q n j : Nat} (hL : (c.data.toList.drop q).take n = L) (h : (L.drop j).take 1 = [78]) : decode c (q + j) = .ok (.astore_n 3, 1) := by
  have t : decode c (q + j) = .ok (.astore_n 3, q + j + 1 - (q + j)) := bb_ (u1_r (dr_g hL h (i := 0) (by decide) rfl)) rfl
  rw [t, Nat.add_sub_cancel_left]
theorem dk_79 {c : ByteArray} {L : List UInt8} {q n j : Nat} (hL : (c.data.toList.drop q).take n = L) (h : (L.drop j).take 1 = [79]) : decode c (q + j) = .ok (.iastore, 1) := by
  have t : decode c (q + j) = .ok (.iastore, q + j + 1 - (q + j)) := bb_ (u1_r (dr_g hL h (i := 0) (by decide) rfl)) rfl
  rw [t, Nat.add_sub_cancel_left]
theorem dk_83 {c : ByteArray} {L : List UInt8} {q n j : Nat} (hL : (c.data.toList.drop q).take n = L) (h : (L.drop j).take 1 = [83]) : decode c (q + j) = .ok (.aastore, 1) := by
  have t : decode c (q + j) = .ok (.aastore, q + j + 1 - (q + j)) := bb_ (u1_r (dr_g hL h (i := 0) (by decide) rfl)) rfl
  rw [t, Nat.add_sub_cancel_left]
theorem dk_84 {c : ByteArray} {L : List UInt8} {q n j : Nat} (hL : (c.data.toList.drop q).take n = L) (h : (L.drop j).take 1 = [84]) : decode c (q + j) = .ok (.bastore, 1) := by
  have t : decode c (q + j) = .ok (.bastore, q + j + 1 - (q + j)) := bb_ (u1_r (dr_g hL h (i := 0) (by decide) rfl)) rfl
  rw [t, Nat.add_sub_cancel_left]
theorem dk_87 {c : ByteArray} {L : List UInt8} {q n j : Nat} (hL : (c.data.toList.drop q).take n = L) (h : (L.drop j).take 1 = [87]) : decode c (q + j) = .ok (.pop, 1) := by
  have t : decode c (q + j) = .ok (.pop, q + j + 1 - (q + j)) := bb_ (u1_r (dr_g hL h (i := 0) (by decide) rfl)) rfl
  rw [t, Nat.add_sub_cancel_left]
theorem dk_88 {c : ByteArray} {L : List UInt8} {q n j : Nat} (hL : (c.data.toList.drop q).take n = L) (h : (L.drop j).take 1 = [88]) : decode c (q + j) = .ok (.pop2, 1) := by
  have t : decode c (q + j) = .ok (.pop2, q + j + 1 - (q + j)) := bb_ (u1_r (dr_g hL h (i := 0) (by decide) rfl)) rfl
  rw [t, Nat.add_sub_cancel_left]
theorem dk_89 {c : ByteArray} {L : List UInt8} {q n j : Nat} (hL : (c.data.toList.drop q).take n = L) (h : (L.drop j).take 1 = [89]) : decode c (q + j) = .ok (.dup, 1) := by
  have t : decode c (q + j) = .ok (.dup, q + j + 1 - (q + j)) := bb_ (u1_r (dr_g hL h (i := 0) (by decide) rfl)) rfl
  rw [t, Nat.add_sub_cancel_left]
theorem dk_92 {c : ByteArray} {L : List UInt8} {q n j : Nat} (hL : (c.data.toList.drop q).take n = L) (h : (L.drop j).take 1 = [92]) : decode c (q + j) = .ok (.dup2, 1) := by
  have t : decode c (q + j) = .ok (.dup2, q + j + 1 - (q + j)) := bb_ (u1_r (dr_g hL h (i := 0) (by decide) rfl)) rfl
  rw [t, Nat.add_sub_cancel_left]
theorem dk_96 {c : ByteArray} {L : List UInt8} {q n j : Nat} (hL : (c.data.toList.drop q).take n = L) (h : (L.drop j).take 1 = [96]) : decode c (q + j) = .ok (.iadd, 1) := by
  have t : decode c (q + j) = .ok (.iadd, q + j + 1 - (q + j)) := bb_ (u1_r (dr_g hL h (i := 0) (by decide) rfl)) rfl
  rw [t, Nat.add_sub_cancel_left]
theorem dk_97 {c : ByteArray} {L : List UInt8} {q n j : Nat} (hL : (c.data.toList.drop q).take n = L) (h : (L.drop j).take 1 = [97]) : decode c (q + j) = .ok (.ladd, 1) := by
  have t : decode c (q + j) = .ok (.ladd, q + j + 1 - (q + j)) := bb_ (u1_r (dr_g hL h (i := 0) (by decide) rfl)) rfl
  rw [t, Nat.add_sub_cancel_left]
theorem dk_100 {c : ByteArray} {L : List UInt8} {q n j : Nat} (hL : (c.data.toList.drop q).take n = L) (h : (L.drop j).take 1 = [100]) : decode c (q + j) = .ok (.isub, 1) := by
  have t : decode c (q + j) = .ok (.isub, q + j + 1 - (q + j)) := bb_ (u1_r (dr_g hL h (i := 0) (by decide) rfl)) rfl
  rw [t, Nat.add_sub_cancel_left]
theorem dk_104 {c : ByteArray} {L : List UInt8} {q n j : Nat} (hL : (c.data.toList.drop q).take n = L) (h : (L.drop j).take 1 = [104]) : decode c (q + j) = .ok (.imul, 1) := by
  have t : decode c (q + j) = .ok (.imul, q + j + 1 - (q + j)) := bb_ (u1_r (dr_g hL h (i := 0) (by decide) rfl)) rfl
  rw [t, Nat.add_sub_cancel_left]
theorem dk_105 {c : ByteArray} {L : List UInt8} {q n j : Nat} (hL : (c.data.toList.drop q).take n = L) (h : (L.drop j).take 1 = [105]) : decode c (q + j) = .ok (.lmul, 1) := by
  have t : decode c (q + j) = .ok (.lmul, q + j + 1 - (q + j)) := bb_ (u1_r (dr_g hL h (i := 0) (by decide) rfl)) rfl
  rw [t, Nat.add_sub_cancel_left]
theorem dk_108 {c : ByteArray} {L : List UInt8} {q n j : Nat} (hL : (c.data.toList.drop q).take n = L) (h : (L.drop j).take 1 = [108]) : decode c (q + j) = .ok (.idiv, 1) := by
  have t : decode c (q + j) = .ok (.idiv, q + j + 1 - (q + j)) := bb_ (u1_r (dr_g hL h (i := 0) (by decide) rfl)) rfl
  rw [t, Nat.add_sub_cancel_left]
theorem dk_109 {c : ByteArray} {L : List UInt8} {q n j : Nat} (hL : (c.data.toList.drop q).take n = L) (h : (L.drop j).take 1 = [109]) : decode c (q + j) = .ok (.ldiv, 1) := by
  have t : decode c (q + j) = .ok (.ldiv, q + j + 1 - (q + j)) := bb_ (u1_r (dr_g hL h (i := 0) (by decide) rfl)) rfl
  rw [t, Nat.add_sub_cancel_left]
theorem dk_112 {c : ByteArray} {L : List UInt8} {q n j : Nat} (hL : (c.data.toList.drop q).take n = L) (h : (L.drop j).take 1 = [112]) : decode c (q + j) = .ok (.irem, 1) := by
  have t : decode c (q + j) = .ok (.irem, q + j + 1 - (q + j)) := bb_ (u1_r (dr_g hL h (i := 0) (by decide) rfl)) rfl
  rw [t, Nat.add_sub_cancel_left]
theorem dk_113 {c : ByteArray} {L : List UInt8} {q n j : Nat} (hL : (c.data.toList.drop q).take n = L) (h : (L.drop j).take 1 = [113]) : decode c (q + j) = .ok (.lrem, 1) := by
  have t : decode c (q + j) = .ok (.lrem, q + j + 1 - (q + j)) := bb_ (u1_r (dr_g hL h (i := 0) (by decide) rfl)) rfl
  rw [t, Nat.add_sub_cancel_left]
theorem dk_116 {c : ByteArray} {L : List UInt8} {q n j : Nat} (hL : (c.data.toList.drop q).take n = L) (h : (L.drop j).take 1 = [116]) : decode c (q + j) = .ok (.ineg, 1) := by
  have t : decode c (q + j) = .ok (.ineg, q + j + 1 - (q + j)) := bb_ (u1_r (dr_g hL h (i := 0) (by decide) rfl)) rfl
  rw [t, Nat.add_sub_cancel_left]
theorem dk_120 {c : ByteArray} {L : List UInt8} {q n j : Nat} (hL : (c.data.toList.drop q).take n = L) (h : (L.drop j).take 1 = [120]) : decode c (q + j) = .ok (.ishl, 1) := by
  have t : decode c (q + j) = .ok (.ishl, q + j + 1 - (q + j)) := bb_ (u1_r (dr_g hL h (i := 0) (by decide) rfl)) rfl
  rw [t, Nat.add_sub_cancel_left]
theorem dk_122 {c : ByteArray} {L : List UInt8} {q n j : Nat} (hL : (c.data.toList.drop q).take n = L) (h : (L.drop j).take 1 = [122]) : decode c (q + j) = .ok (.ishr, 1) := by
  have t : decode c (q + j) = .ok (.ishr, q + j + 1 - (q + j)) := bb_ (u1_r (dr_g hL h (i := 0) (by decide) rfl)) rfl
  rw [t, Nat.add_sub_cancel_left]
theorem dk_124 {c : ByteArray} {L : List UInt8} {q n j : Nat} (hL : (c.data.toList.drop q).take n = L) (h : (L.drop j).take 1 = [124]) : decode c (q + j) = .ok (.iushr, 1) := by
  have t : decode c (q + j) = .ok (.iushr, q + j + 1 - (q + j)) := bb_ (u1_r (dr_g hL h (i := 0) (by decide) rfl)) rfl
  rw [t, Nat.add_sub_cancel_left]
theorem dk_126 {c : ByteArray} {L : List UInt8} {q n j : Nat} (hL : (c.data.toList.drop q).take n = L) (h : (L.drop j).take 1 = [126]) : decode c (q + j) = .ok (.iand, 1) := by
  have t : decode c (q + j) = .ok (.iand, q + j + 1 - (q + j)) := bb_ (u1_r (dr_g hL h (i := 0) (by decide) rfl)) rfl
  rw [t, Nat.add_sub_cancel_left]
theorem dk_128 {c : ByteArray} {L : List UInt8} {q n j : Nat} (hL : (c.data.toList.drop q).take n = L) (h : (L.drop j).take 1 = [128]) : decode c (q + j) = .ok (.ior, 1) := by
  have t : decode c (q + j) = .ok (.ior, q + j + 1 - (q + j)) := bb_ (u1_r (dr_g hL h (i := 0) (by decide) rfl)) rfl
  rw [t, Nat.add_sub_cancel_left]
theorem dk_130 {c : ByteArray} {L : List UInt8} {q n j : Nat} (hL : (c.data.toList.drop q).take n = L) (h : (L.drop j).take 1 = [130]) : decode c (q + j) = .ok (.ixor, 1) := by
  have t : decode c (q + j) = .ok (.ixor, q + j + 1 - (q + j)) := bb_ (u1_r (dr_g hL h (i := 0) (by decide) rfl)) rfl
  rw [t, Nat.add_sub_cancel_left]
theorem dk_133 {c : ByteArray} {L : List UInt8} {q n j : Nat} (hL : (c.data.toList.drop q).take n = L) (h : (L.drop j).take 1 = [133]) : decode c (q + j) = .ok (.i2l, 1) := by
  have t : decode c (q + j) = .ok (.i2l, q + j + 1 - (q + j)) := bb_ (u1_r (dr_g hL h (i := 0) (by decide) rfl)) rfl
  rw [t, Nat.add_sub_cancel_left]
theorem dk_145 {c : ByteArray} {L : List UInt8} {q n j : Nat} (hL : (c.data.toList.drop q).take n = L) (h : (L.drop j).take 1 = [145]) : decode c (q + j) = .ok (.i2b, 1) := by
  have t : decode c (q + j) = .ok (.i2b, q + j + 1 - (q + j)) := bb_ (u1_r (dr_g hL h (i := 0) (by decide) rfl)) rfl
  rw [t, Nat.add_sub_cancel_left]
theorem dk_146 {c : ByteArray} {L : List UInt8} {q n j : Nat} (hL : (c.data.toList.drop q).take n = L) (h : (L.drop j).take 1 = [146]) : decode c (q + j) = .ok (.i2c, 1) := by
  have t : decode c (q + j) = .ok (.i2c, q + j + 1 - (q + j)) := bb_ (u1_r (dr_g hL h (i := 0) (by decide) rfl)) rfl
  rw [t, Nat.add_sub_cancel_left]
theorem dk_147 {c : ByteArray} {L : List UInt8} {q n j : Nat} (hL : (c.data.toList.drop q).take n = L) (h : (L.drop j).take 1 = [147]) : decode c (q + j) = .ok (.i2s, 1) := by
  have t : decode c (q + j) = .ok (.i2s, q + j + 1 - (q + j)) := bb_ (u1_r (dr_g hL h (i := 0) (by decide) rfl)) rfl
  rw [t, Nat.add_sub_cancel_left]
theorem dk_148 {c : ByteArray} {L : List UInt8} {q n j : Nat} (hL : (c.data.toList.drop q).take n = L) (h : (L.drop j).take 1 = [148]) : decode c (q + j) = .ok (.lcmp, 1) := by
  have t : decode c (q + j) = .ok (.lcmp, q + j + 1 - (q + j)) := bb_ (u1_r (dr_g hL h (i := 0) (by decide) rfl)) rfl
  rw [t, Nat.add_sub_cancel_left]
theorem dk_153 {c : ByteArray} {L : List UInt8} {q n j : Nat} (hL : (c.data.toList.drop q).take n = L) {a b : UInt8} {v : Int} (h : (L.drop j).take 3 = [153, a, b] ∧ Jvm.ClassFile.Reader.signed 16 (a.toNat * 256 + b.toNat) = v) : decode c (q + j) = .ok (.ifCond .eq v, 3) := by
  obtain ⟨h, rfl⟩ := h
  have t : decode c (q + j) = .ok (.ifCond .eq (Jvm.ClassFile.Reader.signed 16 (a.toNat * 256 + b.toNat)), q + j + 1 + 2 - (q + j)) := bb_ (u1_r (dr_g hL h (i := 0) (by decide) rfl)) (bc_ (y := .ok (.ifCond .eq (Jvm.ClassFile.Reader.signed 16 (a.toNat * 256 + b.toNat)), q + j + 1 + 2)) (cc_ (s2_r (dr_g hL h (i := 1) (by decide) rfl) (dr_g hL h (i := 2) (by decide) rfl)) rfl) rfl)
  rw [t, Nat.add_assoc (q + j), Nat.add_sub_cancel_left]
theorem dk_154 {c : ByteArray} {L : List UInt8} {q n j : Nat} (hL : (c.data.toList.drop q).take n = L) {a b : UInt8} {v : Int} (h : (L.drop j).take 3 = [154, a, b] ∧ Jvm.ClassFile.Reader.signed 16 (a.toNat * 256 + b.toNat) = v) : decode c (q + j) = .ok (.ifCond .ne v, 3) := by
  obtain ⟨h, rfl⟩ := h
  have t : decode c (q + j) = .ok (.ifCond .ne (Jvm.ClassFile.Reader.signed 16 (a.toNat * 256 + b.toNat)), q + j + 1 + 2 - (q + j)) := bb_ (u1_r (dr_g hL h (i := 0) (by decide) rfl)) (bc_ (y := .ok (.ifCond .ne (Jvm.ClassFile.Reader.signed 16 (a.toNat * 256 + b.toNat)), q + j + 1 + 2)) (cc_ (s2_r (dr_g hL h (i := 1) (by decide) rfl) (dr_g hL h (i := 2) (by decide) rfl)) rfl) rfl)
  rw [t, Nat.add_assoc (q + j), Nat.add_sub_cancel_left]
theorem dk_155 {c : ByteArray} {L : List UInt8} {q n j : Nat} (hL : (c.data.toList.drop q).take n = L) {a b : UInt8} {v : Int} (h : (L.drop j).take 3 = [155, a, b] ∧ Jvm.ClassFile.Reader.signed 16 (a.toNat * 256 + b.toNat) = v) : decode c (q + j) = .ok (.ifCond .lt v, 3) := by
  obtain ⟨h, rfl⟩ := h
  have t : decode c (q + j) = .ok (.ifCond .lt (Jvm.ClassFile.Reader.signed 16 (a.toNat * 256 + b.toNat)), q + j + 1 + 2 - (q + j)) := bb_ (u1_r (dr_g hL h (i := 0) (by decide) rfl)) (bc_ (y := .ok (.ifCond .lt (Jvm.ClassFile.Reader.signed 16 (a.toNat * 256 + b.toNat)), q + j + 1 + 2)) (cc_ (s2_r (dr_g hL h (i := 1) (by decide) rfl) (dr_g hL h (i := 2) (by decide) rfl)) rfl) rfl)
  rw [t, Nat.add_assoc (q + j), Nat.add_sub_cancel_left]
theorem dk_156 {c : ByteArray} {L : List UInt8} {q n j : Nat} (hL : (c.data.toList.drop q).take n = L) {a b : UInt8} {v : Int} (h : (L.drop j).take 3 = [156, a, b] ∧ Jvm.ClassFile.Reader.signed 16 (a.toNat * 256 + b.toNat) = v) : decode c (q + j) = .ok (.ifCond .ge v, 3) := by
  obtain ⟨h, rfl⟩ := h
  have t : decode c (q + j) = .ok (.ifCond .ge (Jvm.ClassFile.Reader.signed 16 (a.toNat * 256 + b.toNat)), q + j + 1 + 2 - (q + j)) := bb_ (u1_r (dr_g hL h (i := 0) (by decide) rfl)) (bc_ (y := .ok (.ifCond .ge (Jvm.ClassFile.Reader.signed 16 (a.toNat * 256 + b.toNat)), q + j + 1 + 2)) (cc_ (s2_r (dr_g hL h (i := 1) (by decide) rfl) (dr_g hL h (i := 2) (by decide) rfl)) rfl) rfl)
  rw [t, Nat.add_assoc (q + j), Nat.add_sub_cancel_left]
theorem dk_157 {c : ByteArray} {L : List UInt8} {q n j : Nat} (hL : (c.data.toList.drop q).take n = L) {a b : UInt8} {v : Int} (h : (L.drop j).take 3 = [157, a, b] ∧ Jvm.ClassFile.Reader.signed 16 (a.toNat * 256 + b.toNat) = v) : decode c (q + j) = .ok (.ifCond .gt v, 3) := by
  obtain ⟨h, rfl⟩ := h
  have t : decode c (q + j) = .ok (.ifCond .gt (Jvm.ClassFile.Reader.signed 16 (a.toNat * 256 + b.toNat)), q + j + 1 + 2 - (q + j)) := bb_ (u1_r (dr_g hL h (i := 0) (by decide) rfl)) (bc_ (y := .ok (.ifCond .gt (Jvm.ClassFile.Reader.signed 16 (a.toNat * 256 + b.toNat)), q + j + 1 + 2)) (cc_ (s2_r (dr_g hL h (i := 1) (by decide) rfl) (dr_g hL h (i := 2) (by decide) rfl)) rfl) rfl)
  rw [t, Nat.add_assoc (q + j), Nat.add_sub_cancel_left]
theorem dk_158 {c : ByteArray} {L : List UInt8} {q n j : Nat} (hL : (c.data.toList.drop q).take n = L) {a b : UInt8} {v : Int} (h : (L.drop j).take 3 = [158, a, b] ∧ Jvm.ClassFile.Reader.signed 16 (a.toNat * 256 + b.toNat) = v) : decode c (q + j) = .ok (.ifCond .le v, 3) := by
  obtain ⟨h, rfl⟩ := h
  have t : decode c (q + j) = .ok (.ifCond .le (Jvm.ClassFile.Reader.signed 16 (a.toNat * 256 + b.toNat)), q + j + 1 + 2 - (q + j)) := bb_ (u1_r (dr_g hL h (i := 0) (by decide) rfl)) (bc_ (y := .ok (.ifCond .le (Jvm.ClassFile.Reader.signed 16 (a.toNat * 256 + b.toNat)), q + j + 1 + 2)) (cc_ (s2_r (dr_g hL h (i := 1) (by decide) rfl) (dr_g hL h (i := 2) (by decide) rfl)) rfl) rfl)
  rw [t, Nat.add_assoc (q + j), Nat.add_sub_cancel_left]
theorem dk_159 {c : ByteArray} {L : List UInt8} {q n j : Nat} (hL : (c.data.toList.drop q).take n = L) {a b : UInt8} {v : Int} (h : (L.drop j).take 3 = [159, a, b] ∧ Jvm.ClassFile.Reader.signed 16 (a.toNat * 256 + b.toNat) = v) : decode c (q + j) = .ok (.if_icmp .eq v, 3) := by
  obtain ⟨h, rfl⟩ := h
  have t : decode c (q + j) = .ok (.if_icmp .eq (Jvm.ClassFile.Reader.signed 16 (a.toNat * 256 + b.toNat)), q + j + 1 + 2 - (q + j)) := bb_ (u1_r (dr_g hL h (i := 0) (by decide) rfl)) (bc_ (y := .ok (.if_icmp .eq (Jvm.ClassFile.Reader.signed 16 (a.toNat * 256 + b.toNat)), q + j + 1 + 2)) (cc_ (s2_r (dr_g hL h (i := 1) (by decide) rfl) (dr_g hL h (i := 2) (by decide) rfl)) rfl) rfl)
  rw [t, Nat.add_assoc (q + j), Nat.add_sub_cancel_left]
theorem dk_160 {c : ByteArray} {L : List UInt8} {q n j : Nat} (hL : (c.data.toList.drop q).take n = L) {a b : UInt8} {v : Int} (h : (L.drop j).take 3 = [160, a, b] ∧ Jvm.ClassFile.Reader.signed 16 (a.toNat * 256 + b.toNat) = v) : decode c (q + j) = .ok (.if_icmp .ne v, 3) := by
  obtain ⟨h, rfl⟩ := h
  have t : decode c (q + j) = .ok (.if_icmp .ne (Jvm.ClassFile.Reader.signed 16 (a.toNat * 256 + b.toNat)), q + j + 1 + 2 - (q + j)) := bb_ (u1_r (dr_g hL h (i := 0) (by decide) rfl)) (bc_ (y := .ok (.if_icmp .ne (Jvm.ClassFile.Reader.signed 16 (a.toNat * 256 + b.toNat)), q + j + 1 + 2)) (cc_ (s2_r (dr_g hL h (i := 1) (by decide) rfl) (dr_g hL h (i := 2) (by decide) rfl)) rfl) rfl)
  rw [t, Nat.add_assoc (q + j), Nat.add_sub_cancel_left]
theorem dk_161 {c : ByteArray} {L : List UInt8} {q n j : Nat} (hL : (c.data.toList.drop q).take n = L) {a b : UInt8} {v : Int} (h : (L.drop j).take 3 = [161, a, b] ∧ Jvm.ClassFile.Reader.signed 16 (a.toNat * 256 + b.toNat) = v) : decode c (q + j) = .ok (.if_icmp .lt v, 3) := by
  obtain ⟨h, rfl⟩ := h
  have t : decode c (q + j) = .ok (.if_icmp .lt (Jvm.ClassFile.Reader.signed 16 (a.toNat * 256 + b.toNat)), q + j + 1 + 2 - (q + j)) := bb_ (u1_r (dr_g hL h (i := 0) (by decide) rfl)) (bc_ (y := .ok (.if_icmp .lt (Jvm.ClassFile.Reader.signed 16 (a.toNat * 256 + b.toNat)), q + j + 1 + 2)) (cc_ (s2_r (dr_g hL h (i := 1) (by decide) rfl) (dr_g hL h (i := 2) (by decide) rfl)) rfl) rfl)
  rw [t, Nat.add_assoc (q + j), Nat.add_sub_cancel_left]
theorem dk_162 {c : ByteArray} {L : List UInt8} {q n j : Nat} (hL : (c.data.toList.drop q).take n = L) {a b : UInt8} {v : Int} (h : (L.drop j).take 3 = [162, a, b] ∧ Jvm.ClassFile.Reader.signed 16 (a.toNat * 256 + b.toNat) = v) : decode c (q + j) = .ok (.if_icmp .ge v, 3) := by
  obtain ⟨h, rfl⟩ := h
  have t : decode c (q + j) = .ok (.if_icmp .ge (Jvm.ClassFile.Reader.signed 16 (a.toNat * 256 + b.toNat)), q + j + 1 + 2 - (q + j)) := bb_ (u1_r (dr_g hL h (i := 0) (by decide) rfl)) (bc_ (y := .ok (.if_icmp .ge (Jvm.ClassFile.Reader.signed 16 (a.toNat * 256 + b.toNat)), q + j + 1 + 2)) (cc_ (s2_r (dr_g hL h (i := 1) (by decide) rfl) (dr_g hL h (i := 2) (by decide) rfl)) rfl) rfl)
  rw [t, Nat.add_assoc (q + j), Nat.add_sub_cancel_left]
theorem dk_163 {c : ByteArray} {L : List UInt8} {q n j : Nat} (hL : (c.data.toList.drop q).take n = L) {a b : UInt8} {v : Int} (h : (L.drop j).take 3 = [163, a, b] ∧ Jvm.ClassFile.Reader.signed 16 (a.toNat * 256 + b.toNat) = v) : decode c (q + j) = .ok (.if_icmp .gt v, 3) := by
  obtain ⟨h, rfl⟩ := h
  have t : decode c (q + j) = .ok (.if_icmp .gt (Jvm.ClassFile.Reader.signed 16 (a.toNat * 256 + b.toNat)), q + j + 1 + 2 - (q + j)) := bb_ (u1_r (dr_g hL h (i := 0) (by decide) rfl)) (bc_ (y := .ok (.if_icmp .gt (Jvm.ClassFile.Reader.signed 16 (a.toNat * 256 + b.toNat)), q + j + 1 + 2)) (cc_ (s2_r (dr_g hL h (i := 1) (by decide) rfl) (dr_g hL h (i := 2) (by decide) rfl)) rfl) rfl)
  rw [t, Nat.add_assoc (q + j), Nat.add_sub_cancel_left]
theorem dk_164 {c : ByteArray} {L : List UInt8} {q n j : Nat} (hL : (c.data.toList.drop q).take n = L) {a b : UInt8} {v : Int} (h : (L.drop j).take 3 = [164, a, b] ∧ Jvm.ClassFile.Reader.signed 16 (a.toNat * 256 + b.toNat) = v) : decode c (q + j) = .ok (.if_icmp .le v, 3) := by
  obtain ⟨h, rfl⟩ := h
  have t : decode c (q + j) = .ok (.if_icmp .le (Jvm.ClassFile.Reader.signed 16 (a.toNat * 256 + b.toNat)), q + j + 1 + 2 - (q + j)) := bb_ (u1_r (dr_g hL h (i := 0) (by decide) rfl)) (bc_ (y := .ok (.if_icmp .le (Jvm.ClassFile.Reader.signed 16 (a.toNat * 256 + b.toNat)), q + j + 1 + 2)) (cc_ (s2_r (dr_g hL h (i := 1) (by decide) rfl) (dr_g hL h (i := 2) (by decide) rfl)) rfl) rfl)
  rw [t, Nat.add_assoc (q + j), Nat.add_sub_cancel_left]
theorem dk_167 {c : ByteArray} {L : List UInt8} {q n j : Nat} (hL : (c.data.toList.drop q).take n = L) {a b : UInt8} {v : Int} (h : (L.drop j).take 3 = [167, a, b] ∧ Jvm.ClassFile.Reader.signed 16 (a.toNat * 256 + b.toNat) = v) : decode c (q + j) = .ok (.goto v, 3) := by
  obtain ⟨h, rfl⟩ := h
  have t : decode c (q + j) = .ok (.goto (Jvm.ClassFile.Reader.signed 16 (a.toNat * 256 + b.toNat)), q + j + 1 + 2 - (q + j)) := bb_ (u1_r (dr_g hL h (i := 0) (by decide) rfl)) (bc_ (y := .ok (.goto (Jvm.ClassFile.Reader.signed 16 (a.toNat * 256 + b.toNat)), q + j + 1 + 2)) (cc_ (s2_r (dr_g hL h (i := 1) (by decide) rfl) (dr_g hL h (i := 2) (by decide) rfl)) rfl) rfl)
  rw [t, Nat.add_assoc (q + j), Nat.add_sub_cancel_left]
theorem dk_172 {c : ByteArray} {L : List UInt8} {q n j : Nat} (hL : (c.data.toList.drop q).take n = L) (h : (L.drop j).take 1 = [172]) : decode c (q + j) = .ok (.ireturn, 1) := by
  have t : decode c (q + j) = .ok (.ireturn, q + j + 1 - (q + j)) := bb_ (u1_r (dr_g hL h (i := 0) (by decide) rfl)) rfl
  rw [t, Nat.add_sub_cancel_left]
theorem dk_173 {c : ByteArray} {L : List UInt8} {q n j : Nat} (hL : (c.data.toList.drop q).take n = L) (h : (L.drop j).take 1 = [173]) : decode c (q + j) = .ok (.lreturn, 1) := by
  have t : decode c (q + j) = .ok (.lreturn, q + j + 1 - (q + j)) := bb_ (u1_r (dr_g hL h (i := 0) (by decide) rfl)) rfl
  rw [t, Nat.add_sub_cancel_left]
theorem dk_177 {c : ByteArray} {L : List UInt8} {q n j : Nat} (hL : (c.data.toList.drop q).take n = L) (h : (L.drop j).take 1 = [177]) : decode c (q + j) = .ok (.return_, 1) := by
  have t : decode c (q + j) = .ok (.return_, q + j + 1 - (q + j)) := bb_ (u1_r (dr_g hL h (i := 0) (by decide) rfl)) rfl
  rw [t, Nat.add_sub_cancel_left]
theorem dk_178 {c : ByteArray} {L : List UInt8} {q n j : Nat} (hL : (c.data.toList.drop q).take n = L) {a b : UInt8} {v : Nat} (h : (L.drop j).take 3 = [178, a, b] ∧ a.toNat * 256 + b.toNat = v) : decode c (q + j) = .ok (.getstatic v, 3) := by
  obtain ⟨h, rfl⟩ := h
  have t : decode c (q + j) = .ok (.getstatic (a.toNat * 256 + b.toNat), q + j + 1 + 2 - (q + j)) := bb_ (u1_r (dr_g hL h (i := 0) (by decide) rfl)) (bc_ (y := .ok (.getstatic (a.toNat * 256 + b.toNat), q + j + 1 + 2)) (cc_ (u2_r (dr_g hL h (i := 1) (by decide) rfl) (dr_g hL h (i := 2) (by decide) rfl)) rfl) rfl)
  rw [t, Nat.add_assoc (q + j), Nat.add_sub_cancel_left]
theorem dk_180 {c : ByteArray} {L : List UInt8} {q n j : Nat} (hL : (c.data.toList.drop q).take n = L) {a b : UInt8} {v : Nat} (h : (L.drop j).take 3 = [180, a, b] ∧ a.toNat * 256 + b.toNat = v) : decode c (q + j) = .ok (.getfield v, 3) := by
  obtain ⟨h, rfl⟩ := h
  have t : decode c (q + j) = .ok (.getfield (a.toNat * 256 + b.toNat), q + j + 1 + 2 - (q + j)) := bb_ (u1_r (dr_g hL h (i := 0) (by decide) rfl)) (bc_ (y := .ok (.getfield (a.toNat * 256 + b.toNat), q + j + 1 + 2)) (cc_ (u2_r (dr_g hL h (i := 1) (by decide) rfl) (dr_g hL h (i := 2) (by decide) rfl)) rfl) rfl)
  rw [t, Nat.add_assoc (q + j), Nat.add_sub_cancel_left]
theorem dk_181 {c : ByteArray} {L : List UInt8} {q n j : Nat} (hL : (c.data.toList.drop q).take n = L) {a b : UInt8} {v : Nat} (h : (L.drop j).take 3 = [181, a, b] ∧ a.toNat * 256 + b.toNat = v) : decode c (q + j) = .ok (.putfield v, 3) := by
  obtain ⟨h, rfl⟩ := h
  have t : decode c (q + j) = .ok (.putfield (a.toNat * 256 + b.toNat), q + j + 1 + 2 - (q + j)) := bb_ (u1_r (dr_g hL h (i := 0) (by decide) rfl)) (bc_ (y := .ok (.putfield (a.toNat * 256 + b.toNat), q + j + 1 + 2)) (cc_ (u2_r (dr_g hL h (i := 1) (by decide) rfl) (dr_g hL h (i := 2) (by decide) rfl)) rfl) rfl)
  rw [t, Nat.add_assoc (q + j), Nat.add_sub_cancel_left]
theorem dk_182 {c : ByteArray} {L : List UInt8} {q n j : Nat} (hL : (c.data.toList.drop q).take n = L) {a b : UInt8} {v : Nat} (h : (L.drop j).take 3 = [182, a, b] ∧ a.toNat * 256 + b.toNat = v) : decode c (q + j) = .ok (.invokevirtual v, 3) := by
  obtain ⟨h, rfl⟩ := h
  have t : decode c (q + j) = .ok (.invokevirtual (a.toNat * 256 + b.toNat), q + j + 1 + 2 - (q + j)) := bb_ (u1_r (dr_g hL h (i := 0) (by decide) rfl)) (bc_ (y := .ok (.invokevirtual (a.toNat * 256 + b.toNat), q + j + 1 + 2)) (cc_ (u2_r (dr_g hL h (i := 1) (by decide) rfl) (dr_g hL h (i := 2) (by decide) rfl)) rfl) rfl)
  rw [t, Nat.add_assoc (q + j), Nat.add_sub_cancel_left]
theorem dk_183 {c : ByteArray} {L : List UInt8} {q n j : Nat} (hL : (c.data.toList.drop q).take n = L) {a b : UInt8} {v : Nat} (h : (L.drop j).take 3 = [183, a, b] ∧ a.toNat * 256 + b.toNat = v) : decode c (q + j) = .ok (.invokespecial v, 3) := by
  obtain ⟨h, rfl⟩ := h
  have t : decode c (q + j) = .ok (.invokespecial (a.toNat * 256 + b.toNat), q + j + 1 + 2 - (q + j)) := bb_ (u1_r (dr_g hL h (i := 0) (by decide) rfl)) (bc_ (y := .ok (.invokespecial (a.toNat * 256 + b.toNat), q + j + 1 + 2)) (cc_ (u2_r (dr_g hL h (i := 1) (by decide) rfl) (dr_g hL h (i := 2) (by decide) rfl)) rfl) rfl)
  rw [t, Nat.add_assoc (q + j), Nat.add_sub_cancel_left]
theorem dk_184 {c : ByteArray} {L : List UInt8} {q n j : Nat} (hL : (c.data.toList.drop q).take n = L) {a b : UInt8} {v : Nat} (h : (L.drop j).take 3 = [184, a, b] ∧ a.toNat * 256 + b.toNat = v) : decode c (q + j) = .ok (.invokestatic v, 3) := by
  obtain ⟨h, rfl⟩ := h
  have t : decode c (q + j) = .ok (.invokestatic (a.toNat * 256 + b.toNat), q + j + 1 + 2 - (q + j)) := bb_ (u1_r (dr_g hL h (i := 0) (by decide) rfl)) (bc_ (y := .ok (.invokestatic (a.toNat * 256 + b.toNat), q + j + 1 + 2)) (cc_ (u2_r (dr_g hL h (i := 1) (by decide) rfl) (dr_g hL h (i := 2) (by decide) rfl)) rfl) rfl)
  rw [t, Nat.add_assoc (q + j), Nat.add_sub_cancel_left]
theorem dk_187 {c : ByteArray} {L : List UInt8} {q n j : Nat} (hL : (c.data.toList.drop q).take n = L) {a b : UInt8} {v : Nat} (h : (L.drop j).take 3 = [187, a, b] ∧ a.toNat * 256 + b.toNat = v) : decode c (q + j) = .ok (.new v, 3) := by
  obtain ⟨h, rfl⟩ := h
  have t : decode c (q + j) = .ok (.new (a.toNat * 256 + b.toNat), q + j + 1 + 2 - (q + j)) := bb_ (u1_r (dr_g hL h (i := 0) (by decide) rfl)) (bc_ (y := .ok (.new (a.toNat * 256 + b.toNat), q + j + 1 + 2)) (cc_ (u2_r (dr_g hL h (i := 1) (by decide) rfl) (dr_g hL h (i := 2) (by decide) rfl)) rfl) rfl)
  rw [t, Nat.add_assoc (q + j), Nat.add_sub_cancel_left]
theorem dk_189 {c : ByteArray} {L : List UInt8} {q n j : Nat} (hL : (c.data.toList.drop q).take n = L) {a b : UInt8} {v : Nat} (h : (L.drop j).take 3 = [189, a, b] ∧ a.toNat * 256 + b.toNat = v) : decode c (q + j) = .ok (.anewarray v, 3) := by
  obtain ⟨h, rfl⟩ := h
  have t : decode c (q + j) = .ok (.anewarray (a.toNat * 256 + b.toNat), q + j + 1 + 2 - (q + j)) := bb_ (u1_r (dr_g hL h (i := 0) (by decide) rfl)) (bc_ (y := .ok (.anewarray (a.toNat * 256 + b.toNat), q + j + 1 + 2)) (cc_ (u2_r (dr_g hL h (i := 1) (by decide) rfl) (dr_g hL h (i := 2) (by decide) rfl)) rfl) rfl)
  rw [t, Nat.add_assoc (q + j), Nat.add_sub_cancel_left]
theorem dk_190 {c : ByteArray} {L : List UInt8} {q n j : Nat} (hL : (c.data.toList.drop q).take n = L) (h : (L.drop j).take 1 = [190]) : decode c (q + j) = .ok (.arraylength, 1) := by
  have t : decode c (q + j) = .ok (.arraylength, q + j + 1 - (q + j)) := bb_ (u1_r (dr_g hL h (i := 0) (by decide) rfl)) rfl
  rw [t, Nat.add_sub_cancel_left]
theorem dk_191 {c : ByteArray} {L : List UInt8} {q n j : Nat} (hL : (c.data.toList.drop q).take n = L) (h : (L.drop j).take 1 = [191]) : decode c (q + j) = .ok (.athrow, 1) := by
  have t : decode c (q + j) = .ok (.athrow, q + j + 1 - (q + j)) := bb_ (u1_r (dr_g hL h (i := 0) (by decide) rfl)) rfl
  rw [t, Nat.add_sub_cancel_left]
