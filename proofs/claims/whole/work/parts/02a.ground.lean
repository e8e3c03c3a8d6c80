/-! 02a: what a state of the system is: roles 0..79 (cells of the class and of the reference, by what they are for), their addresses ad, their numbers: a memory -/
abbrev Mem : Type := (Nat → Nat → Int32) × (Nat → Int64)
def celT (cy : Nat → ClassId) (ad : Nat → Nat) (J : Nat → Int64) (w : Nat → Int32) : List va_E := [
  .inr (9, [.ref (ad 1), .ref (ad 6), .ref (ad 10), .ref (ad 21), .ref (ad 33), .ref (ad 37), .ref (ad 46), .ref (ad 52), .ref (ad 58), .ref (ad 61), .ref (ad 62), .ref (ad 63), .int (w 12)]),
  .inl (cy 2, 2, .inr (.inr (.inr (.inr (fun i => some (ad (2 + 2 * i))))))),
  .inr (7, [.ref (ad 3), .int (w 1)]),
  .inl (cy 0, 31, .inl w),
  .inr (7, [.ref (ad 5), .int (w 1)]),
  .inl (cy 0, 63, .inl w),
  .inr (2, [.ref (ad 7), .ref (ad 8), .ref (ad 9), .int (w 3), .int (w 4)]),
  .inl (cy 0, 8, .inl w),
  .inl (cy 0, 8, .inl w),
  .inl (cy 0, 8, .inl w),
  .inr (1, [.ref (ad 11), .ref (ad 12), .int (w 2), .int (w 3)]),
  .inl (cy 4, 8, .inr (.inr (.inr (.inr (fun i => some (ad (13 + i))))))),
  .inl (cy 0, 8, .inl w),
  .inl (cy 0, 6, .inl w),
  .inl (cy 0, 6, .inl w),
  .inl (cy 0, 6, .inl w),
  .inl (cy 0, 6, .inl w),
  .inl (cy 0, 6, .inl w),
  .inl (cy 0, 6, .inl w),
  .inl (cy 0, 6, .inl w),
  .inl (cy 0, 6, .inl w),
  .inr (4, [.ref (ad 22), .ref (ad 23), .ref (ad 24), .int (w 3)]),
  .inl (cy 0, 8, .inl w),
  .inl (cy 0, 8, .inl w),
  .inl (cy 4, 8, .inr (.inr (.inr (.inr (fun i => some (ad (25 + i))))))),
  .inl (cy 0, 6, .inl w),
  .inl (cy 0, 6, .inl w),
  .inl (cy 0, 6, .inl w),
  .inl (cy 0, 6, .inl w),
  .inl (cy 0, 6, .inl w),
  .inl (cy 0, 6, .inl w),
  .inl (cy 0, 6, .inl w),
  .inl (cy 0, 6, .inl w),
  .inr (6, [.ref (ad 34), .ref (ad 35), .ref (ad 36), .int (w 3)]),
  .inl (cy 0, 8, .inl w),
  .inl (cy 0, 8, .inl w),
  .inl (cy 0, 8, .inl w),
  .inl (cy 3, 4, .inr (.inr (.inr (.inr (fun i => some (ad (38 + 2 * i))))))),
  .inr (5, [.ref (ad 39), .int (w 1), .int (w 2), .int (w 3)]),
  .inl (cy 0, 60, .inl w),
  .inr (5, [.ref (ad 41), .int (w 1), .int (w 2), .int (w 3)]),
  .inl (cy 0, 60, .inl w),
  .inr (5, [.ref (ad 43), .int (w 1), .int (w 2), .int (w 3)]),
  .inl (cy 0, 60, .inl w),
  .inr (5, [.ref (ad 45), .int (w 1), .int (w 2), .int (w 3)]),
  .inl (cy 0, 60, .inl w),
  .inr (8, [.ref (ad 47), .ref (ad 48), .ref (ad 49), .ref (ad 50), .ref (ad 51), .int (w 5), .int (w 6)]),
  .inl (cy 0, 8, .inl w),
  .inl (cy 0, 8, .inl w),
  .inl (cy 0, 9, .inl w),
  .inl (cy 0, 64, .inl w),
  .inl (cy 0, 8, .inl w),
  .inr (8, [.ref (ad 53), .ref (ad 54), .ref (ad 55), .ref (ad 56), .ref (ad 57), .int (w 5), .int (w 6)]),
  .inl (cy 0, 8, .inl w),
  .inl (cy 0, 8, .inl w),
  .inl (cy 0, 9, .inl w),
  .inl (cy 0, 64, .inl w),
  .inl (cy 0, 8, .inl w),
  .inr (0, [.ref (ad 59), .ref (ad 60), .int (w 2), .int (w 3)]),
  .inl (cy 1, 256, .inr (.inl J)),
  .inl (cy 0, 9, .inl w),
  .inr (3, [.int (w 0), .int (w 1), .int (w 2), .int (w 3), .int (w 4)]),
  .inl (cy 0, 6, .inl w),
  .inl (cy 0, 80, .inl w),
  .inr (10, [.ref (ad 65), .ref (ad 66), .ref (ad 67), .ref (ad 68), .int (w 4), .ref (ad 69), .ref (ad 70), .int (w 7), .ref (ad 71), .int (w 9), .ref (ad 72), .int (w 11), .ref (ad 73), .int (w 13), .int (w 14), .ref (ad 74), .ref (ad 75), .ref (ad 76), .ref (ad 77), .int (w 19), .int (w 20), .int (w 21), .int (w 22), .ref (ad 78), .ref (ad 79), .int (w 25)]),
  .inl (cy 0, 4, .inl w),
  .inl (cy 0, 4, .inl w),
  .inl (cy 0, 240, .inl w),
  .inl (cy 0, 60, .inl w),
  .inl (cy 0, 128, .inl w),
  .inl (cy 0, 2, .inl w),
  .inl (cy 0, 24, .inl w),
  .inl (cy 0, 56, .inl w),
  .inl (cy 0, 16, .inl w),
  .inl (cy 0, 8, .inl w),
  .inl (cy 0, 64, .inl w),
  .inl (cy 0, 64, .inl w),
  .inl (cy 0, 8, .inl w),
  .inl (cy 0, 24, .inl w),
  .inl (cy 0, 80, .inl w)]
def cel (cy : Nat → ClassId) (ad : Nat → Nat) (J : Nat → Int64) (r : Nat) (w : Nat → Int32) : va_E := (celT cy ad J w).getD r (.inr (3, []))
def PO (cy : Nat → ClassId) (ad : Nat → Nat) (σ : Mem) : va_W := (List.range 80).map (fun r => (ad r, cel cy ad σ.2 r (σ.1 r)))
theorem PO_get {cy : Nat → ClassId} {ad : Nat → Nat} {σ : Mem} {r : Nat} (h : r < 80) : (PO cy ad σ)[r]? = some (ad r, cel cy ad σ.2 r (σ.1 r)) := by
  unfold PO
  rw [List.getElem?_map, List.getElem?_range h]
  rfl
theorem PO_at {cy : Nat → ClassId} {ad : Nat → Nat} {σ : Mem} {r : Nat} {e : va_E} (h : r < 80) (he : cel cy ad σ.2 r (σ.1 r) = e) : (PO cy ad σ)[r]? = some (ad r, e) := by
  rw [PO_get h, he]
theorem PO_none {cy : Nat → ClassId} {ad : Nat → Nat} {σ : Mem} {r : Nat} (h : 80 ≤ r) : (PO cy ad σ)[r]? = none := by
  unfold PO
  exact List.getElem?_eq_none (by rw [List.length_map, List.length_range]; exact h)
theorem PO_len {cy : Nat → ClassId} {ad : Nat → Nat} {σ : Mem} : (PO cy ad σ).length = 80 := by
  unfold PO
  rw [List.length_map, List.length_range]
theorem PO_set {cy : Nat → ClassId} {ad : Nat → Nat} {σ : Mem} {r : Nat} {w : Nat → Int32} {e : va_E} (he : cel cy ad σ.2 r w = e) : (PO cy ad σ).set r (ad r, e) = PO cy ad (va_up σ.1 r w, σ.2) := by
  subst he
  apply List.ext_getElem?
  intro i
  rw [List.getElem?_set]
  by_cases h : r = i
  · subst h
    by_cases h2 : r < 80
    · rw [if_pos rfl, PO_len, if_pos h2, PO_get h2]
      simp [va_up]
    · rw [if_pos rfl, PO_len, if_neg h2, PO_none (Nat.le_of_not_lt h2)]
  · rw [if_neg h]
    by_cases h2 : i < 80
    · rw [PO_get h2, PO_get h2]
      simp [va_up, Ne.symm h]
    · rw [PO_none (Nat.le_of_not_lt h2), PO_none (Nat.le_of_not_lt h2)]
theorem cel_J {cy : Nat → ClassId} {ad : Nat → Nat} {J J2 : Nat → Int64} {r : Nat} {w : Nat → Int32} (h : r ≠ 59) : cel cy ad J r w = cel cy ad J2 r w := by
  by_cases h2 : r < 80
  · unfold cel celT
    match r, h, h2 with
    | 0, _, _ => rfl
    | 1, _, _ => rfl
    | 2, _, _ => rfl
    | 3, _, _ => rfl
    | 4, _, _ => rfl
    | 5, _, _ => rfl
    | 6, _, _ => rfl
    | 7, _, _ => rfl
    | 8, _, _ => rfl
    | 9, _, _ => rfl
    | 10, _, _ => rfl
    | 11, _, _ => rfl
    | 12, _, _ => rfl
    | 13, _, _ => rfl
    | 14, _, _ => rfl
    | 15, _, _ => rfl
    | 16, _, _ => rfl
    | 17, _, _ => rfl
    | 18, _, _ => rfl
    | 19, _, _ => rfl
    | 20, _, _ => rfl
    | 21, _, _ => rfl
    | 22, _, _ => rfl
    | 23, _, _ => rfl
    | 24, _, _ => rfl
    | 25, _, _ => rfl
    | 26, _, _ => rfl
    | 27, _, _ => rfl
    | 28, _, _ => rfl
    | 29, _, _ => rfl
    | 30, _, _ => rfl
    | 31, _, _ => rfl
    | 32, _, _ => rfl
    | 33, _, _ => rfl
    | 34, _, _ => rfl
    | 35, _, _ => rfl
    | 36, _, _ => rfl
    | 37, _, _ => rfl
    | 38, _, _ => rfl
    | 39, _, _ => rfl
    | 40, _, _ => rfl
    | 41, _, _ => rfl
    | 42, _, _ => rfl
    | 43, _, _ => rfl
    | 44, _, _ => rfl
    | 45, _, _ => rfl
    | 46, _, _ => rfl
    | 47, _, _ => rfl
    | 48, _, _ => rfl
    | 49, _, _ => rfl
    | 50, _, _ => rfl
    | 51, _, _ => rfl
    | 52, _, _ => rfl
    | 53, _, _ => rfl
    | 54, _, _ => rfl
    | 55, _, _ => rfl
    | 56, _, _ => rfl
    | 57, _, _ => rfl
    | 58, _, _ => rfl
    | 59, h, _ => exact absurd rfl h
    | 60, _, _ => rfl
    | 61, _, _ => rfl
    | 62, _, _ => rfl
    | 63, _, _ => rfl
    | 64, _, _ => rfl
    | 65, _, _ => rfl
    | 66, _, _ => rfl
    | 67, _, _ => rfl
    | 68, _, _ => rfl
    | 69, _, _ => rfl
    | 70, _, _ => rfl
    | 71, _, _ => rfl
    | 72, _, _ => rfl
    | 73, _, _ => rfl
    | 74, _, _ => rfl
    | 75, _, _ => rfl
    | 76, _, _ => rfl
    | 77, _, _ => rfl
    | 78, _, _ => rfl
    | 79, _, _ => rfl
    | r + 80, _, h2 => exact absurd h2 (by omega)
  · unfold cel
    have h3 : ∀ K : Nat → Int64, (celT cy ad K w)[r]? = none := fun K => List.getElem?_eq_none (by show 80 ≤ r; omega)
    rw [List.getD_eq_getElem?_getD, List.getD_eq_getElem?_getD, h3, h3]
theorem PO_setJ {cy : Nat → ClassId} {ad : Nat → Nat} {σ : Mem} {J : Nat → Int64} {e : va_E} (he : .inl (cy 1, 256, .inr (.inl J)) = e) : (PO cy ad σ).set 59 (ad 59, e) = PO cy ad (σ.1, J) := by
  subst he
  apply List.ext_getElem?
  intro i
  rw [List.getElem?_set]
  by_cases h : 59 = i
  · subst h
    rw [PO_get (by decide), PO_len]
    rfl
  · rw [if_neg h]
    by_cases h2 : i < 80
    · rw [PO_get h2, PO_get h2, cel_J (J2 := J) (Ne.symm h)]
    · rw [PO_none (Nat.le_of_not_lt h2), PO_none (Nat.le_of_not_lt h2)]
theorem po_0 {cy : Nat → ClassId} {ad : Nat → Nat} {σ : Mem} : (PO cy ad σ)[0]? = some (ad 0, .inr (9, [.ref (ad 1), .ref (ad 6), .ref (ad 10), .ref (ad 21), .ref (ad 33), .ref (ad 37), .ref (ad 46), .ref (ad 52), .ref (ad 58), .ref (ad 61), .ref (ad 62), .ref (ad 63), .int (σ.1 0 12)])) := PO_at (by decide) rfl
theorem po_1 {cy : Nat → ClassId} {ad : Nat → Nat} {σ : Mem} : (PO cy ad σ)[1]? = some (ad 1, .inl (cy 2, 2, .inr (.inr (.inr (.inr (fun i => some (ad (2 + 2 * i)))))))) := PO_at (by decide) rfl
theorem po_2 {cy : Nat → ClassId} {ad : Nat → Nat} {σ : Mem} : (PO cy ad σ)[2]? = some (ad 2, .inr (7, [.ref (ad 3), .int (σ.1 2 1)])) := PO_at (by decide) rfl
theorem po_3 {cy : Nat → ClassId} {ad : Nat → Nat} {σ : Mem} : (PO cy ad σ)[3]? = some (ad 3, .inl (cy 0, 31, .inl (σ.1 3))) := PO_at (by decide) rfl
theorem po_4 {cy : Nat → ClassId} {ad : Nat → Nat} {σ : Mem} : (PO cy ad σ)[4]? = some (ad 4, .inr (7, [.ref (ad 5), .int (σ.1 4 1)])) := PO_at (by decide) rfl
theorem po_5 {cy : Nat → ClassId} {ad : Nat → Nat} {σ : Mem} : (PO cy ad σ)[5]? = some (ad 5, .inl (cy 0, 63, .inl (σ.1 5))) := PO_at (by decide) rfl
theorem po_6 {cy : Nat → ClassId} {ad : Nat → Nat} {σ : Mem} : (PO cy ad σ)[6]? = some (ad 6, .inr (2, [.ref (ad 7), .ref (ad 8), .ref (ad 9), .int (σ.1 6 3), .int (σ.1 6 4)])) := PO_at (by decide) rfl
theorem po_7 {cy : Nat → ClassId} {ad : Nat → Nat} {σ : Mem} : (PO cy ad σ)[7]? = some (ad 7, .inl (cy 0, 8, .inl (σ.1 7))) := PO_at (by decide) rfl
theorem po_8 {cy : Nat → ClassId} {ad : Nat → Nat} {σ : Mem} : (PO cy ad σ)[8]? = some (ad 8, .inl (cy 0, 8, .inl (σ.1 8))) := PO_at (by decide) rfl
theorem po_9 {cy : Nat → ClassId} {ad : Nat → Nat} {σ : Mem} : (PO cy ad σ)[9]? = some (ad 9, .inl (cy 0, 8, .inl (σ.1 9))) := PO_at (by decide) rfl
theorem po_10 {cy : Nat → ClassId} {ad : Nat → Nat} {σ : Mem} : (PO cy ad σ)[10]? = some (ad 10, .inr (1, [.ref (ad 11), .ref (ad 12), .int (σ.1 10 2), .int (σ.1 10 3)])) := PO_at (by decide) rfl
theorem po_11 {cy : Nat → ClassId} {ad : Nat → Nat} {σ : Mem} : (PO cy ad σ)[11]? = some (ad 11, .inl (cy 4, 8, .inr (.inr (.inr (.inr (fun i => some (ad (13 + i)))))))) := PO_at (by decide) rfl
theorem po_12 {cy : Nat → ClassId} {ad : Nat → Nat} {σ : Mem} : (PO cy ad σ)[12]? = some (ad 12, .inl (cy 0, 8, .inl (σ.1 12))) := PO_at (by decide) rfl
theorem po_13 {cy : Nat → ClassId} {ad : Nat → Nat} {σ : Mem} : (PO cy ad σ)[13]? = some (ad 13, .inl (cy 0, 6, .inl (σ.1 13))) := PO_at (by decide) rfl
theorem po_14 {cy : Nat → ClassId} {ad : Nat → Nat} {σ : Mem} : (PO cy ad σ)[14]? = some (ad 14, .inl (cy 0, 6, .inl (σ.1 14))) := PO_at (by decide) rfl
theorem po_15 {cy : Nat → ClassId} {ad : Nat → Nat} {σ : Mem} : (PO cy ad σ)[15]? = some (ad 15, .inl (cy 0, 6, .inl (σ.1 15))) := PO_at (by decide) rfl
theorem po_16 {cy : Nat → ClassId} {ad : Nat → Nat} {σ : Mem} : (PO cy ad σ)[16]? = some (ad 16, .inl (cy 0, 6, .inl (σ.1 16))) := PO_at (by decide) rfl
theorem po_17 {cy : Nat → ClassId} {ad : Nat → Nat} {σ : Mem} : (PO cy ad σ)[17]? = some (ad 17, .inl (cy 0, 6, .inl (σ.1 17))) := PO_at (by decide) rfl
theorem po_18 {cy : Nat → ClassId} {ad : Nat → Nat} {σ : Mem} : (PO cy ad σ)[18]? = some (ad 18, .inl (cy 0, 6, .inl (σ.1 18))) := PO_at (by decide) rfl
theorem po_19 {cy : Nat → ClassId} {ad : Nat → Nat} {σ : Mem} : (PO cy ad σ)[19]? = some (ad 19, .inl (cy 0, 6, .inl (σ.1 19))) := PO_at (by decide) rfl
theorem po_20 {cy : Nat → ClassId} {ad : Nat → Nat} {σ : Mem} : (PO cy ad σ)[20]? = some (ad 20, .inl (cy 0, 6, .inl (σ.1 20))) := PO_at (by decide) rfl
theorem po_21 {cy : Nat → ClassId} {ad : Nat → Nat} {σ : Mem} : (PO cy ad σ)[21]? = some (ad 21, .inr (4, [.ref (ad 22), .ref (ad 23), .ref (ad 24), .int (σ.1 21 3)])) := PO_at (by decide) rfl
theorem po_22 {cy : Nat → ClassId} {ad : Nat → Nat} {σ : Mem} : (PO cy ad σ)[22]? = some (ad 22, .inl (cy 0, 8, .inl (σ.1 22))) := PO_at (by decide) rfl
theorem po_23 {cy : Nat → ClassId} {ad : Nat → Nat} {σ : Mem} : (PO cy ad σ)[23]? = some (ad 23, .inl (cy 0, 8, .inl (σ.1 23))) := PO_at (by decide) rfl
theorem po_24 {cy : Nat → ClassId} {ad : Nat → Nat} {σ : Mem} : (PO cy ad σ)[24]? = some (ad 24, .inl (cy 4, 8, .inr (.inr (.inr (.inr (fun i => some (ad (25 + i)))))))) := PO_at (by decide) rfl
theorem po_25 {cy : Nat → ClassId} {ad : Nat → Nat} {σ : Mem} : (PO cy ad σ)[25]? = some (ad 25, .inl (cy 0, 6, .inl (σ.1 25))) := PO_at (by decide) rfl
theorem po_26 {cy : Nat → ClassId} {ad : Nat → Nat} {σ : Mem} : (PO cy ad σ)[26]? = some (ad 26, .inl (cy 0, 6, .inl (σ.1 26))) := PO_at (by decide) rfl
theorem po_27 {cy : Nat → ClassId} {ad : Nat → Nat} {σ : Mem} : (PO cy ad σ)[27]? = some (ad 27, .inl (cy 0, 6, .inl (σ.1 27))) := PO_at (by decide) rfl
theorem po_28 {cy : Nat → ClassId} {ad : Nat → Nat} {σ : Mem} : (PO cy ad σ)[28]? = some (ad 28, .inl (cy 0, 6, .inl (σ.1 28))) := PO_at (by decide) rfl
theorem po_29 {cy : Nat → ClassId} {ad : Nat → Nat} {σ : Mem} : (PO cy ad σ)[29]? = some (ad 29, .inl (cy 0, 6, .inl (σ.1 29))) := PO_at (by decide) rfl
theorem po_30 {cy : Nat → ClassId} {ad : Nat → Nat} {σ : Mem} : (PO cy ad σ)[30]? = some (ad 30, .inl (cy 0, 6, .inl (σ.1 30))) := PO_at (by decide) rfl
theorem po_31 {cy : Nat → ClassId} {ad : Nat → Nat} {σ : Mem} : (PO cy ad σ)[31]? = some (ad 31, .inl (cy 0, 6, .inl (σ.1 31))) := PO_at (by decide) rfl
theorem po_32 {cy : Nat → ClassId} {ad : Nat → Nat} {σ : Mem} : (PO cy ad σ)[32]? = some (ad 32, .inl (cy 0, 6, .inl (σ.1 32))) := PO_at (by decide) rfl
theorem po_33 {cy : Nat → ClassId} {ad : Nat → Nat} {σ : Mem} : (PO cy ad σ)[33]? = some (ad 33, .inr (6, [.ref (ad 34), .ref (ad 35), .ref (ad 36), .int (σ.1 33 3)])) := PO_at (by decide) rfl
theorem po_34 {cy : Nat → ClassId} {ad : Nat → Nat} {σ : Mem} : (PO cy ad σ)[34]? = some (ad 34, .inl (cy 0, 8, .inl (σ.1 34))) := PO_at (by decide) rfl
theorem po_35 {cy : Nat → ClassId} {ad : Nat → Nat} {σ : Mem} : (PO cy ad σ)[35]? = some (ad 35, .inl (cy 0, 8, .inl (σ.1 35))) := PO_at (by decide) rfl
theorem po_36 {cy : Nat → ClassId} {ad : Nat → Nat} {σ : Mem} : (PO cy ad σ)[36]? = some (ad 36, .inl (cy 0, 8, .inl (σ.1 36))) := PO_at (by decide) rfl
theorem po_37 {cy : Nat → ClassId} {ad : Nat → Nat} {σ : Mem} : (PO cy ad σ)[37]? = some (ad 37, .inl (cy 3, 4, .inr (.inr (.inr (.inr (fun i => some (ad (38 + 2 * i)))))))) := PO_at (by decide) rfl
theorem po_38 {cy : Nat → ClassId} {ad : Nat → Nat} {σ : Mem} : (PO cy ad σ)[38]? = some (ad 38, .inr (5, [.ref (ad 39), .int (σ.1 38 1), .int (σ.1 38 2), .int (σ.1 38 3)])) := PO_at (by decide) rfl
theorem po_39 {cy : Nat → ClassId} {ad : Nat → Nat} {σ : Mem} : (PO cy ad σ)[39]? = some (ad 39, .inl (cy 0, 60, .inl (σ.1 39))) := PO_at (by decide) rfl
theorem po_40 {cy : Nat → ClassId} {ad : Nat → Nat} {σ : Mem} : (PO cy ad σ)[40]? = some (ad 40, .inr (5, [.ref (ad 41), .int (σ.1 40 1), .int (σ.1 40 2), .int (σ.1 40 3)])) := PO_at (by decide) rfl
theorem po_41 {cy : Nat → ClassId} {ad : Nat → Nat} {σ : Mem} : (PO cy ad σ)[41]? = some (ad 41, .inl (cy 0, 60, .inl (σ.1 41))) := PO_at (by decide) rfl
theorem po_42 {cy : Nat → ClassId} {ad : Nat → Nat} {σ : Mem} : (PO cy ad σ)[42]? = some (ad 42, .inr (5, [.ref (ad 43), .int (σ.1 42 1), .int (σ.1 42 2), .int (σ.1 42 3)])) := PO_at (by decide) rfl
theorem po_43 {cy : Nat → ClassId} {ad : Nat → Nat} {σ : Mem} : (PO cy ad σ)[43]? = some (ad 43, .inl (cy 0, 60, .inl (σ.1 43))) := PO_at (by decide) rfl
theorem po_44 {cy : Nat → ClassId} {ad : Nat → Nat} {σ : Mem} : (PO cy ad σ)[44]? = some (ad 44, .inr (5, [.ref (ad 45), .int (σ.1 44 1), .int (σ.1 44 2), .int (σ.1 44 3)])) := PO_at (by decide) rfl
theorem po_45 {cy : Nat → ClassId} {ad : Nat → Nat} {σ : Mem} : (PO cy ad σ)[45]? = some (ad 45, .inl (cy 0, 60, .inl (σ.1 45))) := PO_at (by decide) rfl
theorem po_46 {cy : Nat → ClassId} {ad : Nat → Nat} {σ : Mem} : (PO cy ad σ)[46]? = some (ad 46, .inr (8, [.ref (ad 47), .ref (ad 48), .ref (ad 49), .ref (ad 50), .ref (ad 51), .int (σ.1 46 5), .int (σ.1 46 6)])) := PO_at (by decide) rfl
theorem po_47 {cy : Nat → ClassId} {ad : Nat → Nat} {σ : Mem} : (PO cy ad σ)[47]? = some (ad 47, .inl (cy 0, 8, .inl (σ.1 47))) := PO_at (by decide) rfl
theorem po_48 {cy : Nat → ClassId} {ad : Nat → Nat} {σ : Mem} : (PO cy ad σ)[48]? = some (ad 48, .inl (cy 0, 8, .inl (σ.1 48))) := PO_at (by decide) rfl
theorem po_49 {cy : Nat → ClassId} {ad : Nat → Nat} {σ : Mem} : (PO cy ad σ)[49]? = some (ad 49, .inl (cy 0, 9, .inl (σ.1 49))) := PO_at (by decide) rfl
theorem po_50 {cy : Nat → ClassId} {ad : Nat → Nat} {σ : Mem} : (PO cy ad σ)[50]? = some (ad 50, .inl (cy 0, 64, .inl (σ.1 50))) := PO_at (by decide) rfl
theorem po_51 {cy : Nat → ClassId} {ad : Nat → Nat} {σ : Mem} : (PO cy ad σ)[51]? = some (ad 51, .inl (cy 0, 8, .inl (σ.1 51))) := PO_at (by decide) rfl
theorem po_52 {cy : Nat → ClassId} {ad : Nat → Nat} {σ : Mem} : (PO cy ad σ)[52]? = some (ad 52, .inr (8, [.ref (ad 53), .ref (ad 54), .ref (ad 55), .ref (ad 56), .ref (ad 57), .int (σ.1 52 5), .int (σ.1 52 6)])) := PO_at (by decide) rfl
theorem po_53 {cy : Nat → ClassId} {ad : Nat → Nat} {σ : Mem} : (PO cy ad σ)[53]? = some (ad 53, .inl (cy 0, 8, .inl (σ.1 53))) := PO_at (by decide) rfl
theorem po_54 {cy : Nat → ClassId} {ad : Nat → Nat} {σ : Mem} : (PO cy ad σ)[54]? = some (ad 54, .inl (cy 0, 8, .inl (σ.1 54))) := PO_at (by decide) rfl
theorem po_55 {cy : Nat → ClassId} {ad : Nat → Nat} {σ : Mem} : (PO cy ad σ)[55]? = some (ad 55, .inl (cy 0, 9, .inl (σ.1 55))) := PO_at (by decide) rfl
theorem po_56 {cy : Nat → ClassId} {ad : Nat → Nat} {σ : Mem} : (PO cy ad σ)[56]? = some (ad 56, .inl (cy 0, 64, .inl (σ.1 56))) := PO_at (by decide) rfl
theorem po_57 {cy : Nat → ClassId} {ad : Nat → Nat} {σ : Mem} : (PO cy ad σ)[57]? = some (ad 57, .inl (cy 0, 8, .inl (σ.1 57))) := PO_at (by decide) rfl
theorem po_58 {cy : Nat → ClassId} {ad : Nat → Nat} {σ : Mem} : (PO cy ad σ)[58]? = some (ad 58, .inr (0, [.ref (ad 59), .ref (ad 60), .int (σ.1 58 2), .int (σ.1 58 3)])) := PO_at (by decide) rfl
theorem po_59 {cy : Nat → ClassId} {ad : Nat → Nat} {σ : Mem} : (PO cy ad σ)[59]? = some (ad 59, .inl (cy 1, 256, .inr (.inl σ.2))) := PO_at (by decide) rfl
theorem po_60 {cy : Nat → ClassId} {ad : Nat → Nat} {σ : Mem} : (PO cy ad σ)[60]? = some (ad 60, .inl (cy 0, 9, .inl (σ.1 60))) := PO_at (by decide) rfl
theorem po_61 {cy : Nat → ClassId} {ad : Nat → Nat} {σ : Mem} : (PO cy ad σ)[61]? = some (ad 61, .inr (3, [.int (σ.1 61 0), .int (σ.1 61 1), .int (σ.1 61 2), .int (σ.1 61 3), .int (σ.1 61 4)])) := PO_at (by decide) rfl
theorem po_62 {cy : Nat → ClassId} {ad : Nat → Nat} {σ : Mem} : (PO cy ad σ)[62]? = some (ad 62, .inl (cy 0, 6, .inl (σ.1 62))) := PO_at (by decide) rfl
theorem po_63 {cy : Nat → ClassId} {ad : Nat → Nat} {σ : Mem} : (PO cy ad σ)[63]? = some (ad 63, .inl (cy 0, 80, .inl (σ.1 63))) := PO_at (by decide) rfl
theorem po_64 {cy : Nat → ClassId} {ad : Nat → Nat} {σ : Mem} : (PO cy ad σ)[64]? = some (ad 64, .inr (10, [.ref (ad 65), .ref (ad 66), .ref (ad 67), .ref (ad 68), .int (σ.1 64 4), .ref (ad 69), .ref (ad 70), .int (σ.1 64 7), .ref (ad 71), .int (σ.1 64 9), .ref (ad 72), .int (σ.1 64 11), .ref (ad 73), .int (σ.1 64 13), .int (σ.1 64 14), .ref (ad 74), .ref (ad 75), .ref (ad 76), .ref (ad 77), .int (σ.1 64 19), .int (σ.1 64 20), .int (σ.1 64 21), .int (σ.1 64 22), .ref (ad 78), .ref (ad 79), .int (σ.1 64 25)])) := PO_at (by decide) rfl
theorem po_65 {cy : Nat → ClassId} {ad : Nat → Nat} {σ : Mem} : (PO cy ad σ)[65]? = some (ad 65, .inl (cy 0, 4, .inl (σ.1 65))) := PO_at (by decide) rfl
theorem po_66 {cy : Nat → ClassId} {ad : Nat → Nat} {σ : Mem} : (PO cy ad σ)[66]? = some (ad 66, .inl (cy 0, 4, .inl (σ.1 66))) := PO_at (by decide) rfl
theorem po_67 {cy : Nat → ClassId} {ad : Nat → Nat} {σ : Mem} : (PO cy ad σ)[67]? = some (ad 67, .inl (cy 0, 240, .inl (σ.1 67))) := PO_at (by decide) rfl
theorem po_68 {cy : Nat → ClassId} {ad : Nat → Nat} {σ : Mem} : (PO cy ad σ)[68]? = some (ad 68, .inl (cy 0, 60, .inl (σ.1 68))) := PO_at (by decide) rfl
theorem po_69 {cy : Nat → ClassId} {ad : Nat → Nat} {σ : Mem} : (PO cy ad σ)[69]? = some (ad 69, .inl (cy 0, 128, .inl (σ.1 69))) := PO_at (by decide) rfl
theorem po_70 {cy : Nat → ClassId} {ad : Nat → Nat} {σ : Mem} : (PO cy ad σ)[70]? = some (ad 70, .inl (cy 0, 2, .inl (σ.1 70))) := PO_at (by decide) rfl
theorem po_71 {cy : Nat → ClassId} {ad : Nat → Nat} {σ : Mem} : (PO cy ad σ)[71]? = some (ad 71, .inl (cy 0, 24, .inl (σ.1 71))) := PO_at (by decide) rfl
theorem po_72 {cy : Nat → ClassId} {ad : Nat → Nat} {σ : Mem} : (PO cy ad σ)[72]? = some (ad 72, .inl (cy 0, 56, .inl (σ.1 72))) := PO_at (by decide) rfl
theorem po_73 {cy : Nat → ClassId} {ad : Nat → Nat} {σ : Mem} : (PO cy ad σ)[73]? = some (ad 73, .inl (cy 0, 16, .inl (σ.1 73))) := PO_at (by decide) rfl
theorem po_74 {cy : Nat → ClassId} {ad : Nat → Nat} {σ : Mem} : (PO cy ad σ)[74]? = some (ad 74, .inl (cy 0, 8, .inl (σ.1 74))) := PO_at (by decide) rfl
theorem po_75 {cy : Nat → ClassId} {ad : Nat → Nat} {σ : Mem} : (PO cy ad σ)[75]? = some (ad 75, .inl (cy 0, 64, .inl (σ.1 75))) := PO_at (by decide) rfl
theorem po_76 {cy : Nat → ClassId} {ad : Nat → Nat} {σ : Mem} : (PO cy ad σ)[76]? = some (ad 76, .inl (cy 0, 64, .inl (σ.1 76))) := PO_at (by decide) rfl
theorem po_77 {cy : Nat → ClassId} {ad : Nat → Nat} {σ : Mem} : (PO cy ad σ)[77]? = some (ad 77, .inl (cy 0, 8, .inl (σ.1 77))) := PO_at (by decide) rfl
theorem po_78 {cy : Nat → ClassId} {ad : Nat → Nat} {σ : Mem} : (PO cy ad σ)[78]? = some (ad 78, .inl (cy 0, 24, .inl (σ.1 78))) := PO_at (by decide) rfl
theorem po_79 {cy : Nat → ClassId} {ad : Nat → Nat} {σ : Mem} : (PO cy ad σ)[79]? = some (ad 79, .inl (cy 0, 80, .inl (σ.1 79))) := PO_at (by decide) rfl
def tlen (r : Nat) : Nat := if r = 2 then 31 else 63
def isText (r : Nat) : Prop := r = 2 ∨ r = 4
theorem po_Text {cy : Nat → ClassId} {ad : Nat → Nat} {σ : Mem} {r : Nat} (h : isText r) : (PO cy ad σ)[r]? = some (ad r, .inr (7, [.ref (ad (r + 1)), .int (σ.1 r 1)])) := by rcases h with rfl | rfl <;> exact PO_at (by decide) rfl
theorem po_Text_1 {cy : Nat → ClassId} {ad : Nat → Nat} {σ : Mem} {r : Nat} (h : isText r) : (PO cy ad σ)[r + 1]? = some (ad (r + 1), .inl (cy 0, tlen r, .inl (σ.1 (r + 1)))) := by rcases h with rfl | rfl <;> exact PO_at (by decide) rfl
theorem ce_Text_1 {cy : Nat → ClassId} {ad : Nat → Nat} {J : Nat → Int64} {w : Nat → Int32} {r : Nat} (h : isText r) : cel cy ad J (r + 1) w = .inl (cy 0, tlen r, .inl w) := by rcases h with rfl | rfl <;> rfl
def isSheet (r : Nat) : Prop := r = 38 ∨ r = 40 ∨ r = 42 ∨ r = 44
theorem po_Sheet {cy : Nat → ClassId} {ad : Nat → Nat} {σ : Mem} {r : Nat} (h : isSheet r) : (PO cy ad σ)[r]? = some (ad r, .inr (5, [.ref (ad (r + 1)), .int (σ.1 r 1), .int (σ.1 r 2), .int (σ.1 r 3)])) := by rcases h with rfl | rfl | rfl | rfl <;> exact PO_at (by decide) rfl
theorem po_Sheet_1 {cy : Nat → ClassId} {ad : Nat → Nat} {σ : Mem} {r : Nat} (h : isSheet r) : (PO cy ad σ)[r + 1]? = some (ad (r + 1), .inl (cy 0, 60, .inl (σ.1 (r + 1)))) := by rcases h with rfl | rfl | rfl | rfl <;> exact PO_at (by decide) rfl
theorem ce_Sheet_1 {cy : Nat → ClassId} {ad : Nat → Nat} {J : Nat → Int64} {w : Nat → Int32} {r : Nat} (h : isSheet r) : cel cy ad J (r + 1) w = .inl (cy 0, 60, .inl w) := by rcases h with rfl | rfl | rfl | rfl <;> rfl
def isVoy (r : Nat) : Prop := r = 46 ∨ r = 52
theorem po_Voy {cy : Nat → ClassId} {ad : Nat → Nat} {σ : Mem} {r : Nat} (h : isVoy r) : (PO cy ad σ)[r]? = some (ad r, .inr (8, [.ref (ad (r + 1)), .ref (ad (r + 2)), .ref (ad (r + 3)), .ref (ad (r + 4)), .ref (ad (r + 5)), .int (σ.1 r 5), .int (σ.1 r 6)])) := by rcases h with rfl | rfl <;> exact PO_at (by decide) rfl
theorem po_Voy_1 {cy : Nat → ClassId} {ad : Nat → Nat} {σ : Mem} {r : Nat} (h : isVoy r) : (PO cy ad σ)[r + 1]? = some (ad (r + 1), .inl (cy 0, 8, .inl (σ.1 (r + 1)))) := by rcases h with rfl | rfl <;> exact PO_at (by decide) rfl
theorem ce_Voy_1 {cy : Nat → ClassId} {ad : Nat → Nat} {J : Nat → Int64} {w : Nat → Int32} {r : Nat} (h : isVoy r) : cel cy ad J (r + 1) w = .inl (cy 0, 8, .inl w) := by rcases h with rfl | rfl <;> rfl
theorem po_Voy_2 {cy : Nat → ClassId} {ad : Nat → Nat} {σ : Mem} {r : Nat} (h : isVoy r) : (PO cy ad σ)[r + 2]? = some (ad (r + 2), .inl (cy 0, 8, .inl (σ.1 (r + 2)))) := by rcases h with rfl | rfl <;> exact PO_at (by decide) rfl
theorem ce_Voy_2 {cy : Nat → ClassId} {ad : Nat → Nat} {J : Nat → Int64} {w : Nat → Int32} {r : Nat} (h : isVoy r) : cel cy ad J (r + 2) w = .inl (cy 0, 8, .inl w) := by rcases h with rfl | rfl <;> rfl
theorem po_Voy_3 {cy : Nat → ClassId} {ad : Nat → Nat} {σ : Mem} {r : Nat} (h : isVoy r) : (PO cy ad σ)[r + 3]? = some (ad (r + 3), .inl (cy 0, 9, .inl (σ.1 (r + 3)))) := by rcases h with rfl | rfl <;> exact PO_at (by decide) rfl
theorem ce_Voy_3 {cy : Nat → ClassId} {ad : Nat → Nat} {J : Nat → Int64} {w : Nat → Int32} {r : Nat} (h : isVoy r) : cel cy ad J (r + 3) w = .inl (cy 0, 9, .inl w) := by rcases h with rfl | rfl <;> rfl
theorem po_Voy_4 {cy : Nat → ClassId} {ad : Nat → Nat} {σ : Mem} {r : Nat} (h : isVoy r) : (PO cy ad σ)[r + 4]? = some (ad (r + 4), .inl (cy 0, 64, .inl (σ.1 (r + 4)))) := by rcases h with rfl | rfl <;> exact PO_at (by decide) rfl
theorem ce_Voy_4 {cy : Nat → ClassId} {ad : Nat → Nat} {J : Nat → Int64} {w : Nat → Int32} {r : Nat} (h : isVoy r) : cel cy ad J (r + 4) w = .inl (cy 0, 64, .inl w) := by rcases h with rfl | rfl <;> rfl
theorem po_Voy_5 {cy : Nat → ClassId} {ad : Nat → Nat} {σ : Mem} {r : Nat} (h : isVoy r) : (PO cy ad σ)[r + 5]? = some (ad (r + 5), .inl (cy 0, 8, .inl (σ.1 (r + 5)))) := by rcases h with rfl | rfl <;> exact PO_at (by decide) rfl
theorem ce_Voy_5 {cy : Nat → ClassId} {ad : Nat → Nat} {J : Nat → Int64} {w : Nat → Int32} {r : Nat} (h : isVoy r) : cel cy ad J (r + 5) w = .inl (cy 0, 8, .inl w) := by rcases h with rfl | rfl <;> rfl
/-- a row of n ints -/
def isRow (r n : Nat) : Prop := r < 80 ∧ ∀ (cy : Nat → ClassId) (ad : Nat → Nat) (J : Nat → Int64) (w : Nat → Int32), cel cy ad J r w = .inl (cy 0, n, .inl w)
theorem po_row {cy : Nat → ClassId} {ad : Nat → Nat} {σ : Mem} {r n : Nat} (h : isRow r n) : (PO cy ad σ)[r]? = some (ad r, .inl (cy 0, n, .inl (σ.1 r))) := PO_at h.1 (h.2 _ _ _ _)
theorem vp_lt {i : Int32} {n : Nat} (h : vp_in i n) : i.toNatClampNeg < n := Nat.not_le.mp fun q => h (Or.inr q)
theorem tx_role {i : Int32} (h : vp_in i 2) : isText (2 + 2 * i.toNatClampNeg) := by have := vp_lt h; unfold isText; omega
theorem sh_role {i : Int32} (h : vp_in i 4) : isSheet (38 + 2 * i.toNatClampNeg) := by have := vp_lt h; unfold isSheet; omega
theorem row_blk {b n k : Nat} (h : ∀ j, j < k → isRow (b + j) n) {i : Int32} (hi : vp_in i k) : isRow (b + i.toNatClampNeg) n := h _ (vp_lt hi)
theorem mk_rows : ∀ j, j < 8 → isRow (13 + j) 6 := by
  intro j hj
  match j, hj with
  | 0, _ | 1, _ | 2, _ | 3, _ | 4, _ | 5, _ | 6, _ | 7, _ => exact ⟨by decide, fun _ _ _ _ => rfl⟩
  | j + 8, hj => exact absurd hj (by omega)
theorem cr_rows : ∀ j, j < 8 → isRow (25 + j) 6 := by
  intro j hj
  match j, hj with
  | 0, _ | 1, _ | 2, _ | 3, _ | 4, _ | 5, _ | 6, _ | 7, _ => exact ⟨by decide, fun _ _ _ _ => rfl⟩
  | j + 8, hj => exact absurd hj (by omega)
theorem mk_row {i : Int32} (hi : vp_in i 8) : isRow (13 + i.toNatClampNeg) 6 := row_blk mk_rows hi
theorem cr_row {i : Int32} (hi : vp_in i 8) : isRow (25 + i.toNatClampNeg) 6 := row_blk cr_rows hi
theorem row_Sheet_1 {r : Nat} (h : isSheet r) : isRow (r + 1) 60 := by rcases h with rfl | rfl | rfl | rfl <;> exact ⟨by decide, fun _ _ _ _ => rfl⟩
theorem row_Voy_1 {r : Nat} (h : isVoy r) : isRow (r + 1) 8 := by rcases h with rfl | rfl <;> exact ⟨by decide, fun _ _ _ _ => rfl⟩
theorem row_Voy_2 {r : Nat} (h : isVoy r) : isRow (r + 2) 8 := by rcases h with rfl | rfl <;> exact ⟨by decide, fun _ _ _ _ => rfl⟩
theorem row_Voy_3 {r : Nat} (h : isVoy r) : isRow (r + 3) 9 := by rcases h with rfl | rfl <;> exact ⟨by decide, fun _ _ _ _ => rfl⟩
theorem row_Voy_4 {r : Nat} (h : isVoy r) : isRow (r + 4) 64 := by rcases h with rfl | rfl <;> exact ⟨by decide, fun _ _ _ _ => rfl⟩
theorem row_Voy_5 {r : Nat} (h : isVoy r) : isRow (r + 5) 8 := by rcases h with rfl | rfl <;> exact ⟨by decide, fun _ _ _ _ => rfl⟩
theorem row_Text_1 {r : Nat} (h : isText r) : isRow (r + 1) (tlen r) := by rcases h with rfl | rfl <;> exact ⟨by decide, fun _ _ _ _ => rfl⟩
theorem row_3 : isRow 3 31 := ⟨by decide, fun _ _ _ _ => rfl⟩
theorem row_5 : isRow 5 63 := ⟨by decide, fun _ _ _ _ => rfl⟩
theorem row_7 : isRow 7 8 := ⟨by decide, fun _ _ _ _ => rfl⟩
theorem row_8 : isRow 8 8 := ⟨by decide, fun _ _ _ _ => rfl⟩
theorem row_9 : isRow 9 8 := ⟨by decide, fun _ _ _ _ => rfl⟩
theorem row_12 : isRow 12 8 := ⟨by decide, fun _ _ _ _ => rfl⟩
theorem row_13 : isRow 13 6 := ⟨by decide, fun _ _ _ _ => rfl⟩
theorem row_14 : isRow 14 6 := ⟨by decide, fun _ _ _ _ => rfl⟩
theorem row_15 : isRow 15 6 := ⟨by decide, fun _ _ _ _ => rfl⟩
theorem row_16 : isRow 16 6 := ⟨by decide, fun _ _ _ _ => rfl⟩
theorem row_17 : isRow 17 6 := ⟨by decide, fun _ _ _ _ => rfl⟩
theorem row_18 : isRow 18 6 := ⟨by decide, fun _ _ _ _ => rfl⟩
theorem row_19 : isRow 19 6 := ⟨by decide, fun _ _ _ _ => rfl⟩
theorem row_20 : isRow 20 6 := ⟨by decide, fun _ _ _ _ => rfl⟩
theorem row_22 : isRow 22 8 := ⟨by decide, fun _ _ _ _ => rfl⟩
theorem row_23 : isRow 23 8 := ⟨by decide, fun _ _ _ _ => rfl⟩
theorem row_25 : isRow 25 6 := ⟨by decide, fun _ _ _ _ => rfl⟩
theorem row_26 : isRow 26 6 := ⟨by decide, fun _ _ _ _ => rfl⟩
theorem row_27 : isRow 27 6 := ⟨by decide, fun _ _ _ _ => rfl⟩
theorem row_28 : isRow 28 6 := ⟨by decide, fun _ _ _ _ => rfl⟩
theorem row_29 : isRow 29 6 := ⟨by decide, fun _ _ _ _ => rfl⟩
theorem row_30 : isRow 30 6 := ⟨by decide, fun _ _ _ _ => rfl⟩
theorem row_31 : isRow 31 6 := ⟨by decide, fun _ _ _ _ => rfl⟩
theorem row_32 : isRow 32 6 := ⟨by decide, fun _ _ _ _ => rfl⟩
theorem row_34 : isRow 34 8 := ⟨by decide, fun _ _ _ _ => rfl⟩
theorem row_35 : isRow 35 8 := ⟨by decide, fun _ _ _ _ => rfl⟩
theorem row_36 : isRow 36 8 := ⟨by decide, fun _ _ _ _ => rfl⟩
theorem row_39 : isRow 39 60 := ⟨by decide, fun _ _ _ _ => rfl⟩
theorem row_41 : isRow 41 60 := ⟨by decide, fun _ _ _ _ => rfl⟩
theorem row_43 : isRow 43 60 := ⟨by decide, fun _ _ _ _ => rfl⟩
theorem row_45 : isRow 45 60 := ⟨by decide, fun _ _ _ _ => rfl⟩
theorem row_47 : isRow 47 8 := ⟨by decide, fun _ _ _ _ => rfl⟩
theorem row_48 : isRow 48 8 := ⟨by decide, fun _ _ _ _ => rfl⟩
theorem row_49 : isRow 49 9 := ⟨by decide, fun _ _ _ _ => rfl⟩
theorem row_50 : isRow 50 64 := ⟨by decide, fun _ _ _ _ => rfl⟩
theorem row_51 : isRow 51 8 := ⟨by decide, fun _ _ _ _ => rfl⟩
theorem row_53 : isRow 53 8 := ⟨by decide, fun _ _ _ _ => rfl⟩
theorem row_54 : isRow 54 8 := ⟨by decide, fun _ _ _ _ => rfl⟩
theorem row_55 : isRow 55 9 := ⟨by decide, fun _ _ _ _ => rfl⟩
theorem row_56 : isRow 56 64 := ⟨by decide, fun _ _ _ _ => rfl⟩
theorem row_57 : isRow 57 8 := ⟨by decide, fun _ _ _ _ => rfl⟩
theorem row_60 : isRow 60 9 := ⟨by decide, fun _ _ _ _ => rfl⟩
theorem row_62 : isRow 62 6 := ⟨by decide, fun _ _ _ _ => rfl⟩
theorem row_63 : isRow 63 80 := ⟨by decide, fun _ _ _ _ => rfl⟩
theorem row_65 : isRow 65 4 := ⟨by decide, fun _ _ _ _ => rfl⟩
theorem row_66 : isRow 66 4 := ⟨by decide, fun _ _ _ _ => rfl⟩
theorem row_67 : isRow 67 240 := ⟨by decide, fun _ _ _ _ => rfl⟩
theorem row_68 : isRow 68 60 := ⟨by decide, fun _ _ _ _ => rfl⟩
theorem row_69 : isRow 69 128 := ⟨by decide, fun _ _ _ _ => rfl⟩
theorem row_70 : isRow 70 2 := ⟨by decide, fun _ _ _ _ => rfl⟩
theorem row_71 : isRow 71 24 := ⟨by decide, fun _ _ _ _ => rfl⟩
theorem row_72 : isRow 72 56 := ⟨by decide, fun _ _ _ _ => rfl⟩
theorem row_73 : isRow 73 16 := ⟨by decide, fun _ _ _ _ => rfl⟩
theorem row_74 : isRow 74 8 := ⟨by decide, fun _ _ _ _ => rfl⟩
theorem row_75 : isRow 75 64 := ⟨by decide, fun _ _ _ _ => rfl⟩
theorem row_76 : isRow 76 64 := ⟨by decide, fun _ _ _ _ => rfl⟩
theorem row_77 : isRow 77 8 := ⟨by decide, fun _ _ _ _ => rfl⟩
theorem row_78 : isRow 78 24 := ⟨by decide, fun _ _ _ _ => rfl⟩
theorem row_79 : isRow 79 80 := ⟨by decide, fun _ _ _ _ => rfl⟩
def AA (ad : Nat → Nat) : Nat → Prop := fun q => ∃ r, r < 80 ∧ q = ad r
def AdI (ad : Nat → Nat) : Prop := ∀ i j, i < 80 → j < 80 → ad i = ad j → i = j
theorem PO_inv {cy : Nat → ClassId} {ad : Nat → Nat} {σ : Mem} {k : Nat} {q : Nat × va_E} (h : (PO cy ad σ)[k]? = some q) : k < 80 ∧ q.1 = ad k := by
  by_cases hk : k < 80
  · rw [PO_get hk] at h
    cases h
    exact ⟨hk, rfl⟩
  · rw [PO_none (Nat.le_of_not_lt hk)] at h
    cases h
theorem PO_D {cy : Nat → ClassId} {ad : Nat → Nat} {σ : Mem} (h : AdI ad) : va_D (AA ad) (PO cy ad σ) := by
  refine ⟨fun i j x y hi hj hxy => ?_, fun k q hk => ?_⟩
  · obtain ⟨h1, e1⟩ := PO_inv hi
    obtain ⟨h2, e2⟩ := PO_inv hj
    exact h i j h1 h2 (by rw [← e1, ← e2, hxy])
  · obtain ⟨h1, e1⟩ := PO_inv hk
    exact ⟨k, h1, e1⟩
def tyL (cy : Nat → ClassId) : List (ClassId × FieldType) := [(cy 0, .int), (cy 1, .long), (cy 2, .object "BowingBridges$Text"), (cy 3, .object "BowingBridges$Sheet"), (cy 4, .array .int)]
