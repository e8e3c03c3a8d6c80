/-! 12b: the memory at the start; what the constructors made is the pool -/
def z0 (r : Nat) : Nat → Int32 := match r with
  | 6 => fun i => match i with | 4 => -1 | _ => 0
  | 10 => fun i => match i with | 3 => -1 | _ => 0
  | 38 => fun i => match i with | 3 => 1 | _ => 0
  | 40 => fun i => match i with | 3 => 1 | _ => 0
  | 42 => fun i => match i with | 3 => 1 | _ => 0
  | 44 => fun i => match i with | 3 => 1 | _ => 0
  | 64 => fun i => match i with | 13 => 255 | 14 => -1 | _ => 0
  | 65 => upd (upd (upd (upd (fun _ => 0) 0 (-1)) 1 (-1)) 2 (-1)) 3 (-1)
  | _ => fun _ => 0
def s0 : Mem := (z0, fun _ => 0)
def adL (u : Nat → Nat → Nat) (v : Nat → Nat) : List Nat := [u 0 0, u 0 1, u 9 0, u 9 1, u 10 0, u 10 1, u 1 0, u 1 1, u 1 2, u 1 3, u 2 0, u 2 1, u 2 2, u 2 3, u 2 4, u 2 5, u 2 6, u 2 7, u 2 8, u 2 9, u 2 10, u 3 0, u 3 1, u 3 2, u 3 3, u 3 4, u 3 5, u 3 6, u 3 7, u 3 8, u 3 9, u 3 10, u 3 11, u 4 0, u 4 1, u 4 2, u 4 3, u 0 2, u 11 0, u 11 1, u 12 0, u 12 1, u 13 0, u 13 1, u 14 0, u 14 1, u 5 0, u 5 1, u 5 2, u 5 3, u 5 4, u 5 5, u 6 0, u 6 1, u 6 2, u 6 3, u 6 4, u 6 5, u 7 0, u 7 1, u 7 2, u 8 0, u 0 3, u 0 4, v 0, v 1, v 2, v 3, v 4, v 5, v 6, v 7, v 8, v 9, v 10, v 11, v 12, v 13, v 14, v 15]
def adO (u : Nat → Nat → Nat) (v : Nat → Nat) (r : Nat) : Nat := (adL u v).getD r 0
def ixO (r : Nat) : Nat := ([0, 1, 52, 53, 54, 55, 3, 4, 5, 6, 7, 8, 17, 9, 10, 11, 12, 13, 14, 15, 16, 18, 19, 20, 21, 22, 23, 24, 25, 26, 27, 28, 29, 30, 31, 32, 33, 2, 56, 57, 58, 59, 60, 61, 62, 63, 34, 35, 36, 37, 38, 39, 40, 41, 42, 43, 44, 45, 46, 47, 48, 49, 50, 51, 64, 65, 66, 67, 68, 69, 70, 71, 72, 73, 74, 75, 76, 77, 78, 79] : List Nat).getD r 0
theorem ixO_inj : ∀ i, i < 80 → ∀ j, j < 80 → ixO i = ixO j → i = j := by decide +kernel
theorem at_row {D : va_G} {a n : Nat} {c : ClassId} {f g : Nat → Option Nat} {H : Heap} (h : va_at D vwCl (a, .inl (c, n, .inr (.inr (.inr (.inr f))))) H) (hf : ∀ i, i < n → f i = g i) : va_at D vwCl (a, .inl (c, n, .inr (.inr (.inr (.inr g))))) H := by
  have h : H[a]? = some (vp_cell c (n, .inr (.inr (.inr (.inr f))))) := h
  show H[a]? = some (vp_cell c (n, .inr (.inr (.inr (.inr g)))))
  rw [h, vp_cell_q, vp_cell_q]
  exact congrArg some (ar_congr fun j hj => by rw [hf j hj])
def XL (cy : Nat → ClassId) (u : Nat → Nat → Nat) (v : Nat → Nat) : va_W := [(u 0 0, .inr (9, [.ref (u 0 1), .ref (u 1 0), .ref (u 2 0), .ref (u 3 0), .ref (u 4 0), .ref (u 0 2), .ref (u 5 0), .ref (u 6 0), .ref (u 7 0), .ref (u 8 0), .ref (u 0 3), .ref (u 0 4), .int 0])),
  (u 0 1, .inl (cy 2, 2, .inr (.inr (.inr (.inr (va_up (va_up (fun _ => none) 0 (some (u 9 0))) 1 (some (u 10 0)))))))),
  (u 0 2, .inl (cy 3, 4, .inr (.inr (.inr (.inr (va_up (va_up (va_up (va_up (fun _ => none) 0 (some (u 11 0))) 1 (some (u 12 0))) 2 (some (u 13 0))) 3 (some (u 14 0)))))))),
  (u 1 0, .inr (2, [.ref (u 1 1), .ref (u 1 2), .ref (u 1 3), .int 0, .int (-1)])),
  (u 1 1, rI cy 8),
  (u 1 2, rI cy 8),
  (u 1 3, rI cy 8),
  (u 2 0, .inr (1, [.ref (u 2 1), .ref (u 2 2), .int 0, .int (-1)])),
  (u 2 1, .inl (cy 4, 8, .inr (.inr (.inr (.inr (fun i => some (u 2 (i + 3)))))))),
  (u 2 3, rI cy 6),
  (u 2 4, rI cy 6),
  (u 2 5, rI cy 6),
  (u 2 6, rI cy 6),
  (u 2 7, rI cy 6),
  (u 2 8, rI cy 6),
  (u 2 9, rI cy 6),
  (u 2 10, rI cy 6),
  (u 2 2, rI cy 8),
  (u 3 0, .inr (4, [.ref (u 3 1), .ref (u 3 2), .ref (u 3 3), .int 0])),
  (u 3 1, rI cy 8),
  (u 3 2, rI cy 8),
  (u 3 3, .inl (cy 4, 8, .inr (.inr (.inr (.inr (fun i => some (u 3 (i + 4)))))))),
  (u 3 4, rI cy 6),
  (u 3 5, rI cy 6),
  (u 3 6, rI cy 6),
  (u 3 7, rI cy 6),
  (u 3 8, rI cy 6),
  (u 3 9, rI cy 6),
  (u 3 10, rI cy 6),
  (u 3 11, rI cy 6),
  (u 4 0, .inr (6, [.ref (u 4 1), .ref (u 4 2), .ref (u 4 3), .int 0])),
  (u 4 1, rI cy 8),
  (u 4 2, rI cy 8),
  (u 4 3, rI cy 8),
  (u 5 0, .inr (8, [.ref (u 5 1), .ref (u 5 2), .ref (u 5 3), .ref (u 5 4), .ref (u 5 5), .int 0, .int 0])),
  (u 5 1, rI cy 8),
  (u 5 2, rI cy 8),
  (u 5 3, rI cy 9),
  (u 5 4, rI cy 64),
  (u 5 5, rI cy 8),
  (u 6 0, .inr (8, [.ref (u 6 1), .ref (u 6 2), .ref (u 6 3), .ref (u 6 4), .ref (u 6 5), .int 0, .int 0])),
  (u 6 1, rI cy 8),
  (u 6 2, rI cy 8),
  (u 6 3, rI cy 9),
  (u 6 4, rI cy 64),
  (u 6 5, rI cy 8),
  (u 7 0, .inr (0, [.ref (u 7 1), .ref (u 7 2), .int 0, .int 0])),
  (u 7 1, .inl (cy 1, 256, .inr (.inl (fun _ => 0)))),
  (u 7 2, rI cy 9),
  (u 8 0, .inr (3, [.int 0, .int 0, .int 0, .int 0, .int 0])),
  (u 0 3, rI cy 6),
  (u 0 4, rI cy 80),
  (u 9 0, .inr (7, [.ref (u 9 1), .int 0])),
  (u 9 1, rI cy 31),
  (u 10 0, .inr (7, [.ref (u 10 1), .int 0])),
  (u 10 1, rI cy 63),
  (u 11 0, .inr (5, [.ref (u 11 1), .int 0, .int 0, .int 1])),
  (u 11 1, rI cy 60),
  (u 12 0, .inr (5, [.ref (u 12 1), .int 0, .int 0, .int 1])),
  (u 12 1, rI cy 60),
  (u 13 0, .inr (5, [.ref (u 13 1), .int 0, .int 0, .int 1])),
  (u 13 1, rI cy 60),
  (u 14 0, .inr (5, [.ref (u 14 1), .int 0, .int 0, .int 1])),
  (u 14 1, rI cy 60),
  (v 0, .inr (10, [.ref (v 1), .ref (v 2), .ref (v 3), .ref (v 4), .int 0, .ref (v 5), .ref (v 6), .int 0, .ref (v 7), .int 0, .ref (v 8), .int 0, .ref (v 9), .int 255, .int (-1), .ref (v 10), .ref (v 11), .ref (v 12), .ref (v 13), .int 0, .int 0, .int 0, .int 0, .ref (v 14), .ref (v 15), .int 0])),
  (v 1, .inl (cy 0, 4, .inl (upd (upd (upd (upd (fun _ => 0) 0 (-1)) 1 (-1)) 2 (-1)) 3 (-1)))),
  (v 2, rI cy 4),
  (v 3, rI cy 240),
  (v 4, rI cy 60),
  (v 5, rI cy 128),
  (v 6, rI cy 2),
  (v 7, rI cy 24),
  (v 8, rI cy 56),
  (v 9, rI cy 16),
  (v 10, rI cy 8),
  (v 11, rI cy 64),
  (v 12, rI cy 64),
  (v 13, rI cy 8),
  (v 14, rI cy 24),
  (v 15, rI cy 80)]
set_option maxRecDepth 100000 in
set_option maxHeartbeats 4000000 in
theorem xx_list (cy : Nat → ClassId) (u : Nat → Nat → Nat) (v : Nat → Nat) : wX9 cy u ++ wX10 cy v = XL cy u v := rfl
theorem P_all {D : va_G} {cl : List vw_C} {ws : va_W} {H : Heap} (h : va_P D cl ws H) : ∀ q ∈ ws, va_at D cl q H := fun q hq => by
  obtain ⟨k, hk⟩ := List.getElem?_of_mem hq
  exact h k q hk
set_option maxRecDepth 100000 in
theorem xa_0 (cy : Nat → ClassId) (u : Nat → Nat → Nat) (v : Nat → Nat) : ∃ e : va_E, (XL cy u v)[0]? = some (adO u v 0, e) := ⟨_, rfl⟩
set_option maxRecDepth 100000 in
theorem xp_0 {D : va_G} {cy : Nat → ClassId} {u : Nat → Nat → Nat} {v : Nat → Nat} {H : Heap} (h : ∀ q ∈ XL cy u v, va_at D vwCl q H) : va_at D vwCl (adO u v 0, cel cy (adO u v) s0.2 0 (s0.1 0)) H := h _ (List.mem_of_getElem? (i := 0) rfl)
set_option maxRecDepth 100000 in
theorem xa_1 (cy : Nat → ClassId) (u : Nat → Nat → Nat) (v : Nat → Nat) : ∃ e : va_E, (XL cy u v)[1]? = some (adO u v 1, e) := ⟨_, rfl⟩
set_option maxRecDepth 100000 in
theorem xp_1 {D : va_G} {cy : Nat → ClassId} {u : Nat → Nat → Nat} {v : Nat → Nat} {H : Heap} (h : ∀ q ∈ XL cy u v, va_at D vwCl q H) : va_at D vwCl (adO u v 1, cel cy (adO u v) s0.2 1 (s0.1 1)) H := at_row (h _ (List.mem_of_getElem? (i := 1) rfl)) (fun i hi => by
    match i, hi with
    | 0, _ | 1, _ => rfl
    | i + 2, hi => exact absurd hi (by omega))
set_option maxRecDepth 100000 in
theorem xa_2 (cy : Nat → ClassId) (u : Nat → Nat → Nat) (v : Nat → Nat) : ∃ e : va_E, (XL cy u v)[52]? = some (adO u v 2, e) := ⟨_, rfl⟩
set_option maxRecDepth 100000 in
theorem xp_2 {D : va_G} {cy : Nat → ClassId} {u : Nat → Nat → Nat} {v : Nat → Nat} {H : Heap} (h : ∀ q ∈ XL cy u v, va_at D vwCl q H) : va_at D vwCl (adO u v 2, cel cy (adO u v) s0.2 2 (s0.1 2)) H := h _ (List.mem_of_getElem? (i := 52) rfl)
set_option maxRecDepth 100000 in
theorem xa_3 (cy : Nat → ClassId) (u : Nat → Nat → Nat) (v : Nat → Nat) : ∃ e : va_E, (XL cy u v)[53]? = some (adO u v 3, e) := ⟨_, rfl⟩
set_option maxRecDepth 100000 in
theorem xp_3 {D : va_G} {cy : Nat → ClassId} {u : Nat → Nat → Nat} {v : Nat → Nat} {H : Heap} (h : ∀ q ∈ XL cy u v, va_at D vwCl q H) : va_at D vwCl (adO u v 3, cel cy (adO u v) s0.2 3 (s0.1 3)) H := h _ (List.mem_of_getElem? (i := 53) rfl)
set_option maxRecDepth 100000 in
theorem xa_4 (cy : Nat → ClassId) (u : Nat → Nat → Nat) (v : Nat → Nat) : ∃ e : va_E, (XL cy u v)[54]? = some (adO u v 4, e) := ⟨_, rfl⟩
set_option maxRecDepth 100000 in
theorem xp_4 {D : va_G} {cy : Nat → ClassId} {u : Nat → Nat → Nat} {v : Nat → Nat} {H : Heap} (h : ∀ q ∈ XL cy u v, va_at D vwCl q H) : va_at D vwCl (adO u v 4, cel cy (adO u v) s0.2 4 (s0.1 4)) H := h _ (List.mem_of_getElem? (i := 54) rfl)
set_option maxRecDepth 100000 in
theorem xa_5 (cy : Nat → ClassId) (u : Nat → Nat → Nat) (v : Nat → Nat) : ∃ e : va_E, (XL cy u v)[55]? = some (adO u v 5, e) := ⟨_, rfl⟩
set_option maxRecDepth 100000 in
theorem xp_5 {D : va_G} {cy : Nat → ClassId} {u : Nat → Nat → Nat} {v : Nat → Nat} {H : Heap} (h : ∀ q ∈ XL cy u v, va_at D vwCl q H) : va_at D vwCl (adO u v 5, cel cy (adO u v) s0.2 5 (s0.1 5)) H := h _ (List.mem_of_getElem? (i := 55) rfl)
set_option maxRecDepth 100000 in
theorem xa_6 (cy : Nat → ClassId) (u : Nat → Nat → Nat) (v : Nat → Nat) : ∃ e : va_E, (XL cy u v)[3]? = some (adO u v 6, e) := ⟨_, rfl⟩
set_option maxRecDepth 100000 in
theorem xp_6 {D : va_G} {cy : Nat → ClassId} {u : Nat → Nat → Nat} {v : Nat → Nat} {H : Heap} (h : ∀ q ∈ XL cy u v, va_at D vwCl q H) : va_at D vwCl (adO u v 6, cel cy (adO u v) s0.2 6 (s0.1 6)) H := h _ (List.mem_of_getElem? (i := 3) rfl)
set_option maxRecDepth 100000 in
theorem xa_7 (cy : Nat → ClassId) (u : Nat → Nat → Nat) (v : Nat → Nat) : ∃ e : va_E, (XL cy u v)[4]? = some (adO u v 7, e) := ⟨_, rfl⟩
set_option maxRecDepth 100000 in
theorem xp_7 {D : va_G} {cy : Nat → ClassId} {u : Nat → Nat → Nat} {v : Nat → Nat} {H : Heap} (h : ∀ q ∈ XL cy u v, va_at D vwCl q H) : va_at D vwCl (adO u v 7, cel cy (adO u v) s0.2 7 (s0.1 7)) H := h _ (List.mem_of_getElem? (i := 4) rfl)
set_option maxRecDepth 100000 in
theorem xa_8 (cy : Nat → ClassId) (u : Nat → Nat → Nat) (v : Nat → Nat) : ∃ e : va_E, (XL cy u v)[5]? = some (adO u v 8, e) := ⟨_, rfl⟩
set_option maxRecDepth 100000 in
theorem xp_8 {D : va_G} {cy : Nat → ClassId} {u : Nat → Nat → Nat} {v : Nat → Nat} {H : Heap} (h : ∀ q ∈ XL cy u v, va_at D vwCl q H) : va_at D vwCl (adO u v 8, cel cy (adO u v) s0.2 8 (s0.1 8)) H := h _ (List.mem_of_getElem? (i := 5) rfl)
set_option maxRecDepth 100000 in
theorem xa_9 (cy : Nat → ClassId) (u : Nat → Nat → Nat) (v : Nat → Nat) : ∃ e : va_E, (XL cy u v)[6]? = some (adO u v 9, e) := ⟨_, rfl⟩
set_option maxRecDepth 100000 in
theorem xp_9 {D : va_G} {cy : Nat → ClassId} {u : Nat → Nat → Nat} {v : Nat → Nat} {H : Heap} (h : ∀ q ∈ XL cy u v, va_at D vwCl q H) : va_at D vwCl (adO u v 9, cel cy (adO u v) s0.2 9 (s0.1 9)) H := h _ (List.mem_of_getElem? (i := 6) rfl)
set_option maxRecDepth 100000 in
theorem xa_10 (cy : Nat → ClassId) (u : Nat → Nat → Nat) (v : Nat → Nat) : ∃ e : va_E, (XL cy u v)[7]? = some (adO u v 10, e) := ⟨_, rfl⟩
set_option maxRecDepth 100000 in
theorem xp_10 {D : va_G} {cy : Nat → ClassId} {u : Nat → Nat → Nat} {v : Nat → Nat} {H : Heap} (h : ∀ q ∈ XL cy u v, va_at D vwCl q H) : va_at D vwCl (adO u v 10, cel cy (adO u v) s0.2 10 (s0.1 10)) H := h _ (List.mem_of_getElem? (i := 7) rfl)
set_option maxRecDepth 100000 in
theorem xa_11 (cy : Nat → ClassId) (u : Nat → Nat → Nat) (v : Nat → Nat) : ∃ e : va_E, (XL cy u v)[8]? = some (adO u v 11, e) := ⟨_, rfl⟩
set_option maxRecDepth 100000 in
theorem xp_11 {D : va_G} {cy : Nat → ClassId} {u : Nat → Nat → Nat} {v : Nat → Nat} {H : Heap} (h : ∀ q ∈ XL cy u v, va_at D vwCl q H) : va_at D vwCl (adO u v 11, cel cy (adO u v) s0.2 11 (s0.1 11)) H := at_row (h _ (List.mem_of_getElem? (i := 8) rfl)) (fun i hi => by
    match i, hi with
    | 0, _ | 1, _ | 2, _ | 3, _ | 4, _ | 5, _ | 6, _ | 7, _ => rfl
    | i + 8, hi => exact absurd hi (by omega))
set_option maxRecDepth 100000 in
theorem xa_12 (cy : Nat → ClassId) (u : Nat → Nat → Nat) (v : Nat → Nat) : ∃ e : va_E, (XL cy u v)[17]? = some (adO u v 12, e) := ⟨_, rfl⟩
set_option maxRecDepth 100000 in
theorem xp_12 {D : va_G} {cy : Nat → ClassId} {u : Nat → Nat → Nat} {v : Nat → Nat} {H : Heap} (h : ∀ q ∈ XL cy u v, va_at D vwCl q H) : va_at D vwCl (adO u v 12, cel cy (adO u v) s0.2 12 (s0.1 12)) H := h _ (List.mem_of_getElem? (i := 17) rfl)
set_option maxRecDepth 100000 in
theorem xa_13 (cy : Nat → ClassId) (u : Nat → Nat → Nat) (v : Nat → Nat) : ∃ e : va_E, (XL cy u v)[9]? = some (adO u v 13, e) := ⟨_, rfl⟩
set_option maxRecDepth 100000 in
theorem xp_13 {D : va_G} {cy : Nat → ClassId} {u : Nat → Nat → Nat} {v : Nat → Nat} {H : Heap} (h : ∀ q ∈ XL cy u v, va_at D vwCl q H) : va_at D vwCl (adO u v 13, cel cy (adO u v) s0.2 13 (s0.1 13)) H := h _ (List.mem_of_getElem? (i := 9) rfl)
set_option maxRecDepth 100000 in
theorem xa_14 (cy : Nat → ClassId) (u : Nat → Nat → Nat) (v : Nat → Nat) : ∃ e : va_E, (XL cy u v)[10]? = some (adO u v 14, e) := ⟨_, rfl⟩
set_option maxRecDepth 100000 in
theorem xp_14 {D : va_G} {cy : Nat → ClassId} {u : Nat → Nat → Nat} {v : Nat → Nat} {H : Heap} (h : ∀ q ∈ XL cy u v, va_at D vwCl q H) : va_at D vwCl (adO u v 14, cel cy (adO u v) s0.2 14 (s0.1 14)) H := h _ (List.mem_of_getElem? (i := 10) rfl)
set_option maxRecDepth 100000 in
theorem xa_15 (cy : Nat → ClassId) (u : Nat → Nat → Nat) (v : Nat → Nat) : ∃ e : va_E, (XL cy u v)[11]? = some (adO u v 15, e) := ⟨_, rfl⟩
set_option maxRecDepth 100000 in
theorem xp_15 {D : va_G} {cy : Nat → ClassId} {u : Nat → Nat → Nat} {v : Nat → Nat} {H : Heap} (h : ∀ q ∈ XL cy u v, va_at D vwCl q H) : va_at D vwCl (adO u v 15, cel cy (adO u v) s0.2 15 (s0.1 15)) H := h _ (List.mem_of_getElem? (i := 11) rfl)
set_option maxRecDepth 100000 in
theorem xa_16 (cy : Nat → ClassId) (u : Nat → Nat → Nat) (v : Nat → Nat) : ∃ e : va_E, (XL cy u v)[12]? = some (adO u v 16, e) := ⟨_, rfl⟩
set_option maxRecDepth 100000 in
theorem xp_16 {D : va_G} {cy : Nat → ClassId} {u : Nat → Nat → Nat} {v : Nat → Nat} {H : Heap} (h : ∀ q ∈ XL cy u v, va_at D vwCl q H) : va_at D vwCl (adO u v 16, cel cy (adO u v) s0.2 16 (s0.1 16)) H := h _ (List.mem_of_getElem? (i := 12) rfl)
set_option maxRecDepth 100000 in
theorem xa_17 (cy : Nat → ClassId) (u : Nat → Nat → Nat) (v : Nat → Nat) : ∃ e : va_E, (XL cy u v)[13]? = some (adO u v 17, e) := ⟨_, rfl⟩
set_option maxRecDepth 100000 in
theorem xp_17 {D : va_G} {cy : Nat → ClassId} {u : Nat → Nat → Nat} {v : Nat → Nat} {H : Heap} (h : ∀ q ∈ XL cy u v, va_at D vwCl q H) : va_at D vwCl (adO u v 17, cel cy (adO u v) s0.2 17 (s0.1 17)) H := h _ (List.mem_of_getElem? (i := 13) rfl)
set_option maxRecDepth 100000 in
theorem xa_18 (cy : Nat → ClassId) (u : Nat → Nat → Nat) (v : Nat → Nat) : ∃ e : va_E, (XL cy u v)[14]? = some (adO u v 18, e) := ⟨_, rfl⟩
set_option maxRecDepth 100000 in
theorem xp_18 {D : va_G} {cy : Nat → ClassId} {u : Nat → Nat → Nat} {v : Nat → Nat} {H : Heap} (h : ∀ q ∈ XL cy u v, va_at D vwCl q H) : va_at D vwCl (adO u v 18, cel cy (adO u v) s0.2 18 (s0.1 18)) H := h _ (List.mem_of_getElem? (i := 14) rfl)
set_option maxRecDepth 100000 in
theorem xa_19 (cy : Nat → ClassId) (u : Nat → Nat → Nat) (v : Nat → Nat) : ∃ e : va_E, (XL cy u v)[15]? = some (adO u v 19, e) := ⟨_, rfl⟩
set_option maxRecDepth 100000 in
theorem xp_19 {D : va_G} {cy : Nat → ClassId} {u : Nat → Nat → Nat} {v : Nat → Nat} {H : Heap} (h : ∀ q ∈ XL cy u v, va_at D vwCl q H) : va_at D vwCl (adO u v 19, cel cy (adO u v) s0.2 19 (s0.1 19)) H := h _ (List.mem_of_getElem? (i := 15) rfl)
set_option maxRecDepth 100000 in
theorem xa_20 (cy : Nat → ClassId) (u : Nat → Nat → Nat) (v : Nat → Nat) : ∃ e : va_E, (XL cy u v)[16]? = some (adO u v 20, e) := ⟨_, rfl⟩
set_option maxRecDepth 100000 in
theorem xp_20 {D : va_G} {cy : Nat → ClassId} {u : Nat → Nat → Nat} {v : Nat → Nat} {H : Heap} (h : ∀ q ∈ XL cy u v, va_at D vwCl q H) : va_at D vwCl (adO u v 20, cel cy (adO u v) s0.2 20 (s0.1 20)) H := h _ (List.mem_of_getElem? (i := 16) rfl)
set_option maxRecDepth 100000 in
theorem xa_21 (cy : Nat → ClassId) (u : Nat → Nat → Nat) (v : Nat → Nat) : ∃ e : va_E, (XL cy u v)[18]? = some (adO u v 21, e) := ⟨_, rfl⟩
set_option maxRecDepth 100000 in
theorem xp_21 {D : va_G} {cy : Nat → ClassId} {u : Nat → Nat → Nat} {v : Nat → Nat} {H : Heap} (h : ∀ q ∈ XL cy u v, va_at D vwCl q H) : va_at D vwCl (adO u v 21, cel cy (adO u v) s0.2 21 (s0.1 21)) H := h _ (List.mem_of_getElem? (i := 18) rfl)
set_option maxRecDepth 100000 in
theorem xa_22 (cy : Nat → ClassId) (u : Nat → Nat → Nat) (v : Nat → Nat) : ∃ e : va_E, (XL cy u v)[19]? = some (adO u v 22, e) := ⟨_, rfl⟩
set_option maxRecDepth 100000 in
theorem xp_22 {D : va_G} {cy : Nat → ClassId} {u : Nat → Nat → Nat} {v : Nat → Nat} {H : Heap} (h : ∀ q ∈ XL cy u v, va_at D vwCl q H) : va_at D vwCl (adO u v 22, cel cy (adO u v) s0.2 22 (s0.1 22)) H := h _ (List.mem_of_getElem? (i := 19) rfl)
set_option maxRecDepth 100000 in
theorem xa_23 (cy : Nat → ClassId) (u : Nat → Nat → Nat) (v : Nat → Nat) : ∃ e : va_E, (XL cy u v)[20]? = some (adO u v 23, e) := ⟨_, rfl⟩
set_option maxRecDepth 100000 in
theorem xp_23 {D : va_G} {cy : Nat → ClassId} {u : Nat → Nat → Nat} {v : Nat → Nat} {H : Heap} (h : ∀ q ∈ XL cy u v, va_at D vwCl q H) : va_at D vwCl (adO u v 23, cel cy (adO u v) s0.2 23 (s0.1 23)) H := h _ (List.mem_of_getElem? (i := 20) rfl)
set_option maxRecDepth 100000 in
theorem xa_24 (cy : Nat → ClassId) (u : Nat → Nat → Nat) (v : Nat → Nat) : ∃ e : va_E, (XL cy u v)[21]? = some (adO u v 24, e) := ⟨_, rfl⟩
set_option maxRecDepth 100000 in
theorem xp_24 {D : va_G} {cy : Nat → ClassId} {u : Nat → Nat → Nat} {v : Nat → Nat} {H : Heap} (h : ∀ q ∈ XL cy u v, va_at D vwCl q H) : va_at D vwCl (adO u v 24, cel cy (adO u v) s0.2 24 (s0.1 24)) H := at_row (h _ (List.mem_of_getElem? (i := 21) rfl)) (fun i hi => by
    match i, hi with
    | 0, _ | 1, _ | 2, _ | 3, _ | 4, _ | 5, _ | 6, _ | 7, _ => rfl
    | i + 8, hi => exact absurd hi (by omega))
set_option maxRecDepth 100000 in
theorem xa_25 (cy : Nat → ClassId) (u : Nat → Nat → Nat) (v : Nat → Nat) : ∃ e : va_E, (XL cy u v)[22]? = some (adO u v 25, e) := ⟨_, rfl⟩
set_option maxRecDepth 100000 in
theorem xp_25 {D : va_G} {cy : Nat → ClassId} {u : Nat → Nat → Nat} {v : Nat → Nat} {H : Heap} (h : ∀ q ∈ XL cy u v, va_at D vwCl q H) : va_at D vwCl (adO u v 25, cel cy (adO u v) s0.2 25 (s0.1 25)) H := h _ (List.mem_of_getElem? (i := 22) rfl)
set_option maxRecDepth 100000 in
theorem xa_26 (cy : Nat → ClassId) (u : Nat → Nat → Nat) (v : Nat → Nat) : ∃ e : va_E, (XL cy u v)[23]? = some (adO u v 26, e) := ⟨_, rfl⟩
set_option maxRecDepth 100000 in
theorem xp_26 {D : va_G} {cy : Nat → ClassId} {u : Nat → Nat → Nat} {v : Nat → Nat} {H : Heap} (h : ∀ q ∈ XL cy u v, va_at D vwCl q H) : va_at D vwCl (adO u v 26, cel cy (adO u v) s0.2 26 (s0.1 26)) H := h _ (List.mem_of_getElem? (i := 23) rfl)
set_option maxRecDepth 100000 in
theorem xa_27 (cy : Nat → ClassId) (u : Nat → Nat → Nat) (v : Nat → Nat) : ∃ e : va_E, (XL cy u v)[24]? = some (adO u v 27, e) := ⟨_, rfl⟩
set_option maxRecDepth 100000 in
theorem xp_27 {D : va_G} {cy : Nat → ClassId} {u : Nat → Nat → Nat} {v : Nat → Nat} {H : Heap} (h : ∀ q ∈ XL cy u v, va_at D vwCl q H) : va_at D vwCl (adO u v 27, cel cy (adO u v) s0.2 27 (s0.1 27)) H := h _ (List.mem_of_getElem? (i := 24) rfl)
set_option maxRecDepth 100000 in
theorem xa_28 (cy : Nat → ClassId) (u : Nat → Nat → Nat) (v : Nat → Nat) : ∃ e : va_E, (XL cy u v)[25]? = some (adO u v 28, e) := ⟨_, rfl⟩
set_option maxRecDepth 100000 in
theorem xp_28 {D : va_G} {cy : Nat → ClassId} {u : Nat → Nat → Nat} {v : Nat → Nat} {H : Heap} (h : ∀ q ∈ XL cy u v, va_at D vwCl q H) : va_at D vwCl (adO u v 28, cel cy (adO u v) s0.2 28 (s0.1 28)) H := h _ (List.mem_of_getElem? (i := 25) rfl)
set_option maxRecDepth 100000 in
theorem xa_29 (cy : Nat → ClassId) (u : Nat → Nat → Nat) (v : Nat → Nat) : ∃ e : va_E, (XL cy u v)[26]? = some (adO u v 29, e) := ⟨_, rfl⟩
set_option maxRecDepth 100000 in
theorem xp_29 {D : va_G} {cy : Nat → ClassId} {u : Nat → Nat → Nat} {v : Nat → Nat} {H : Heap} (h : ∀ q ∈ XL cy u v, va_at D vwCl q H) : va_at D vwCl (adO u v 29, cel cy (adO u v) s0.2 29 (s0.1 29)) H := h _ (List.mem_of_getElem? (i := 26) rfl)
set_option maxRecDepth 100000 in
theorem xa_30 (cy : Nat → ClassId) (u : Nat → Nat → Nat) (v : Nat → Nat) : ∃ e : va_E, (XL cy u v)[27]? = some (adO u v 30, e) := ⟨_, rfl⟩
set_option maxRecDepth 100000 in
theorem xp_30 {D : va_G} {cy : Nat → ClassId} {u : Nat → Nat → Nat} {v : Nat → Nat} {H : Heap} (h : ∀ q ∈ XL cy u v, va_at D vwCl q H) : va_at D vwCl (adO u v 30, cel cy (adO u v) s0.2 30 (s0.1 30)) H := h _ (List.mem_of_getElem? (i := 27) rfl)
set_option maxRecDepth 100000 in
theorem xa_31 (cy : Nat → ClassId) (u : Nat → Nat → Nat) (v : Nat → Nat) : ∃ e : va_E, (XL cy u v)[28]? = some (adO u v 31, e) := ⟨_, rfl⟩
set_option maxRecDepth 100000 in
theorem xp_31 {D : va_G} {cy : Nat → ClassId} {u : Nat → Nat → Nat} {v : Nat → Nat} {H : Heap} (h : ∀ q ∈ XL cy u v, va_at D vwCl q H) : va_at D vwCl (adO u v 31, cel cy (adO u v) s0.2 31 (s0.1 31)) H := h _ (List.mem_of_getElem? (i := 28) rfl)
set_option maxRecDepth 100000 in
theorem xa_32 (cy : Nat → ClassId) (u : Nat → Nat → Nat) (v : Nat → Nat) : ∃ e : va_E, (XL cy u v)[29]? = some (adO u v 32, e) := ⟨_, rfl⟩
set_option maxRecDepth 100000 in
theorem xp_32 {D : va_G} {cy : Nat → ClassId} {u : Nat → Nat → Nat} {v : Nat → Nat} {H : Heap} (h : ∀ q ∈ XL cy u v, va_at D vwCl q H) : va_at D vwCl (adO u v 32, cel cy (adO u v) s0.2 32 (s0.1 32)) H := h _ (List.mem_of_getElem? (i := 29) rfl)
set_option maxRecDepth 100000 in
theorem xa_33 (cy : Nat → ClassId) (u : Nat → Nat → Nat) (v : Nat → Nat) : ∃ e : va_E, (XL cy u v)[30]? = some (adO u v 33, e) := ⟨_, rfl⟩
set_option maxRecDepth 100000 in
theorem xp_33 {D : va_G} {cy : Nat → ClassId} {u : Nat → Nat → Nat} {v : Nat → Nat} {H : Heap} (h : ∀ q ∈ XL cy u v, va_at D vwCl q H) : va_at D vwCl (adO u v 33, cel cy (adO u v) s0.2 33 (s0.1 33)) H := h _ (List.mem_of_getElem? (i := 30) rfl)
set_option maxRecDepth 100000 in
theorem xa_34 (cy : Nat → ClassId) (u : Nat → Nat → Nat) (v : Nat → Nat) : ∃ e : va_E, (XL cy u v)[31]? = some (adO u v 34, e) := ⟨_, rfl⟩
set_option maxRecDepth 100000 in
theorem xp_34 {D : va_G} {cy : Nat → ClassId} {u : Nat → Nat → Nat} {v : Nat → Nat} {H : Heap} (h : ∀ q ∈ XL cy u v, va_at D vwCl q H) : va_at D vwCl (adO u v 34, cel cy (adO u v) s0.2 34 (s0.1 34)) H := h _ (List.mem_of_getElem? (i := 31) rfl)
set_option maxRecDepth 100000 in
theorem xa_35 (cy : Nat → ClassId) (u : Nat → Nat → Nat) (v : Nat → Nat) : ∃ e : va_E, (XL cy u v)[32]? = some (adO u v 35, e) := ⟨_, rfl⟩
set_option maxRecDepth 100000 in
theorem xp_35 {D : va_G} {cy : Nat → ClassId} {u : Nat → Nat → Nat} {v : Nat → Nat} {H : Heap} (h : ∀ q ∈ XL cy u v, va_at D vwCl q H) : va_at D vwCl (adO u v 35, cel cy (adO u v) s0.2 35 (s0.1 35)) H := h _ (List.mem_of_getElem? (i := 32) rfl)
set_option maxRecDepth 100000 in
theorem xa_36 (cy : Nat → ClassId) (u : Nat → Nat → Nat) (v : Nat → Nat) : ∃ e : va_E, (XL cy u v)[33]? = some (adO u v 36, e) := ⟨_, rfl⟩
set_option maxRecDepth 100000 in
theorem xp_36 {D : va_G} {cy : Nat → ClassId} {u : Nat → Nat → Nat} {v : Nat → Nat} {H : Heap} (h : ∀ q ∈ XL cy u v, va_at D vwCl q H) : va_at D vwCl (adO u v 36, cel cy (adO u v) s0.2 36 (s0.1 36)) H := h _ (List.mem_of_getElem? (i := 33) rfl)
set_option maxRecDepth 100000 in
theorem xa_37 (cy : Nat → ClassId) (u : Nat → Nat → Nat) (v : Nat → Nat) : ∃ e : va_E, (XL cy u v)[2]? = some (adO u v 37, e) := ⟨_, rfl⟩
set_option maxRecDepth 100000 in
theorem xp_37 {D : va_G} {cy : Nat → ClassId} {u : Nat → Nat → Nat} {v : Nat → Nat} {H : Heap} (h : ∀ q ∈ XL cy u v, va_at D vwCl q H) : va_at D vwCl (adO u v 37, cel cy (adO u v) s0.2 37 (s0.1 37)) H := at_row (h _ (List.mem_of_getElem? (i := 2) rfl)) (fun i hi => by
    match i, hi with
    | 0, _ | 1, _ | 2, _ | 3, _ => rfl
    | i + 4, hi => exact absurd hi (by omega))
set_option maxRecDepth 100000 in
theorem xa_38 (cy : Nat → ClassId) (u : Nat → Nat → Nat) (v : Nat → Nat) : ∃ e : va_E, (XL cy u v)[56]? = some (adO u v 38, e) := ⟨_, rfl⟩
set_option maxRecDepth 100000 in
theorem xp_38 {D : va_G} {cy : Nat → ClassId} {u : Nat → Nat → Nat} {v : Nat → Nat} {H : Heap} (h : ∀ q ∈ XL cy u v, va_at D vwCl q H) : va_at D vwCl (adO u v 38, cel cy (adO u v) s0.2 38 (s0.1 38)) H := h _ (List.mem_of_getElem? (i := 56) rfl)
set_option maxRecDepth 100000 in
theorem xa_39 (cy : Nat → ClassId) (u : Nat → Nat → Nat) (v : Nat → Nat) : ∃ e : va_E, (XL cy u v)[57]? = some (adO u v 39, e) := ⟨_, rfl⟩
set_option maxRecDepth 100000 in
theorem xp_39 {D : va_G} {cy : Nat → ClassId} {u : Nat → Nat → Nat} {v : Nat → Nat} {H : Heap} (h : ∀ q ∈ XL cy u v, va_at D vwCl q H) : va_at D vwCl (adO u v 39, cel cy (adO u v) s0.2 39 (s0.1 39)) H := h _ (List.mem_of_getElem? (i := 57) rfl)
set_option maxRecDepth 100000 in
theorem xa_40 (cy : Nat → ClassId) (u : Nat → Nat → Nat) (v : Nat → Nat) : ∃ e : va_E, (XL cy u v)[58]? = some (adO u v 40, e) := ⟨_, rfl⟩
set_option maxRecDepth 100000 in
theorem xp_40 {D : va_G} {cy : Nat → ClassId} {u : Nat → Nat → Nat} {v : Nat → Nat} {H : Heap} (h : ∀ q ∈ XL cy u v, va_at D vwCl q H) : va_at D vwCl (adO u v 40, cel cy (adO u v) s0.2 40 (s0.1 40)) H := h _ (List.mem_of_getElem? (i := 58) rfl)
set_option maxRecDepth 100000 in
theorem xa_41 (cy : Nat → ClassId) (u : Nat → Nat → Nat) (v : Nat → Nat) : ∃ e : va_E, (XL cy u v)[59]? = some (adO u v 41, e) := ⟨_, rfl⟩
set_option maxRecDepth 100000 in
theorem xp_41 {D : va_G} {cy : Nat → ClassId} {u : Nat → Nat → Nat} {v : Nat → Nat} {H : Heap} (h : ∀ q ∈ XL cy u v, va_at D vwCl q H) : va_at D vwCl (adO u v 41, cel cy (adO u v) s0.2 41 (s0.1 41)) H := h _ (List.mem_of_getElem? (i := 59) rfl)
set_option maxRecDepth 100000 in
theorem xa_42 (cy : Nat → ClassId) (u : Nat → Nat → Nat) (v : Nat → Nat) : ∃ e : va_E, (XL cy u v)[60]? = some (adO u v 42, e) := ⟨_, rfl⟩
set_option maxRecDepth 100000 in
theorem xp_42 {D : va_G} {cy : Nat → ClassId} {u : Nat → Nat → Nat} {v : Nat → Nat} {H : Heap} (h : ∀ q ∈ XL cy u v, va_at D vwCl q H) : va_at D vwCl (adO u v 42, cel cy (adO u v) s0.2 42 (s0.1 42)) H := h _ (List.mem_of_getElem? (i := 60) rfl)
set_option maxRecDepth 100000 in
theorem xa_43 (cy : Nat → ClassId) (u : Nat → Nat → Nat) (v : Nat → Nat) : ∃ e : va_E, (XL cy u v)[61]? = some (adO u v 43, e) := ⟨_, rfl⟩
set_option maxRecDepth 100000 in
theorem xp_43 {D : va_G} {cy : Nat → ClassId} {u : Nat → Nat → Nat} {v : Nat → Nat} {H : Heap} (h : ∀ q ∈ XL cy u v, va_at D vwCl q H) : va_at D vwCl (adO u v 43, cel cy (adO u v) s0.2 43 (s0.1 43)) H := h _ (List.mem_of_getElem? (i := 61) rfl)
set_option maxRecDepth 100000 in
theorem xa_44 (cy : Nat → ClassId) (u : Nat → Nat → Nat) (v : Nat → Nat) : ∃ e : va_E, (XL cy u v)[62]? = some (adO u v 44, e) := ⟨_, rfl⟩
set_option maxRecDepth 100000 in
theorem xp_44 {D : va_G} {cy : Nat → ClassId} {u : Nat → Nat → Nat} {v : Nat → Nat} {H : Heap} (h : ∀ q ∈ XL cy u v, va_at D vwCl q H) : va_at D vwCl (adO u v 44, cel cy (adO u v) s0.2 44 (s0.1 44)) H := h _ (List.mem_of_getElem? (i := 62) rfl)
set_option maxRecDepth 100000 in
theorem xa_45 (cy : Nat → ClassId) (u : Nat → Nat → Nat) (v : Nat → Nat) : ∃ e : va_E, (XL cy u v)[63]? = some (adO u v 45, e) := ⟨_, rfl⟩
set_option maxRecDepth 100000 in
theorem xp_45 {D : va_G} {cy : Nat → ClassId} {u : Nat → Nat → Nat} {v : Nat → Nat} {H : Heap} (h : ∀ q ∈ XL cy u v, va_at D vwCl q H) : va_at D vwCl (adO u v 45, cel cy (adO u v) s0.2 45 (s0.1 45)) H := h _ (List.mem_of_getElem? (i := 63) rfl)
set_option maxRecDepth 100000 in
theorem xa_46 (cy : Nat → ClassId) (u : Nat → Nat → Nat) (v : Nat → Nat) : ∃ e : va_E, (XL cy u v)[34]? = some (adO u v 46, e) := ⟨_, rfl⟩
set_option maxRecDepth 100000 in
theorem xp_46 {D : va_G} {cy : Nat → ClassId} {u : Nat → Nat → Nat} {v : Nat → Nat} {H : Heap} (h : ∀ q ∈ XL cy u v, va_at D vwCl q H) : va_at D vwCl (adO u v 46, cel cy (adO u v) s0.2 46 (s0.1 46)) H := h _ (List.mem_of_getElem? (i := 34) rfl)
set_option maxRecDepth 100000 in
theorem xa_47 (cy : Nat → ClassId) (u : Nat → Nat → Nat) (v : Nat → Nat) : ∃ e : va_E, (XL cy u v)[35]? = some (adO u v 47, e) := ⟨_, rfl⟩
set_option maxRecDepth 100000 in
theorem xp_47 {D : va_G} {cy : Nat → ClassId} {u : Nat → Nat → Nat} {v : Nat → Nat} {H : Heap} (h : ∀ q ∈ XL cy u v, va_at D vwCl q H) : va_at D vwCl (adO u v 47, cel cy (adO u v) s0.2 47 (s0.1 47)) H := h _ (List.mem_of_getElem? (i := 35) rfl)
set_option maxRecDepth 100000 in
theorem xa_48 (cy : Nat → ClassId) (u : Nat → Nat → Nat) (v : Nat → Nat) : ∃ e : va_E, (XL cy u v)[36]? = some (adO u v 48, e) := ⟨_, rfl⟩
set_option maxRecDepth 100000 in
theorem xp_48 {D : va_G} {cy : Nat → ClassId} {u : Nat → Nat → Nat} {v : Nat → Nat} {H : Heap} (h : ∀ q ∈ XL cy u v, va_at D vwCl q H) : va_at D vwCl (adO u v 48, cel cy (adO u v) s0.2 48 (s0.1 48)) H := h _ (List.mem_of_getElem? (i := 36) rfl)
set_option maxRecDepth 100000 in
theorem xa_49 (cy : Nat → ClassId) (u : Nat → Nat → Nat) (v : Nat → Nat) : ∃ e : va_E, (XL cy u v)[37]? = some (adO u v 49, e) := ⟨_, rfl⟩
set_option maxRecDepth 100000 in
theorem xp_49 {D : va_G} {cy : Nat → ClassId} {u : Nat → Nat → Nat} {v : Nat → Nat} {H : Heap} (h : ∀ q ∈ XL cy u v, va_at D vwCl q H) : va_at D vwCl (adO u v 49, cel cy (adO u v) s0.2 49 (s0.1 49)) H := h _ (List.mem_of_getElem? (i := 37) rfl)
set_option maxRecDepth 100000 in
theorem xa_50 (cy : Nat → ClassId) (u : Nat → Nat → Nat) (v : Nat → Nat) : ∃ e : va_E, (XL cy u v)[38]? = some (adO u v 50, e) := ⟨_, rfl⟩
set_option maxRecDepth 100000 in
theorem xp_50 {D : va_G} {cy : Nat → ClassId} {u : Nat → Nat → Nat} {v : Nat → Nat} {H : Heap} (h : ∀ q ∈ XL cy u v, va_at D vwCl q H) : va_at D vwCl (adO u v 50, cel cy (adO u v) s0.2 50 (s0.1 50)) H := h _ (List.mem_of_getElem? (i := 38) rfl)
set_option maxRecDepth 100000 in
theorem xa_51 (cy : Nat → ClassId) (u : Nat → Nat → Nat) (v : Nat → Nat) : ∃ e : va_E, (XL cy u v)[39]? = some (adO u v 51, e) := ⟨_, rfl⟩
set_option maxRecDepth 100000 in
theorem xp_51 {D : va_G} {cy : Nat → ClassId} {u : Nat → Nat → Nat} {v : Nat → Nat} {H : Heap} (h : ∀ q ∈ XL cy u v, va_at D vwCl q H) : va_at D vwCl (adO u v 51, cel cy (adO u v) s0.2 51 (s0.1 51)) H := h _ (List.mem_of_getElem? (i := 39) rfl)
set_option maxRecDepth 100000 in
theorem xa_52 (cy : Nat → ClassId) (u : Nat → Nat → Nat) (v : Nat → Nat) : ∃ e : va_E, (XL cy u v)[40]? = some (adO u v 52, e) := ⟨_, rfl⟩
set_option maxRecDepth 100000 in
theorem xp_52 {D : va_G} {cy : Nat → ClassId} {u : Nat → Nat → Nat} {v : Nat → Nat} {H : Heap} (h : ∀ q ∈ XL cy u v, va_at D vwCl q H) : va_at D vwCl (adO u v 52, cel cy (adO u v) s0.2 52 (s0.1 52)) H := h _ (List.mem_of_getElem? (i := 40) rfl)
set_option maxRecDepth 100000 in
theorem xa_53 (cy : Nat → ClassId) (u : Nat → Nat → Nat) (v : Nat → Nat) : ∃ e : va_E, (XL cy u v)[41]? = some (adO u v 53, e) := ⟨_, rfl⟩
set_option maxRecDepth 100000 in
theorem xp_53 {D : va_G} {cy : Nat → ClassId} {u : Nat → Nat → Nat} {v : Nat → Nat} {H : Heap} (h : ∀ q ∈ XL cy u v, va_at D vwCl q H) : va_at D vwCl (adO u v 53, cel cy (adO u v) s0.2 53 (s0.1 53)) H := h _ (List.mem_of_getElem? (i := 41) rfl)
set_option maxRecDepth 100000 in
theorem xa_54 (cy : Nat → ClassId) (u : Nat → Nat → Nat) (v : Nat → Nat) : ∃ e : va_E, (XL cy u v)[42]? = some (adO u v 54, e) := ⟨_, rfl⟩
set_option maxRecDepth 100000 in
theorem xp_54 {D : va_G} {cy : Nat → ClassId} {u : Nat → Nat → Nat} {v : Nat → Nat} {H : Heap} (h : ∀ q ∈ XL cy u v, va_at D vwCl q H) : va_at D vwCl (adO u v 54, cel cy (adO u v) s0.2 54 (s0.1 54)) H := h _ (List.mem_of_getElem? (i := 42) rfl)
set_option maxRecDepth 100000 in
theorem xa_55 (cy : Nat → ClassId) (u : Nat → Nat → Nat) (v : Nat → Nat) : ∃ e : va_E, (XL cy u v)[43]? = some (adO u v 55, e) := ⟨_, rfl⟩
set_option maxRecDepth 100000 in
theorem xp_55 {D : va_G} {cy : Nat → ClassId} {u : Nat → Nat → Nat} {v : Nat → Nat} {H : Heap} (h : ∀ q ∈ XL cy u v, va_at D vwCl q H) : va_at D vwCl (adO u v 55, cel cy (adO u v) s0.2 55 (s0.1 55)) H := h _ (List.mem_of_getElem? (i := 43) rfl)
set_option maxRecDepth 100000 in
theorem xa_56 (cy : Nat → ClassId) (u : Nat → Nat → Nat) (v : Nat → Nat) : ∃ e : va_E, (XL cy u v)[44]? = some (adO u v 56, e) := ⟨_, rfl⟩
set_option maxRecDepth 100000 in
theorem xp_56 {D : va_G} {cy : Nat → ClassId} {u : Nat → Nat → Nat} {v : Nat → Nat} {H : Heap} (h : ∀ q ∈ XL cy u v, va_at D vwCl q H) : va_at D vwCl (adO u v 56, cel cy (adO u v) s0.2 56 (s0.1 56)) H := h _ (List.mem_of_getElem? (i := 44) rfl)
set_option maxRecDepth 100000 in
theorem xa_57 (cy : Nat → ClassId) (u : Nat → Nat → Nat) (v : Nat → Nat) : ∃ e : va_E, (XL cy u v)[45]? = some (adO u v 57, e) := ⟨_, rfl⟩
set_option maxRecDepth 100000 in
theorem xp_57 {D : va_G} {cy : Nat → ClassId} {u : Nat → Nat → Nat} {v : Nat → Nat} {H : Heap} (h : ∀ q ∈ XL cy u v, va_at D vwCl q H) : va_at D vwCl (adO u v 57, cel cy (adO u v) s0.2 57 (s0.1 57)) H := h _ (List.mem_of_getElem? (i := 45) rfl)
set_option maxRecDepth 100000 in
theorem xa_58 (cy : Nat → ClassId) (u : Nat → Nat → Nat) (v : Nat → Nat) : ∃ e : va_E, (XL cy u v)[46]? = some (adO u v 58, e) := ⟨_, rfl⟩
set_option maxRecDepth 100000 in
theorem xp_58 {D : va_G} {cy : Nat → ClassId} {u : Nat → Nat → Nat} {v : Nat → Nat} {H : Heap} (h : ∀ q ∈ XL cy u v, va_at D vwCl q H) : va_at D vwCl (adO u v 58, cel cy (adO u v) s0.2 58 (s0.1 58)) H := h _ (List.mem_of_getElem? (i := 46) rfl)
set_option maxRecDepth 100000 in
theorem xa_59 (cy : Nat → ClassId) (u : Nat → Nat → Nat) (v : Nat → Nat) : ∃ e : va_E, (XL cy u v)[47]? = some (adO u v 59, e) := ⟨_, rfl⟩
set_option maxRecDepth 100000 in
theorem xp_59 {D : va_G} {cy : Nat → ClassId} {u : Nat → Nat → Nat} {v : Nat → Nat} {H : Heap} (h : ∀ q ∈ XL cy u v, va_at D vwCl q H) : va_at D vwCl (adO u v 59, cel cy (adO u v) s0.2 59 (s0.1 59)) H := h _ (List.mem_of_getElem? (i := 47) rfl)
set_option maxRecDepth 100000 in
theorem xa_60 (cy : Nat → ClassId) (u : Nat → Nat → Nat) (v : Nat → Nat) : ∃ e : va_E, (XL cy u v)[48]? = some (adO u v 60, e) := ⟨_, rfl⟩
set_option maxRecDepth 100000 in
theorem xp_60 {D : va_G} {cy : Nat → ClassId} {u : Nat → Nat → Nat} {v : Nat → Nat} {H : Heap} (h : ∀ q ∈ XL cy u v, va_at D vwCl q H) : va_at D vwCl (adO u v 60, cel cy (adO u v) s0.2 60 (s0.1 60)) H := h _ (List.mem_of_getElem? (i := 48) rfl)
set_option maxRecDepth 100000 in
theorem xa_61 (cy : Nat → ClassId) (u : Nat → Nat → Nat) (v : Nat → Nat) : ∃ e : va_E, (XL cy u v)[49]? = some (adO u v 61, e) := ⟨_, rfl⟩
set_option maxRecDepth 100000 in
theorem xp_61 {D : va_G} {cy : Nat → ClassId} {u : Nat → Nat → Nat} {v : Nat → Nat} {H : Heap} (h : ∀ q ∈ XL cy u v, va_at D vwCl q H) : va_at D vwCl (adO u v 61, cel cy (adO u v) s0.2 61 (s0.1 61)) H := h _ (List.mem_of_getElem? (i := 49) rfl)
set_option maxRecDepth 100000 in
theorem xa_62 (cy : Nat → ClassId) (u : Nat → Nat → Nat) (v : Nat → Nat) : ∃ e : va_E, (XL cy u v)[50]? = some (adO u v 62, e) := ⟨_, rfl⟩
set_option maxRecDepth 100000 in
theorem xp_62 {D : va_G} {cy : Nat → ClassId} {u : Nat → Nat → Nat} {v : Nat → Nat} {H : Heap} (h : ∀ q ∈ XL cy u v, va_at D vwCl q H) : va_at D vwCl (adO u v 62, cel cy (adO u v) s0.2 62 (s0.1 62)) H := h _ (List.mem_of_getElem? (i := 50) rfl)
set_option maxRecDepth 100000 in
theorem xa_63 (cy : Nat → ClassId) (u : Nat → Nat → Nat) (v : Nat → Nat) : ∃ e : va_E, (XL cy u v)[51]? = some (adO u v 63, e) := ⟨_, rfl⟩
set_option maxRecDepth 100000 in
theorem xp_63 {D : va_G} {cy : Nat → ClassId} {u : Nat → Nat → Nat} {v : Nat → Nat} {H : Heap} (h : ∀ q ∈ XL cy u v, va_at D vwCl q H) : va_at D vwCl (adO u v 63, cel cy (adO u v) s0.2 63 (s0.1 63)) H := h _ (List.mem_of_getElem? (i := 51) rfl)
set_option maxRecDepth 100000 in
theorem xa_64 (cy : Nat → ClassId) (u : Nat → Nat → Nat) (v : Nat → Nat) : ∃ e : va_E, (XL cy u v)[64]? = some (adO u v 64, e) := ⟨_, rfl⟩
set_option maxRecDepth 100000 in
theorem xp_64 {D : va_G} {cy : Nat → ClassId} {u : Nat → Nat → Nat} {v : Nat → Nat} {H : Heap} (h : ∀ q ∈ XL cy u v, va_at D vwCl q H) : va_at D vwCl (adO u v 64, cel cy (adO u v) s0.2 64 (s0.1 64)) H := h _ (List.mem_of_getElem? (i := 64) rfl)
set_option maxRecDepth 100000 in
theorem xa_65 (cy : Nat → ClassId) (u : Nat → Nat → Nat) (v : Nat → Nat) : ∃ e : va_E, (XL cy u v)[65]? = some (adO u v 65, e) := ⟨_, rfl⟩
set_option maxRecDepth 100000 in
theorem xp_65 {D : va_G} {cy : Nat → ClassId} {u : Nat → Nat → Nat} {v : Nat → Nat} {H : Heap} (h : ∀ q ∈ XL cy u v, va_at D vwCl q H) : va_at D vwCl (adO u v 65, cel cy (adO u v) s0.2 65 (s0.1 65)) H := h _ (List.mem_of_getElem? (i := 65) rfl)
set_option maxRecDepth 100000 in
theorem xa_66 (cy : Nat → ClassId) (u : Nat → Nat → Nat) (v : Nat → Nat) : ∃ e : va_E, (XL cy u v)[66]? = some (adO u v 66, e) := ⟨_, rfl⟩
set_option maxRecDepth 100000 in
theorem xp_66 {D : va_G} {cy : Nat → ClassId} {u : Nat → Nat → Nat} {v : Nat → Nat} {H : Heap} (h : ∀ q ∈ XL cy u v, va_at D vwCl q H) : va_at D vwCl (adO u v 66, cel cy (adO u v) s0.2 66 (s0.1 66)) H := h _ (List.mem_of_getElem? (i := 66) rfl)
set_option maxRecDepth 100000 in
theorem xa_67 (cy : Nat → ClassId) (u : Nat → Nat → Nat) (v : Nat → Nat) : ∃ e : va_E, (XL cy u v)[67]? = some (adO u v 67, e) := ⟨_, rfl⟩
set_option maxRecDepth 100000 in
theorem xp_67 {D : va_G} {cy : Nat → ClassId} {u : Nat → Nat → Nat} {v : Nat → Nat} {H : Heap} (h : ∀ q ∈ XL cy u v, va_at D vwCl q H) : va_at D vwCl (adO u v 67, cel cy (adO u v) s0.2 67 (s0.1 67)) H := h _ (List.mem_of_getElem? (i := 67) rfl)
set_option maxRecDepth 100000 in
theorem xa_68 (cy : Nat → ClassId) (u : Nat → Nat → Nat) (v : Nat → Nat) : ∃ e : va_E, (XL cy u v)[68]? = some (adO u v 68, e) := ⟨_, rfl⟩
set_option maxRecDepth 100000 in
theorem xp_68 {D : va_G} {cy : Nat → ClassId} {u : Nat → Nat → Nat} {v : Nat → Nat} {H : Heap} (h : ∀ q ∈ XL cy u v, va_at D vwCl q H) : va_at D vwCl (adO u v 68, cel cy (adO u v) s0.2 68 (s0.1 68)) H := h _ (List.mem_of_getElem? (i := 68) rfl)
set_option maxRecDepth 100000 in
theorem xa_69 (cy : Nat → ClassId) (u : Nat → Nat → Nat) (v : Nat → Nat) : ∃ e : va_E, (XL cy u v)[69]? = some (adO u v 69, e) := ⟨_, rfl⟩
set_option maxRecDepth 100000 in
theorem xp_69 {D : va_G} {cy : Nat → ClassId} {u : Nat → Nat → Nat} {v : Nat → Nat} {H : Heap} (h : ∀ q ∈ XL cy u v, va_at D vwCl q H) : va_at D vwCl (adO u v 69, cel cy (adO u v) s0.2 69 (s0.1 69)) H := h _ (List.mem_of_getElem? (i := 69) rfl)
set_option maxRecDepth 100000 in
theorem xa_70 (cy : Nat → ClassId) (u : Nat → Nat → Nat) (v : Nat → Nat) : ∃ e : va_E, (XL cy u v)[70]? = some (adO u v 70, e) := ⟨_, rfl⟩
set_option maxRecDepth 100000 in
theorem xp_70 {D : va_G} {cy : Nat → ClassId} {u : Nat → Nat → Nat} {v : Nat → Nat} {H : Heap} (h : ∀ q ∈ XL cy u v, va_at D vwCl q H) : va_at D vwCl (adO u v 70, cel cy (adO u v) s0.2 70 (s0.1 70)) H := h _ (List.mem_of_getElem? (i := 70) rfl)
set_option maxRecDepth 100000 in
theorem xa_71 (cy : Nat → ClassId) (u : Nat → Nat → Nat) (v : Nat → Nat) : ∃ e : va_E, (XL cy u v)[71]? = some (adO u v 71, e) := ⟨_, rfl⟩
set_option maxRecDepth 100000 in
theorem xp_71 {D : va_G} {cy : Nat → ClassId} {u : Nat → Nat → Nat} {v : Nat → Nat} {H : Heap} (h : ∀ q ∈ XL cy u v, va_at D vwCl q H) : va_at D vwCl (adO u v 71, cel cy (adO u v) s0.2 71 (s0.1 71)) H := h _ (List.mem_of_getElem? (i := 71) rfl)
set_option maxRecDepth 100000 in
theorem xa_72 (cy : Nat → ClassId) (u : Nat → Nat → Nat) (v : Nat → Nat) : ∃ e : va_E, (XL cy u v)[72]? = some (adO u v 72, e) := ⟨_, rfl⟩
set_option maxRecDepth 100000 in
theorem xp_72 {D : va_G} {cy : Nat → ClassId} {u : Nat → Nat → Nat} {v : Nat → Nat} {H : Heap} (h : ∀ q ∈ XL cy u v, va_at D vwCl q H) : va_at D vwCl (adO u v 72, cel cy (adO u v) s0.2 72 (s0.1 72)) H := h _ (List.mem_of_getElem? (i := 72) rfl)
set_option maxRecDepth 100000 in
theorem xa_73 (cy : Nat → ClassId) (u : Nat → Nat → Nat) (v : Nat → Nat) : ∃ e : va_E, (XL cy u v)[73]? = some (adO u v 73, e) := ⟨_, rfl⟩
set_option maxRecDepth 100000 in
theorem xp_73 {D : va_G} {cy : Nat → ClassId} {u : Nat → Nat → Nat} {v : Nat → Nat} {H : Heap} (h : ∀ q ∈ XL cy u v, va_at D vwCl q H) : va_at D vwCl (adO u v 73, cel cy (adO u v) s0.2 73 (s0.1 73)) H := h _ (List.mem_of_getElem? (i := 73) rfl)
set_option maxRecDepth 100000 in
theorem xa_74 (cy : Nat → ClassId) (u : Nat → Nat → Nat) (v : Nat → Nat) : ∃ e : va_E, (XL cy u v)[74]? = some (adO u v 74, e) := ⟨_, rfl⟩
set_option maxRecDepth 100000 in
theorem xp_74 {D : va_G} {cy : Nat → ClassId} {u : Nat → Nat → Nat} {v : Nat → Nat} {H : Heap} (h : ∀ q ∈ XL cy u v, va_at D vwCl q H) : va_at D vwCl (adO u v 74, cel cy (adO u v) s0.2 74 (s0.1 74)) H := h _ (List.mem_of_getElem? (i := 74) rfl)
set_option maxRecDepth 100000 in
theorem xa_75 (cy : Nat → ClassId) (u : Nat → Nat → Nat) (v : Nat → Nat) : ∃ e : va_E, (XL cy u v)[75]? = some (adO u v 75, e) := ⟨_, rfl⟩
set_option maxRecDepth 100000 in
theorem xp_75 {D : va_G} {cy : Nat → ClassId} {u : Nat → Nat → Nat} {v : Nat → Nat} {H : Heap} (h : ∀ q ∈ XL cy u v, va_at D vwCl q H) : va_at D vwCl (adO u v 75, cel cy (adO u v) s0.2 75 (s0.1 75)) H := h _ (List.mem_of_getElem? (i := 75) rfl)
set_option maxRecDepth 100000 in
theorem xa_76 (cy : Nat → ClassId) (u : Nat → Nat → Nat) (v : Nat → Nat) : ∃ e : va_E, (XL cy u v)[76]? = some (adO u v 76, e) := ⟨_, rfl⟩
set_option maxRecDepth 100000 in
theorem xp_76 {D : va_G} {cy : Nat → ClassId} {u : Nat → Nat → Nat} {v : Nat → Nat} {H : Heap} (h : ∀ q ∈ XL cy u v, va_at D vwCl q H) : va_at D vwCl (adO u v 76, cel cy (adO u v) s0.2 76 (s0.1 76)) H := h _ (List.mem_of_getElem? (i := 76) rfl)
set_option maxRecDepth 100000 in
theorem xa_77 (cy : Nat → ClassId) (u : Nat → Nat → Nat) (v : Nat → Nat) : ∃ e : va_E, (XL cy u v)[77]? = some (adO u v 77, e) := ⟨_, rfl⟩
set_option maxRecDepth 100000 in
theorem xp_77 {D : va_G} {cy : Nat → ClassId} {u : Nat → Nat → Nat} {v : Nat → Nat} {H : Heap} (h : ∀ q ∈ XL cy u v, va_at D vwCl q H) : va_at D vwCl (adO u v 77, cel cy (adO u v) s0.2 77 (s0.1 77)) H := h _ (List.mem_of_getElem? (i := 77) rfl)
set_option maxRecDepth 100000 in
theorem xa_78 (cy : Nat → ClassId) (u : Nat → Nat → Nat) (v : Nat → Nat) : ∃ e : va_E, (XL cy u v)[78]? = some (adO u v 78, e) := ⟨_, rfl⟩
set_option maxRecDepth 100000 in
theorem xp_78 {D : va_G} {cy : Nat → ClassId} {u : Nat → Nat → Nat} {v : Nat → Nat} {H : Heap} (h : ∀ q ∈ XL cy u v, va_at D vwCl q H) : va_at D vwCl (adO u v 78, cel cy (adO u v) s0.2 78 (s0.1 78)) H := h _ (List.mem_of_getElem? (i := 78) rfl)
set_option maxRecDepth 100000 in
theorem xa_79 (cy : Nat → ClassId) (u : Nat → Nat → Nat) (v : Nat → Nat) : ∃ e : va_E, (XL cy u v)[79]? = some (adO u v 79, e) := ⟨_, rfl⟩
set_option maxRecDepth 100000 in
theorem xp_79 {D : va_G} {cy : Nat → ClassId} {u : Nat → Nat → Nat} {v : Nat → Nat} {H : Heap} (h : ∀ q ∈ XL cy u v, va_at D vwCl q H) : va_at D vwCl (adO u v 79, cel cy (adO u v) s0.2 79 (s0.1 79)) H := h _ (List.mem_of_getElem? (i := 79) rfl)
theorem xx_at {cy : Nat → ClassId} {u : Nat → Nat → Nat} {v : Nat → Nat} : ∀ r, r < 80 → ∃ e : va_E, (XL cy u v)[ixO r]? = some (adO u v r, e) := by
  intro r hr
  match r, hr with
  | 0, _ => exact xa_0 cy u v
  | 1, _ => exact xa_1 cy u v
  | 2, _ => exact xa_2 cy u v
  | 3, _ => exact xa_3 cy u v
  | 4, _ => exact xa_4 cy u v
  | 5, _ => exact xa_5 cy u v
  | 6, _ => exact xa_6 cy u v
  | 7, _ => exact xa_7 cy u v
  | 8, _ => exact xa_8 cy u v
  | 9, _ => exact xa_9 cy u v
  | 10, _ => exact xa_10 cy u v
  | 11, _ => exact xa_11 cy u v
  | 12, _ => exact xa_12 cy u v
  | 13, _ => exact xa_13 cy u v
  | 14, _ => exact xa_14 cy u v
  | 15, _ => exact xa_15 cy u v
  | 16, _ => exact xa_16 cy u v
  | 17, _ => exact xa_17 cy u v
  | 18, _ => exact xa_18 cy u v
  | 19, _ => exact xa_19 cy u v
  | 20, _ => exact xa_20 cy u v
  | 21, _ => exact xa_21 cy u v
  | 22, _ => exact xa_22 cy u v
  | 23, _ => exact xa_23 cy u v
  | 24, _ => exact xa_24 cy u v
  | 25, _ => exact xa_25 cy u v
  | 26, _ => exact xa_26 cy u v
  | 27, _ => exact xa_27 cy u v
  | 28, _ => exact xa_28 cy u v
  | 29, _ => exact xa_29 cy u v
  | 30, _ => exact xa_30 cy u v
  | 31, _ => exact xa_31 cy u v
  | 32, _ => exact xa_32 cy u v
  | 33, _ => exact xa_33 cy u v
  | 34, _ => exact xa_34 cy u v
  | 35, _ => exact xa_35 cy u v
  | 36, _ => exact xa_36 cy u v
  | 37, _ => exact xa_37 cy u v
  | 38, _ => exact xa_38 cy u v
  | 39, _ => exact xa_39 cy u v
  | 40, _ => exact xa_40 cy u v
  | 41, _ => exact xa_41 cy u v
  | 42, _ => exact xa_42 cy u v
  | 43, _ => exact xa_43 cy u v
  | 44, _ => exact xa_44 cy u v
  | 45, _ => exact xa_45 cy u v
  | 46, _ => exact xa_46 cy u v
  | 47, _ => exact xa_47 cy u v
  | 48, _ => exact xa_48 cy u v
  | 49, _ => exact xa_49 cy u v
  | 50, _ => exact xa_50 cy u v
  | 51, _ => exact xa_51 cy u v
  | 52, _ => exact xa_52 cy u v
  | 53, _ => exact xa_53 cy u v
  | 54, _ => exact xa_54 cy u v
  | 55, _ => exact xa_55 cy u v
  | 56, _ => exact xa_56 cy u v
  | 57, _ => exact xa_57 cy u v
  | 58, _ => exact xa_58 cy u v
  | 59, _ => exact xa_59 cy u v
  | 60, _ => exact xa_60 cy u v
  | 61, _ => exact xa_61 cy u v
  | 62, _ => exact xa_62 cy u v
  | 63, _ => exact xa_63 cy u v
  | 64, _ => exact xa_64 cy u v
  | 65, _ => exact xa_65 cy u v
  | 66, _ => exact xa_66 cy u v
  | 67, _ => exact xa_67 cy u v
  | 68, _ => exact xa_68 cy u v
  | 69, _ => exact xa_69 cy u v
  | 70, _ => exact xa_70 cy u v
  | 71, _ => exact xa_71 cy u v
  | 72, _ => exact xa_72 cy u v
  | 73, _ => exact xa_73 cy u v
  | 74, _ => exact xa_74 cy u v
  | 75, _ => exact xa_75 cy u v
  | 76, _ => exact xa_76 cy u v
  | 77, _ => exact xa_77 cy u v
  | 78, _ => exact xa_78 cy u v
  | 79, _ => exact xa_79 cy u v
  | r + 80, hr => exact absurd hr (by omega)
theorem xx_I {A : Nat → Prop} {cy : Nat → ClassId} {u : Nat → Nat → Nat} {v : Nat → Nat} (hD : va_D A (XL cy u v)) : AdI (adO u v) ∧ ∀ r, r < 80 → A (adO u v r) := by
  refine ⟨fun i j hi hj h => ?_, fun r hr => ?_⟩
  · obtain ⟨e1, h1⟩ := xx_at (cy := cy) (u := u) (v := v) i hi
    obtain ⟨e2, h2⟩ := xx_at (cy := cy) (u := u) (v := v) j hj
    exact ixO_inj i hi j hj (hD.1 _ _ _ _ h1 h2 h)
  · obtain ⟨e1, h1⟩ := xx_at (cy := cy) (u := u) (v := v) r hr
    exact hD.2 _ _ h1
theorem xx_P {D : va_G} {cy : Nat → ClassId} {u : Nat → Nat → Nat} {v : Nat → Nat} {H : Heap} (hP : va_P D vwCl (XL cy u v) H) : va_P D vwCl (PO cy (adO u v) s0) H := by
  intro k q hk
  have h80 := (PO_inv hk).1
  rw [PO_get h80] at hk
  cases hk
  have h := P_all hP
  match k, h80 with
  | 0, _ => exact xp_0 h
  | 1, _ => exact xp_1 h
  | 2, _ => exact xp_2 h
  | 3, _ => exact xp_3 h
  | 4, _ => exact xp_4 h
  | 5, _ => exact xp_5 h
  | 6, _ => exact xp_6 h
  | 7, _ => exact xp_7 h
  | 8, _ => exact xp_8 h
  | 9, _ => exact xp_9 h
  | 10, _ => exact xp_10 h
  | 11, _ => exact xp_11 h
  | 12, _ => exact xp_12 h
  | 13, _ => exact xp_13 h
  | 14, _ => exact xp_14 h
  | 15, _ => exact xp_15 h
  | 16, _ => exact xp_16 h
  | 17, _ => exact xp_17 h
  | 18, _ => exact xp_18 h
  | 19, _ => exact xp_19 h
  | 20, _ => exact xp_20 h
  | 21, _ => exact xp_21 h
  | 22, _ => exact xp_22 h
  | 23, _ => exact xp_23 h
  | 24, _ => exact xp_24 h
  | 25, _ => exact xp_25 h
  | 26, _ => exact xp_26 h
  | 27, _ => exact xp_27 h
  | 28, _ => exact xp_28 h
  | 29, _ => exact xp_29 h
  | 30, _ => exact xp_30 h
  | 31, _ => exact xp_31 h
  | 32, _ => exact xp_32 h
  | 33, _ => exact xp_33 h
  | 34, _ => exact xp_34 h
  | 35, _ => exact xp_35 h
  | 36, _ => exact xp_36 h
  | 37, _ => exact xp_37 h
  | 38, _ => exact xp_38 h
  | 39, _ => exact xp_39 h
  | 40, _ => exact xp_40 h
  | 41, _ => exact xp_41 h
  | 42, _ => exact xp_42 h
  | 43, _ => exact xp_43 h
  | 44, _ => exact xp_44 h
  | 45, _ => exact xp_45 h
  | 46, _ => exact xp_46 h
  | 47, _ => exact xp_47 h
  | 48, _ => exact xp_48 h
  | 49, _ => exact xp_49 h
  | 50, _ => exact xp_50 h
  | 51, _ => exact xp_51 h
  | 52, _ => exact xp_52 h
  | 53, _ => exact xp_53 h
  | 54, _ => exact xp_54 h
  | 55, _ => exact xp_55 h
  | 56, _ => exact xp_56 h
  | 57, _ => exact xp_57 h
  | 58, _ => exact xp_58 h
  | 59, _ => exact xp_59 h
  | 60, _ => exact xp_60 h
  | 61, _ => exact xp_61 h
  | 62, _ => exact xp_62 h
  | 63, _ => exact xp_63 h
  | 64, _ => exact xp_64 h
  | 65, _ => exact xp_65 h
  | 66, _ => exact xp_66 h
  | 67, _ => exact xp_67 h
  | 68, _ => exact xp_68 h
  | 69, _ => exact xp_69 h
  | 70, _ => exact xp_70 h
  | 71, _ => exact xp_71 h
  | 72, _ => exact xp_72 h
  | 73, _ => exact xp_73 h
  | 74, _ => exact xp_74 h
  | 75, _ => exact xp_75 h
  | 76, _ => exact xp_76 h
  | 77, _ => exact xp_77 h
  | 78, _ => exact xp_78 h
  | 79, _ => exact xp_79 h
  | r + 80, hr => exact absurd hr (by omega)
theorem s0_inv : INV s0 := by
  refine ⟨0, fun _ => 0, 0, fun _ => 0, 0, fun _ => 0, fun _ => 0, 0, fun _ => 0, fun _ => 0, fun _ => 0, ?_, ?_, ?_, ?_, ?_, ?_, Or.inl rfl⟩
  · exact ⟨⟨Or.inl rfl, rfl, Nat.zero_le _, fun i hi => absurd hi (Nat.not_lt_zero i)⟩, ⟨Or.inr rfl, rfl, Nat.zero_le _, fun i hi => absurd hi (Nat.not_lt_zero i)⟩, rfl, rfl, Nat.zero_le _, Nat.zero_le _, fun i hi => absurd hi (Nat.not_lt_zero i), fun i hi => absurd hi (Nat.not_lt_zero i)⟩
  · have e1 : nbB 0 (fun _ => 0) = 0 := rfl
    refine ⟨rfl, rfl, ?_, ?_⟩
    · rw [e1]
      exact ⟨Nat.zero_le _, rfl, fun i hi => absurd hi (Nat.not_lt_zero i)⟩
    · exact ⟨Nat.zero_le _, rfl, fun i hi => absurd hi (Nat.not_lt_zero i)⟩
  · refine ⟨⟨Nat.zero_le _, rfl, fun i hi => absurd hi (Nat.not_lt_zero i)⟩, ⟨Nat.zero_le _, rfl, fun i hi => absurd hi (Nat.not_lt_zero i)⟩, fun k hk m hm => ?_⟩
    refine ⟨?_, Nat.zero_le _⟩
    match k, hk with
    | 0, _ | 1, _ | 2, _ | 3, _ | 4, _ | 5, _ | 6, _ | 7, _ => rfl
    | k + 8, hk => exact absurd hk (by omega)
  · exact ⟨⟨Nat.zero_le _, rfl, fun i hi => absurd hi (Nat.not_lt_zero i)⟩, rfl, fun i hi => absurd hi (Nat.not_lt_zero i)⟩
  · refine ⟨fun s hs => ⟨0, 0, by omega, by omega, ?_, ?_, fun i hi => absurd hi (Nat.not_lt_zero i), Or.inl ⟨?_, ?_⟩⟩, rfl, rfl, rfl⟩
    all_goals
      match s, hs with
      | 0, _ | 1, _ | 2, _ | 3, _ => rfl
      | s + 4, hs => exact absurd hs (by omega)
  · have e1 : nbB 0 (fun _ => 0) = 0 := rfl
    have e2 : nkK 0 (fun _ => 0) = 0 := rfl
    rw [e1, e2]
    exact ⟨⟨Nat.zero_le _, Nat.zero_le _, rfl, rfl, fun k hk => absurd hk (Nat.not_lt_zero k), fun k hk => absurd hk (Nat.not_lt_zero k)⟩, fun p k hp => absurd hp (Nat.not_lt_zero p), fun p hp => absurd hp (Nat.not_lt_zero p)⟩
