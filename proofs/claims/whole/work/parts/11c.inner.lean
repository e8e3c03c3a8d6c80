/-! 11c: the constructors of the inner classes -/
def eX0 : va_E := .inr (0, [.null, .null, .int 0, .int 0])
theorem dfX0 : ∀ j, j < 4 → defaultValue (tyX0 j) = vp_V [.null, .null, .int 0, .int 0] j := fun j hj => by
  match j, hj with
  | 0, _ | 1, _ | 2, _ | 3, _ => rfl
  | j + 4, hj => exact absurd hj (by omega)
def eX1 : va_E := .inr (1, [.null, .null, .int 0, .int 0])
theorem dfX1 : ∀ j, j < 4 → defaultValue (tyX1 j) = vp_V [.null, .null, .int 0, .int 0] j := fun j hj => by
  match j, hj with
  | 0, _ | 1, _ | 2, _ | 3, _ => rfl
  | j + 4, hj => exact absurd hj (by omega)
def eX2 : va_E := .inr (2, [.null, .null, .null, .int 0, .int 0])
theorem dfX2 : ∀ j, j < 5 → defaultValue (tyX2 j) = vp_V [.null, .null, .null, .int 0, .int 0] j := fun j hj => by
  match j, hj with
  | 0, _ | 1, _ | 2, _ | 3, _ | 4, _ => rfl
  | j + 5, hj => exact absurd hj (by omega)
def eX3 : va_E := .inr (3, [.int 0, .int 0, .int 0, .int 0, .int 0])
theorem dfX3 : ∀ j, j < 5 → defaultValue (tyX3 j) = vp_V [.int 0, .int 0, .int 0, .int 0, .int 0] j := fun j hj => by
  match j, hj with
  | 0, _ | 1, _ | 2, _ | 3, _ | 4, _ => rfl
  | j + 5, hj => exact absurd hj (by omega)
def eX4 : va_E := .inr (4, [.null, .null, .null, .int 0])
theorem dfX4 : ∀ j, j < 4 → defaultValue (tyX4 j) = vp_V [.null, .null, .null, .int 0] j := fun j hj => by
  match j, hj with
  | 0, _ | 1, _ | 2, _ | 3, _ => rfl
  | j + 4, hj => exact absurd hj (by omega)
def eX5 : va_E := .inr (5, [.null, .int 0, .int 0, .int 0])
theorem dfX5 : ∀ j, j < 4 → defaultValue (tyX5 j) = vp_V [.null, .int 0, .int 0, .int 0] j := fun j hj => by
  match j, hj with
  | 0, _ | 1, _ | 2, _ | 3, _ => rfl
  | j + 4, hj => exact absurd hj (by omega)
def eX6 : va_E := .inr (6, [.null, .null, .null, .int 0])
theorem dfX6 : ∀ j, j < 4 → defaultValue (tyX6 j) = vp_V [.null, .null, .null, .int 0] j := fun j hj => by
  match j, hj with
  | 0, _ | 1, _ | 2, _ | 3, _ => rfl
  | j + 4, hj => exact absurd hj (by omega)
def eX7 : va_E := .inr (7, [.null, .int 0])
theorem dfX7 : ∀ j, j < 2 → defaultValue (tyX7 j) = vp_V [.null, .int 0] j := fun j hj => by
  match j, hj with
  | 0, _ | 1, _ => rfl
  | j + 2, hj => exact absurd hj (by omega)
def eX8 : va_E := .inr (8, [.null, .null, .null, .null, .null, .int 0, .int 0])
theorem dfX8 : ∀ j, j < 7 → defaultValue (tyX8 j) = vp_V [.null, .null, .null, .null, .null, .int 0, .int 0] j := fun j hj => by
  match j, hj with
  | 0, _ | 1, _ | 2, _ | 3, _ | 4, _ | 5, _ | 6, _ => rfl
  | j + 7, hj => exact absurd hj (by omega)
def eX9 : va_E := .inr (9, [.null, .null, .null, .null, .null, .null, .null, .null, .null, .null, .null, .null, .int 0])
theorem dfX9 : ∀ j, j < 13 → defaultValue (tyX9 j) = vp_V [.null, .null, .null, .null, .null, .null, .null, .null, .null, .null, .null, .null, .int 0] j := fun j hj => by
  match j, hj with
  | 0, _ | 1, _ | 2, _ | 3, _ | 4, _ | 5, _ | 6, _ | 7, _ | 8, _ | 9, _ | 10, _ | 11, _ | 12, _ => rfl
  | j + 13, hj => exact absurd hj (by omega)
def eX10 : va_E := .inr (10, [.null, .null, .null, .null, .int 0, .null, .null, .int 0, .null, .int 0, .null, .int 0, .null, .int 0, .int 0, .null, .null, .null, .null, .int 0, .int 0, .int 0, .int 0, .null, .null, .int 0])
theorem dfX10 : ∀ j, j < 26 → defaultValue (tyX10 j) = vp_V [.null, .null, .null, .null, .int 0, .null, .null, .int 0, .null, .int 0, .null, .int 0, .null, .int 0, .int 0, .null, .null, .null, .null, .int 0, .int 0, .int 0, .int 0, .null, .null, .int 0] j := fun j hj => by
  match j, hj with
  | 0, _ | 1, _ | 2, _ | 3, _ | 4, _ | 5, _ | 6, _ | 7, _ | 8, _ | 9, _ | 10, _ | 11, _ | 12, _ | 13, _ | 14, _ | 15, _ | 16, _ | 17, _ | 18, _ | 19, _ | 20, _ | 21, _ | 22, _ | 23, _ | 24, _ | 25, _ => rfl
  | j + 26, hj => exact absurd hj (by omega)
def wX0 (cy : Nat → ClassId) (u : Nat → Nat) : va_W := (u 0, .inr (0, [.ref (u 1), .ref (u 2), .int 0, .int 0])) :: ([(u 1, .inl (cy 1, 256, .inr (.inl (fun _ => 0)))), (u 2, rI cy 9)])
set_option maxHeartbeats 4000000 in
set_option maxRecDepth 100000 in
theorem c_X0_init (l : Launch) (D : va_G) (cy : Nat → ClassId) (a sz : Nat) : Met l yX0_init (Cond.code yX0_init cX0_init 1 none :: wT) ({ frames := 1, cells := 2, slots := 265, locals := 20 }) (CI D cy a eX0 sz []) (QI D a eX0 sz (fun u : Nat → Nat => u 0) (wX0 cy)) 2 265 (va_A [(a, eX0)] sz) := by
  refine Met.ofW (cc := cX0_init) (maxL := 1) (ret := none) (by decide) rfl ?_
  intro p e s m args below meth c s₁ B hml hv
  obtain ⟨rfl, rfl, hE, hP⟩ := hv
  have hts := atoms_spec (ws := Cond.code yX0_init cX0_init 1 none :: wT) B.pre
  have F : CallFix p m c cX0_init 1 s _ wT RX0 := ⟨B.exec, B.bytes, hml, findClass_of_methodNamed B.named, fun w hw => hts w (List.mem_cons_of_mem _ hw)⟩
  have hr := B.returns
  have hlocks := B.notSynchronized
  have hin : meth.name = "<init>" := (name_of_methodNamed B.named B.method).1
  have hA : ∀ q, s.heap.size ≤ q → va_A [(a, eX0)] s.heap.size q := fun q h => Or.inr h
  have hB := Bw.start hP
  have hl := lv_entry ([.ref a] : List Value) (n := 1) (Nat.le_of_ble_eq_true rfl)
  rw [lg_entry_eq]
  generalize (lg_sl ([.ref a] : List Value) ++ List.replicate (1 - (lg_sl ([.ref a] : List Value)).length) Slot.unset).toArray = ls at hl ⊢
  have hl : lv_has ls 1 [(0, .ref a)] := hl
  have hB : Bw D (va_A [(a, eX0)] s.heap.size) ((a, .inr (0, [.null, .null, .int 0, .int 0])) :: ([])) s.heap s.heap [] := hB
  refine lv_aload_n F.1 F.2.1 dX0_init_0 rfl (lv_at hl 0 rfl) ?_
  refine z_obj F hl.1 wt_m_RX0_3 dX0_init_1 (Nat.le_of_ble_eq_true rfl) (Nat.le_of_ble_eq_true rfl) ?_
  refine lv_aload_n F.1 F.2.1 dX0_init_4 rfl (lv_at hl 0 rfl) ?_
  refine lv_sipush (v := 256) F.1 F.2.1 dX0_init_5 (by decide) ?_
  refine z_long F hE hA hB 256 (by decide) rfl (by decide) (Nat.le_of_ble_eq_true rfl) (Nat.le_of_ble_eq_true rfl) dX0_init_8 (fun q1 H hB => ?_)
  have hB : Bw D (va_A [(a, eX0)] s.heap.size) ((a, .inr (0, [.null, .null, .int 0, .int 0])) :: ([(q1, .inl (cy 1, 256, .inr (.inl (fun _ => 0))))])) s.heap H [] := hB
  refine z_putF F hE hin hB (T := TX0) rfl inlX0 tyX0 tyX0_ok nmX0 0 (by decide) wm_f_RX0_9 rfl rfl (ty := .array .long) (by decide +kernel) rfl rfl (Nat.le_of_ble_eq_true rfl) dX0_init_10 (fun H locs hB => ?_)
  have hB : Bw D (va_A [(a, eX0)] s.heap.size) ((a, .inr (0, [.ref q1, .null, .int 0, .int 0])) :: ([(q1, .inl (cy 1, 256, .inr (.inl (fun _ => 0))))])) s.heap H locs := hB
  refine lv_aload_n F.1 F.2.1 dX0_init_13 rfl (lv_at hl 0 rfl) ?_
  refine lv_bipush (v := 9) F.1 F.2.1 dX0_init_14 (by decide) ?_
  refine z_int F hE hA hB 9 (by decide) rfl (by decide) (Nat.le_of_ble_eq_true rfl) (Nat.le_of_ble_eq_true rfl) dX0_init_16 (fun q2 H hB => ?_)
  have hB : Bw D (va_A [(a, eX0)] s.heap.size) ((a, .inr (0, [.ref q1, .null, .int 0, .int 0])) :: ([(q1, .inl (cy 1, 256, .inr (.inl (fun _ => 0)))), (q2, rI cy 9)])) s.heap H locs := hB
  refine z_putF F hE hin hB (T := TX0) rfl inlX0 tyX0 tyX0_ok nmX0 1 (by decide) wm_f_RX0_15 rfl rfl (ty := .array .int) (by decide +kernel) rfl rfl (Nat.le_of_ble_eq_true rfl) dX0_init_18 (fun H locs hB => ?_)
  have hB : Bw D (va_A [(a, eX0)] s.heap.size) ((a, .inr (0, [.ref q1, .ref q2, .int 0, .int 0])) :: ([(q1, .inl (cy 1, 256, .inr (.inl (fun _ => 0)))), (q2, rI cy 9)])) s.heap H locs := hB
  refine W.widen (k := 2) (n := 265) (Nat.le_refl _) (Nat.le_refl _) ?_
  exact z_ret F hlocks hr (fun k => match k with | 0 => a | 1 => q1 | 2 => q2 | _ => 0) rfl hB dX0_init_21
def wX1 (cy : Nat → ClassId) (u : Nat → Nat) : va_W := (u 0, .inr (1, [.ref (u 1), .ref (u 2), .int 0, .int (-1)])) :: ([(u 1, .inl (cy 4, 8, .inr (.inr (.inr (.inr (fun i => some (u (i + 3)))))))), (u 3, rI cy 6), (u 4, rI cy 6), (u 5, rI cy 6), (u 6, rI cy 6), (u 7, rI cy 6), (u 8, rI cy 6), (u 9, rI cy 6), (u 10, rI cy 6), (u 2, rI cy 8)])
set_option maxHeartbeats 4000000 in
set_option maxRecDepth 100000 in
theorem c_X1_init (l : Launch) (D : va_G) (cy : Nat → ClassId) (a sz : Nat) : Met l yX1_init (Cond.code yX1_init cX1_init 1 none :: wT) ({ frames := 1, cells := 10, slots := 64, locals := 20 }) (CI D cy a eX1 sz []) (QI D a eX1 sz (fun u : Nat → Nat => u 0) (wX1 cy)) 10 64 (va_A [(a, eX1)] sz) := by
  refine Met.ofW (cc := cX1_init) (maxL := 1) (ret := none) (by decide) rfl ?_
  intro p e s m args below meth c s₁ B hml hv
  obtain ⟨rfl, rfl, hE, hP⟩ := hv
  have hts := atoms_spec (ws := Cond.code yX1_init cX1_init 1 none :: wT) B.pre
  have F : CallFix p m c cX1_init 1 s _ wT RX1 := ⟨B.exec, B.bytes, hml, findClass_of_methodNamed B.named, fun w hw => hts w (List.mem_cons_of_mem _ hw)⟩
  have hr := B.returns
  have hlocks := B.notSynchronized
  have hin : meth.name = "<init>" := (name_of_methodNamed B.named B.method).1
  have hA : ∀ q, s.heap.size ≤ q → va_A [(a, eX1)] s.heap.size q := fun q h => Or.inr h
  have hB := Bw.start hP
  have hl := lv_entry ([.ref a] : List Value) (n := 1) (Nat.le_of_ble_eq_true rfl)
  rw [lg_entry_eq]
  generalize (lg_sl ([.ref a] : List Value) ++ List.replicate (1 - (lg_sl ([.ref a] : List Value)).length) Slot.unset).toArray = ls at hl ⊢
  have hl : lv_has ls 1 [(0, .ref a)] := hl
  have hB : Bw D (va_A [(a, eX1)] s.heap.size) ((a, .inr (1, [.null, .null, .int 0, .int 0])) :: ([])) s.heap s.heap [] := hB
  refine lv_aload_n F.1 F.2.1 dX1_init_0 rfl (lv_at hl 0 rfl) ?_
  refine z_obj F hl.1 wt_m_RX1_3 dX1_init_1 (Nat.le_of_ble_eq_true rfl) (Nat.le_of_ble_eq_true rfl) ?_
  refine lv_aload_n F.1 F.2.1 dX1_init_4 rfl (lv_at hl 0 rfl) ?_
  refine lv_bipush (v := 8) F.1 F.2.1 dX1_init_5 (by decide) ?_
  refine lv_bipush (v := 6) F.1 F.2.1 dX1_init_7 (by decide) ?_
  refine z_grid F hE hA hB wt_k_RX1_9 (Nat.le_of_ble_eq_true rfl) (Nat.le_of_ble_eq_true rfl) dX1_init_9 (fun q1 r2 H hB => ?_)
  have hB : Bw D (va_A [(a, eX1)] s.heap.size) ((a, .inr (1, [.null, .null, .int 0, .int 0])) :: ([(q1, .inl (cy 4, 8, .inr (.inr (.inr (.inr (fun i => some (r2 i))))))), (r2 0, rI cy 6), (r2 1, rI cy 6), (r2 2, rI cy 6), (r2 3, rI cy 6), (r2 4, rI cy 6), (r2 5, rI cy 6), (r2 6, rI cy 6), (r2 7, rI cy 6)])) s.heap H [] := hB
  refine z_putF F hE hin hB (T := TX1) rfl inlX1 tyX1 tyX1_ok nmX1 0 (by decide) wm_f_RX1_11 rfl rfl (ty := .array (.array .int)) (by decide +kernel) rfl rfl (Nat.le_of_ble_eq_true rfl) dX1_init_13 (fun H locs hB => ?_)
  have hB : Bw D (va_A [(a, eX1)] s.heap.size) ((a, .inr (1, [.ref q1, .null, .int 0, .int 0])) :: ([(q1, .inl (cy 4, 8, .inr (.inr (.inr (.inr (fun i => some (r2 i))))))), (r2 0, rI cy 6), (r2 1, rI cy 6), (r2 2, rI cy 6), (r2 3, rI cy 6), (r2 4, rI cy 6), (r2 5, rI cy 6), (r2 6, rI cy 6), (r2 7, rI cy 6)])) s.heap H locs := hB
  refine lv_aload_n F.1 F.2.1 dX1_init_16 rfl (lv_at hl 0 rfl) ?_
  refine lv_bipush (v := 8) F.1 F.2.1 dX1_init_17 (by decide) ?_
  refine z_int F hE hA hB 8 (by decide) rfl (by decide) (Nat.le_of_ble_eq_true rfl) (Nat.le_of_ble_eq_true rfl) dX1_init_19 (fun q3 H hB => ?_)
  have hB : Bw D (va_A [(a, eX1)] s.heap.size) ((a, .inr (1, [.ref q1, .null, .int 0, .int 0])) :: ([(q1, .inl (cy 4, 8, .inr (.inr (.inr (.inr (fun i => some (r2 i))))))), (r2 0, rI cy 6), (r2 1, rI cy 6), (r2 2, rI cy 6), (r2 3, rI cy 6), (r2 4, rI cy 6), (r2 5, rI cy 6), (r2 6, rI cy 6), (r2 7, rI cy 6), (q3, rI cy 8)])) s.heap H locs := hB
  refine z_putF F hE hin hB (T := TX1) rfl inlX1 tyX1 tyX1_ok nmX1 1 (by decide) wm_f_RX1_16 rfl rfl (ty := .array .int) (by decide +kernel) rfl rfl (Nat.le_of_ble_eq_true rfl) dX1_init_21 (fun H locs hB => ?_)
  have hB : Bw D (va_A [(a, eX1)] s.heap.size) ((a, .inr (1, [.ref q1, .ref q3, .int 0, .int 0])) :: ([(q1, .inl (cy 4, 8, .inr (.inr (.inr (.inr (fun i => some (r2 i))))))), (r2 0, rI cy 6), (r2 1, rI cy 6), (r2 2, rI cy 6), (r2 3, rI cy 6), (r2 4, rI cy 6), (r2 5, rI cy 6), (r2 6, rI cy 6), (r2 7, rI cy 6), (q3, rI cy 8)])) s.heap H locs := hB
  refine lv_aload_n F.1 F.2.1 dX1_init_24 rfl (lv_at hl 0 rfl) ?_
  refine lv_iconst (v := (-1)) F.1 F.2.1 dX1_init_25 (by decide) ?_
  refine z_put F hE hB (T := TX1) rfl inlX1 tyX1 tyX1_ok nmX1 3 (by decide) wm_f_RX1_20 rfl (ty := .int) (by decide +kernel) rfl rfl (Nat.le_of_ble_eq_true rfl) dX1_init_26 (fun H locs hB => ?_)
  have hB : Bw D (va_A [(a, eX1)] s.heap.size) ((a, .inr (1, [.ref q1, .ref q3, .int 0, .int (-1)])) :: ([(q1, .inl (cy 4, 8, .inr (.inr (.inr (.inr (fun i => some (r2 i))))))), (r2 0, rI cy 6), (r2 1, rI cy 6), (r2 2, rI cy 6), (r2 3, rI cy 6), (r2 4, rI cy 6), (r2 5, rI cy 6), (r2 6, rI cy 6), (r2 7, rI cy 6), (q3, rI cy 8)])) s.heap H locs := hB
  refine W.widen (k := 10) (n := 64) (Nat.le_refl _) (Nat.le_refl _) ?_
  exact z_ret F hlocks hr (fun k => match k with | 0 => a | 1 => q1 | 2 => q3 | k + 3 => r2 k) rfl hB dX1_init_29
def wX2 (cy : Nat → ClassId) (u : Nat → Nat) : va_W := (u 0, .inr (2, [.ref (u 1), .ref (u 2), .ref (u 3), .int 0, .int (-1)])) :: ([(u 1, rI cy 8), (u 2, rI cy 8), (u 3, rI cy 8)])
set_option maxHeartbeats 4000000 in
set_option maxRecDepth 100000 in
theorem c_X2_init (l : Launch) (D : va_G) (cy : Nat → ClassId) (a sz : Nat) : Met l yX2_init (Cond.code yX2_init cX2_init 1 none :: wT) ({ frames := 1, cells := 3, slots := 24, locals := 20 }) (CI D cy a eX2 sz []) (QI D a eX2 sz (fun u : Nat → Nat => u 0) (wX2 cy)) 3 24 (va_A [(a, eX2)] sz) := by
  refine Met.ofW (cc := cX2_init) (maxL := 1) (ret := none) (by decide) rfl ?_
  intro p e s m args below meth c s₁ B hml hv
  obtain ⟨rfl, rfl, hE, hP⟩ := hv
  have hts := atoms_spec (ws := Cond.code yX2_init cX2_init 1 none :: wT) B.pre
  have F : CallFix p m c cX2_init 1 s _ wT RX2 := ⟨B.exec, B.bytes, hml, findClass_of_methodNamed B.named, fun w hw => hts w (List.mem_cons_of_mem _ hw)⟩
  have hr := B.returns
  have hlocks := B.notSynchronized
  have hin : meth.name = "<init>" := (name_of_methodNamed B.named B.method).1
  have hA : ∀ q, s.heap.size ≤ q → va_A [(a, eX2)] s.heap.size q := fun q h => Or.inr h
  have hB := Bw.start hP
  have hl := lv_entry ([.ref a] : List Value) (n := 1) (Nat.le_of_ble_eq_true rfl)
  rw [lg_entry_eq]
  generalize (lg_sl ([.ref a] : List Value) ++ List.replicate (1 - (lg_sl ([.ref a] : List Value)).length) Slot.unset).toArray = ls at hl ⊢
  have hl : lv_has ls 1 [(0, .ref a)] := hl
  have hB : Bw D (va_A [(a, eX2)] s.heap.size) ((a, .inr (2, [.null, .null, .null, .int 0, .int 0])) :: ([])) s.heap s.heap [] := hB
  refine lv_aload_n F.1 F.2.1 dX2_init_0 rfl (lv_at hl 0 rfl) ?_
  refine z_obj F hl.1 wt_m_RX2_3 dX2_init_1 (Nat.le_of_ble_eq_true rfl) (Nat.le_of_ble_eq_true rfl) ?_
  refine lv_aload_n F.1 F.2.1 dX2_init_4 rfl (lv_at hl 0 rfl) ?_
  refine lv_bipush (v := 8) F.1 F.2.1 dX2_init_5 (by decide) ?_
  refine z_int F hE hA hB 8 (by decide) rfl (by decide) (Nat.le_of_ble_eq_true rfl) (Nat.le_of_ble_eq_true rfl) dX2_init_7 (fun q1 H hB => ?_)
  have hB : Bw D (va_A [(a, eX2)] s.heap.size) ((a, .inr (2, [.null, .null, .null, .int 0, .int 0])) :: ([(q1, rI cy 8)])) s.heap H [] := hB
  refine z_putF F hE hin hB (T := TX2) rfl inlX2 tyX2 tyX2_ok nmX2 0 (by decide) wm_f_RX2_9 rfl rfl (ty := .array .int) (by decide +kernel) rfl rfl (Nat.le_of_ble_eq_true rfl) dX2_init_9 (fun H locs hB => ?_)
  have hB : Bw D (va_A [(a, eX2)] s.heap.size) ((a, .inr (2, [.ref q1, .null, .null, .int 0, .int 0])) :: ([(q1, rI cy 8)])) s.heap H locs := hB
  refine lv_aload_n F.1 F.2.1 dX2_init_12 rfl (lv_at hl 0 rfl) ?_
  refine lv_bipush (v := 8) F.1 F.2.1 dX2_init_13 (by decide) ?_
  refine z_int F hE hA hB 8 (by decide) rfl (by decide) (Nat.le_of_ble_eq_true rfl) (Nat.le_of_ble_eq_true rfl) dX2_init_15 (fun q2 H hB => ?_)
  have hB : Bw D (va_A [(a, eX2)] s.heap.size) ((a, .inr (2, [.ref q1, .null, .null, .int 0, .int 0])) :: ([(q1, rI cy 8), (q2, rI cy 8)])) s.heap H locs := hB
  refine z_putF F hE hin hB (T := TX2) rfl inlX2 tyX2 tyX2_ok nmX2 1 (by decide) wm_f_RX2_15 rfl rfl (ty := .array .int) (by decide +kernel) rfl rfl (Nat.le_of_ble_eq_true rfl) dX2_init_17 (fun H locs hB => ?_)
  have hB : Bw D (va_A [(a, eX2)] s.heap.size) ((a, .inr (2, [.ref q1, .ref q2, .null, .int 0, .int 0])) :: ([(q1, rI cy 8), (q2, rI cy 8)])) s.heap H locs := hB
  refine lv_aload_n F.1 F.2.1 dX2_init_20 rfl (lv_at hl 0 rfl) ?_
  refine lv_bipush (v := 8) F.1 F.2.1 dX2_init_21 (by decide) ?_
  refine z_int F hE hA hB 8 (by decide) rfl (by decide) (Nat.le_of_ble_eq_true rfl) (Nat.le_of_ble_eq_true rfl) dX2_init_23 (fun q3 H hB => ?_)
  have hB : Bw D (va_A [(a, eX2)] s.heap.size) ((a, .inr (2, [.ref q1, .ref q2, .null, .int 0, .int 0])) :: ([(q1, rI cy 8), (q2, rI cy 8), (q3, rI cy 8)])) s.heap H locs := hB
  refine z_putF F hE hin hB (T := TX2) rfl inlX2 tyX2 tyX2_ok nmX2 2 (by decide) wm_f_RX2_18 rfl rfl (ty := .array .int) (by decide +kernel) rfl rfl (Nat.le_of_ble_eq_true rfl) dX2_init_25 (fun H locs hB => ?_)
  have hB : Bw D (va_A [(a, eX2)] s.heap.size) ((a, .inr (2, [.ref q1, .ref q2, .ref q3, .int 0, .int 0])) :: ([(q1, rI cy 8), (q2, rI cy 8), (q3, rI cy 8)])) s.heap H locs := hB
  refine lv_aload_n F.1 F.2.1 dX2_init_28 rfl (lv_at hl 0 rfl) ?_
  refine lv_iconst (v := (-1)) F.1 F.2.1 dX2_init_29 (by decide) ?_
  refine z_put F hE hB (T := TX2) rfl inlX2 tyX2 tyX2_ok nmX2 4 (by decide) wm_f_RX2_21 rfl (ty := .int) (by decide +kernel) rfl rfl (Nat.le_of_ble_eq_true rfl) dX2_init_30 (fun H locs hB => ?_)
  have hB : Bw D (va_A [(a, eX2)] s.heap.size) ((a, .inr (2, [.ref q1, .ref q2, .ref q3, .int 0, .int (-1)])) :: ([(q1, rI cy 8), (q2, rI cy 8), (q3, rI cy 8)])) s.heap H locs := hB
  refine W.widen (k := 3) (n := 24) (Nat.le_refl _) (Nat.le_refl _) ?_
  exact z_ret F hlocks hr (fun k => match k with | 0 => a | 1 => q1 | 2 => q2 | 3 => q3 | _ => 0) rfl hB dX2_init_33
def wX3 (cy : Nat → ClassId) (u : Nat → Nat) : va_W := (u 0, .inr (3, [.int 0, .int 0, .int 0, .int 0, .int 0])) :: ([])
set_option maxHeartbeats 4000000 in
set_option maxRecDepth 100000 in
theorem c_X3_init (l : Launch) (D : va_G) (cy : Nat → ClassId) (a sz : Nat) : Met l yX3_init (Cond.code yX3_init cX3_init 1 none :: wT) ({ frames := 1, cells := 0, slots := 0, locals := 20 }) (CI D cy a eX3 sz []) (QI D a eX3 sz (fun u : Nat → Nat => u 0) (wX3 cy)) 0 0 (va_A [(a, eX3)] sz) := by
  refine Met.ofW (cc := cX3_init) (maxL := 1) (ret := none) (by decide) rfl ?_
  intro p e s m args below meth c s₁ B hml hv
  obtain ⟨rfl, rfl, hE, hP⟩ := hv
  have hts := atoms_spec (ws := Cond.code yX3_init cX3_init 1 none :: wT) B.pre
  have F : CallFix p m c cX3_init 1 s _ wT RX3 := ⟨B.exec, B.bytes, hml, findClass_of_methodNamed B.named, fun w hw => hts w (List.mem_cons_of_mem _ hw)⟩
  have hr := B.returns
  have hlocks := B.notSynchronized
  have hin : meth.name = "<init>" := (name_of_methodNamed B.named B.method).1
  have hA : ∀ q, s.heap.size ≤ q → va_A [(a, eX3)] s.heap.size q := fun q h => Or.inr h
  have hB := Bw.start hP
  have hl := lv_entry ([.ref a] : List Value) (n := 1) (Nat.le_of_ble_eq_true rfl)
  rw [lg_entry_eq]
  generalize (lg_sl ([.ref a] : List Value) ++ List.replicate (1 - (lg_sl ([.ref a] : List Value)).length) Slot.unset).toArray = ls at hl ⊢
  have hl : lv_has ls 1 [(0, .ref a)] := hl
  have hB : Bw D (va_A [(a, eX3)] s.heap.size) ((a, .inr (3, [.int 0, .int 0, .int 0, .int 0, .int 0])) :: ([])) s.heap s.heap [] := hB
  refine lv_aload_n F.1 F.2.1 dX3_init_0 rfl (lv_at hl 0 rfl) ?_
  refine z_obj F hl.1 wt_m_RX3_3 dX3_init_1 (Nat.le_of_ble_eq_true rfl) (Nat.le_of_ble_eq_true rfl) ?_
  refine W.widen (k := 0) (n := 0) (Nat.le_refl _) (Nat.le_refl _) ?_
  exact z_ret F hlocks hr (fun k => match k with | 0 => a | _ => 0) rfl hB dX3_init_4
def wX4 (cy : Nat → ClassId) (u : Nat → Nat) : va_W := (u 0, .inr (4, [.ref (u 1), .ref (u 2), .ref (u 3), .int 0])) :: ([(u 1, rI cy 8), (u 2, rI cy 8), (u 3, .inl (cy 4, 8, .inr (.inr (.inr (.inr (fun i => some (u (i + 4)))))))), (u 4, rI cy 6), (u 5, rI cy 6), (u 6, rI cy 6), (u 7, rI cy 6), (u 8, rI cy 6), (u 9, rI cy 6), (u 10, rI cy 6), (u 11, rI cy 6)])
set_option maxHeartbeats 4000000 in
set_option maxRecDepth 100000 in
theorem c_X4_init (l : Launch) (D : va_G) (cy : Nat → ClassId) (a sz : Nat) : Met l yX4_init (Cond.code yX4_init cX4_init 1 none :: wT) ({ frames := 1, cells := 11, slots := 72, locals := 20 }) (CI D cy a eX4 sz []) (QI D a eX4 sz (fun u : Nat → Nat => u 0) (wX4 cy)) 11 72 (va_A [(a, eX4)] sz) := by
  refine Met.ofW (cc := cX4_init) (maxL := 1) (ret := none) (by decide) rfl ?_
  intro p e s m args below meth c s₁ B hml hv
  obtain ⟨rfl, rfl, hE, hP⟩ := hv
  have hts := atoms_spec (ws := Cond.code yX4_init cX4_init 1 none :: wT) B.pre
  have F : CallFix p m c cX4_init 1 s _ wT RX4 := ⟨B.exec, B.bytes, hml, findClass_of_methodNamed B.named, fun w hw => hts w (List.mem_cons_of_mem _ hw)⟩
  have hr := B.returns
  have hlocks := B.notSynchronized
  have hin : meth.name = "<init>" := (name_of_methodNamed B.named B.method).1
  have hA : ∀ q, s.heap.size ≤ q → va_A [(a, eX4)] s.heap.size q := fun q h => Or.inr h
  have hB := Bw.start hP
  have hl := lv_entry ([.ref a] : List Value) (n := 1) (Nat.le_of_ble_eq_true rfl)
  rw [lg_entry_eq]
  generalize (lg_sl ([.ref a] : List Value) ++ List.replicate (1 - (lg_sl ([.ref a] : List Value)).length) Slot.unset).toArray = ls at hl ⊢
  have hl : lv_has ls 1 [(0, .ref a)] := hl
  have hB : Bw D (va_A [(a, eX4)] s.heap.size) ((a, .inr (4, [.null, .null, .null, .int 0])) :: ([])) s.heap s.heap [] := hB
  refine lv_aload_n F.1 F.2.1 dX4_init_0 rfl (lv_at hl 0 rfl) ?_
  refine z_obj F hl.1 wt_m_RX4_3 dX4_init_1 (Nat.le_of_ble_eq_true rfl) (Nat.le_of_ble_eq_true rfl) ?_
  refine lv_aload_n F.1 F.2.1 dX4_init_4 rfl (lv_at hl 0 rfl) ?_
  refine lv_bipush (v := 8) F.1 F.2.1 dX4_init_5 (by decide) ?_
  refine z_int F hE hA hB 8 (by decide) rfl (by decide) (Nat.le_of_ble_eq_true rfl) (Nat.le_of_ble_eq_true rfl) dX4_init_7 (fun q1 H hB => ?_)
  have hB : Bw D (va_A [(a, eX4)] s.heap.size) ((a, .inr (4, [.null, .null, .null, .int 0])) :: ([(q1, rI cy 8)])) s.heap H [] := hB
  refine z_putF F hE hin hB (T := TX4) rfl inlX4 tyX4 tyX4_ok nmX4 0 (by decide) wm_f_RX4_9 rfl rfl (ty := .array .int) (by decide +kernel) rfl rfl (Nat.le_of_ble_eq_true rfl) dX4_init_9 (fun H locs hB => ?_)
  have hB : Bw D (va_A [(a, eX4)] s.heap.size) ((a, .inr (4, [.ref q1, .null, .null, .int 0])) :: ([(q1, rI cy 8)])) s.heap H locs := hB
  refine lv_aload_n F.1 F.2.1 dX4_init_12 rfl (lv_at hl 0 rfl) ?_
  refine lv_bipush (v := 8) F.1 F.2.1 dX4_init_13 (by decide) ?_
  refine z_int F hE hA hB 8 (by decide) rfl (by decide) (Nat.le_of_ble_eq_true rfl) (Nat.le_of_ble_eq_true rfl) dX4_init_15 (fun q2 H hB => ?_)
  have hB : Bw D (va_A [(a, eX4)] s.heap.size) ((a, .inr (4, [.ref q1, .null, .null, .int 0])) :: ([(q1, rI cy 8), (q2, rI cy 8)])) s.heap H locs := hB
  refine z_putF F hE hin hB (T := TX4) rfl inlX4 tyX4 tyX4_ok nmX4 1 (by decide) wm_f_RX4_15 rfl rfl (ty := .array .int) (by decide +kernel) rfl rfl (Nat.le_of_ble_eq_true rfl) dX4_init_17 (fun H locs hB => ?_)
  have hB : Bw D (va_A [(a, eX4)] s.heap.size) ((a, .inr (4, [.ref q1, .ref q2, .null, .int 0])) :: ([(q1, rI cy 8), (q2, rI cy 8)])) s.heap H locs := hB
  refine lv_aload_n F.1 F.2.1 dX4_init_20 rfl (lv_at hl 0 rfl) ?_
  refine lv_bipush (v := 8) F.1 F.2.1 dX4_init_21 (by decide) ?_
  refine lv_bipush (v := 6) F.1 F.2.1 dX4_init_23 (by decide) ?_
  refine z_grid F hE hA hB wt_k_RX4_18 (Nat.le_of_ble_eq_true rfl) (Nat.le_of_ble_eq_true rfl) dX4_init_25 (fun q3 r4 H hB => ?_)
  have hB : Bw D (va_A [(a, eX4)] s.heap.size) ((a, .inr (4, [.ref q1, .ref q2, .null, .int 0])) :: ([(q1, rI cy 8), (q2, rI cy 8), (q3, .inl (cy 4, 8, .inr (.inr (.inr (.inr (fun i => some (r4 i))))))), (r4 0, rI cy 6), (r4 1, rI cy 6), (r4 2, rI cy 6), (r4 3, rI cy 6), (r4 4, rI cy 6), (r4 5, rI cy 6), (r4 6, rI cy 6), (r4 7, rI cy 6)])) s.heap H locs := hB
  refine z_putF F hE hin hB (T := TX4) rfl inlX4 tyX4 tyX4_ok nmX4 2 (by decide) wm_f_RX4_20 rfl rfl (ty := .array (.array .int)) (by decide +kernel) rfl rfl (Nat.le_of_ble_eq_true rfl) dX4_init_29 (fun H locs hB => ?_)
  have hB : Bw D (va_A [(a, eX4)] s.heap.size) ((a, .inr (4, [.ref q1, .ref q2, .ref q3, .int 0])) :: ([(q1, rI cy 8), (q2, rI cy 8), (q3, .inl (cy 4, 8, .inr (.inr (.inr (.inr (fun i => some (r4 i))))))), (r4 0, rI cy 6), (r4 1, rI cy 6), (r4 2, rI cy 6), (r4 3, rI cy 6), (r4 4, rI cy 6), (r4 5, rI cy 6), (r4 6, rI cy 6), (r4 7, rI cy 6)])) s.heap H locs := hB
  refine W.widen (k := 11) (n := 72) (Nat.le_refl _) (Nat.le_refl _) ?_
  exact z_ret F hlocks hr (fun k => match k with | 0 => a | 1 => q1 | 2 => q2 | 3 => q3 | k + 4 => r4 k) rfl hB dX4_init_32
def wX5 (cy : Nat → ClassId) (u : Nat → Nat) : va_W := (u 0, .inr (5, [.ref (u 1), .int 0, .int 0, .int 1])) :: ([(u 1, rI cy 60)])
set_option maxHeartbeats 4000000 in
set_option maxRecDepth 100000 in
theorem c_X5_init (l : Launch) (D : va_G) (cy : Nat → ClassId) (a sz : Nat) : Met l yX5_init (Cond.code yX5_init cX5_init 1 none :: wT) ({ frames := 1, cells := 1, slots := 60, locals := 20 }) (CI D cy a eX5 sz []) (QI D a eX5 sz (fun u : Nat → Nat => u 0) (wX5 cy)) 1 60 (va_A [(a, eX5)] sz) := by
  refine Met.ofW (cc := cX5_init) (maxL := 1) (ret := none) (by decide) rfl ?_
  intro p e s m args below meth c s₁ B hml hv
  obtain ⟨rfl, rfl, hE, hP⟩ := hv
  have hts := atoms_spec (ws := Cond.code yX5_init cX5_init 1 none :: wT) B.pre
  have F : CallFix p m c cX5_init 1 s _ wT RX5 := ⟨B.exec, B.bytes, hml, findClass_of_methodNamed B.named, fun w hw => hts w (List.mem_cons_of_mem _ hw)⟩
  have hr := B.returns
  have hlocks := B.notSynchronized
  have hin : meth.name = "<init>" := (name_of_methodNamed B.named B.method).1
  have hA : ∀ q, s.heap.size ≤ q → va_A [(a, eX5)] s.heap.size q := fun q h => Or.inr h
  have hB := Bw.start hP
  have hl := lv_entry ([.ref a] : List Value) (n := 1) (Nat.le_of_ble_eq_true rfl)
  rw [lg_entry_eq]
  generalize (lg_sl ([.ref a] : List Value) ++ List.replicate (1 - (lg_sl ([.ref a] : List Value)).length) Slot.unset).toArray = ls at hl ⊢
  have hl : lv_has ls 1 [(0, .ref a)] := hl
  have hB : Bw D (va_A [(a, eX5)] s.heap.size) ((a, .inr (5, [.null, .int 0, .int 0, .int 0])) :: ([])) s.heap s.heap [] := hB
  refine lv_aload_n F.1 F.2.1 dX5_init_0 rfl (lv_at hl 0 rfl) ?_
  refine z_obj F hl.1 wt_m_RX5_3 dX5_init_1 (Nat.le_of_ble_eq_true rfl) (Nat.le_of_ble_eq_true rfl) ?_
  refine lv_aload_n F.1 F.2.1 dX5_init_4 rfl (lv_at hl 0 rfl) ?_
  refine lv_bipush (v := 60) F.1 F.2.1 dX5_init_5 (by decide) ?_
  refine z_int F hE hA hB 60 (by decide) rfl (by decide) (Nat.le_of_ble_eq_true rfl) (Nat.le_of_ble_eq_true rfl) dX5_init_7 (fun q1 H hB => ?_)
  have hB : Bw D (va_A [(a, eX5)] s.heap.size) ((a, .inr (5, [.null, .int 0, .int 0, .int 0])) :: ([(q1, rI cy 60)])) s.heap H [] := hB
  refine z_putF F hE hin hB (T := TX5) rfl inlX5 tyX5 tyX5_ok nmX5 0 (by decide) wm_f_RX5_9 rfl rfl (ty := .array .int) (by decide +kernel) rfl rfl (Nat.le_of_ble_eq_true rfl) dX5_init_9 (fun H locs hB => ?_)
  have hB : Bw D (va_A [(a, eX5)] s.heap.size) ((a, .inr (5, [.ref q1, .int 0, .int 0, .int 0])) :: ([(q1, rI cy 60)])) s.heap H locs := hB
  refine lv_aload_n F.1 F.2.1 dX5_init_12 rfl (lv_at hl 0 rfl) ?_
  refine lv_iconst (v := 1) F.1 F.2.1 dX5_init_13 (by decide) ?_
  refine z_put F hE hB (T := TX5) rfl inlX5 tyX5 tyX5_ok nmX5 3 (by decide) wm_f_RX5_15 rfl (ty := .boolean) (by decide +kernel) rfl rfl (Nat.le_of_ble_eq_true rfl) dX5_init_14 (fun H locs hB => ?_)
  have hB : Bw D (va_A [(a, eX5)] s.heap.size) ((a, .inr (5, [.ref q1, .int 0, .int 0, .int 1])) :: ([(q1, rI cy 60)])) s.heap H locs := hB
  refine W.widen (k := 1) (n := 60) (Nat.le_refl _) (Nat.le_refl _) ?_
  exact z_ret F hlocks hr (fun k => match k with | 0 => a | 1 => q1 | _ => 0) rfl hB dX5_init_17
def wX6 (cy : Nat → ClassId) (u : Nat → Nat) : va_W := (u 0, .inr (6, [.ref (u 1), .ref (u 2), .ref (u 3), .int 0])) :: ([(u 1, rI cy 8), (u 2, rI cy 8), (u 3, rI cy 8)])
set_option maxHeartbeats 4000000 in
set_option maxRecDepth 100000 in
theorem c_X6_init (l : Launch) (D : va_G) (cy : Nat → ClassId) (a sz : Nat) : Met l yX6_init (Cond.code yX6_init cX6_init 1 none :: wT) ({ frames := 1, cells := 3, slots := 24, locals := 20 }) (CI D cy a eX6 sz []) (QI D a eX6 sz (fun u : Nat → Nat => u 0) (wX6 cy)) 3 24 (va_A [(a, eX6)] sz) := by
  refine Met.ofW (cc := cX6_init) (maxL := 1) (ret := none) (by decide) rfl ?_
  intro p e s m args below meth c s₁ B hml hv
  obtain ⟨rfl, rfl, hE, hP⟩ := hv
  have hts := atoms_spec (ws := Cond.code yX6_init cX6_init 1 none :: wT) B.pre
  have F : CallFix p m c cX6_init 1 s _ wT RX6 := ⟨B.exec, B.bytes, hml, findClass_of_methodNamed B.named, fun w hw => hts w (List.mem_cons_of_mem _ hw)⟩
  have hr := B.returns
  have hlocks := B.notSynchronized
  have hin : meth.name = "<init>" := (name_of_methodNamed B.named B.method).1
  have hA : ∀ q, s.heap.size ≤ q → va_A [(a, eX6)] s.heap.size q := fun q h => Or.inr h
  have hB := Bw.start hP
  have hl := lv_entry ([.ref a] : List Value) (n := 1) (Nat.le_of_ble_eq_true rfl)
  rw [lg_entry_eq]
  generalize (lg_sl ([.ref a] : List Value) ++ List.replicate (1 - (lg_sl ([.ref a] : List Value)).length) Slot.unset).toArray = ls at hl ⊢
  have hl : lv_has ls 1 [(0, .ref a)] := hl
  have hB : Bw D (va_A [(a, eX6)] s.heap.size) ((a, .inr (6, [.null, .null, .null, .int 0])) :: ([])) s.heap s.heap [] := hB
  refine lv_aload_n F.1 F.2.1 dX6_init_0 rfl (lv_at hl 0 rfl) ?_
  refine z_obj F hl.1 wt_m_RX6_3 dX6_init_1 (Nat.le_of_ble_eq_true rfl) (Nat.le_of_ble_eq_true rfl) ?_
  refine lv_aload_n F.1 F.2.1 dX6_init_4 rfl (lv_at hl 0 rfl) ?_
  refine lv_bipush (v := 8) F.1 F.2.1 dX6_init_5 (by decide) ?_
  refine z_int F hE hA hB 8 (by decide) rfl (by decide) (Nat.le_of_ble_eq_true rfl) (Nat.le_of_ble_eq_true rfl) dX6_init_7 (fun q1 H hB => ?_)
  have hB : Bw D (va_A [(a, eX6)] s.heap.size) ((a, .inr (6, [.null, .null, .null, .int 0])) :: ([(q1, rI cy 8)])) s.heap H [] := hB
  refine z_putF F hE hin hB (T := TX6) rfl inlX6 tyX6 tyX6_ok nmX6 0 (by decide) wm_f_RX6_9 rfl rfl (ty := .array .int) (by decide +kernel) rfl rfl (Nat.le_of_ble_eq_true rfl) dX6_init_9 (fun H locs hB => ?_)
  have hB : Bw D (va_A [(a, eX6)] s.heap.size) ((a, .inr (6, [.ref q1, .null, .null, .int 0])) :: ([(q1, rI cy 8)])) s.heap H locs := hB
  refine lv_aload_n F.1 F.2.1 dX6_init_12 rfl (lv_at hl 0 rfl) ?_
  refine lv_bipush (v := 8) F.1 F.2.1 dX6_init_13 (by decide) ?_
  refine z_int F hE hA hB 8 (by decide) rfl (by decide) (Nat.le_of_ble_eq_true rfl) (Nat.le_of_ble_eq_true rfl) dX6_init_15 (fun q2 H hB => ?_)
  have hB : Bw D (va_A [(a, eX6)] s.heap.size) ((a, .inr (6, [.ref q1, .null, .null, .int 0])) :: ([(q1, rI cy 8), (q2, rI cy 8)])) s.heap H locs := hB
  refine z_putF F hE hin hB (T := TX6) rfl inlX6 tyX6 tyX6_ok nmX6 1 (by decide) wm_f_RX6_15 rfl rfl (ty := .array .int) (by decide +kernel) rfl rfl (Nat.le_of_ble_eq_true rfl) dX6_init_17 (fun H locs hB => ?_)
  have hB : Bw D (va_A [(a, eX6)] s.heap.size) ((a, .inr (6, [.ref q1, .ref q2, .null, .int 0])) :: ([(q1, rI cy 8), (q2, rI cy 8)])) s.heap H locs := hB
  refine lv_aload_n F.1 F.2.1 dX6_init_20 rfl (lv_at hl 0 rfl) ?_
  refine lv_bipush (v := 8) F.1 F.2.1 dX6_init_21 (by decide) ?_
  refine z_int F hE hA hB 8 (by decide) rfl (by decide) (Nat.le_of_ble_eq_true rfl) (Nat.le_of_ble_eq_true rfl) dX6_init_23 (fun q3 H hB => ?_)
  have hB : Bw D (va_A [(a, eX6)] s.heap.size) ((a, .inr (6, [.ref q1, .ref q2, .null, .int 0])) :: ([(q1, rI cy 8), (q2, rI cy 8), (q3, rI cy 8)])) s.heap H locs := hB
  refine z_putF F hE hin hB (T := TX6) rfl inlX6 tyX6 tyX6_ok nmX6 2 (by decide) wm_f_RX6_18 rfl rfl (ty := .array .int) (by decide +kernel) rfl rfl (Nat.le_of_ble_eq_true rfl) dX6_init_25 (fun H locs hB => ?_)
  have hB : Bw D (va_A [(a, eX6)] s.heap.size) ((a, .inr (6, [.ref q1, .ref q2, .ref q3, .int 0])) :: ([(q1, rI cy 8), (q2, rI cy 8), (q3, rI cy 8)])) s.heap H locs := hB
  refine W.widen (k := 3) (n := 24) (Nat.le_refl _) (Nat.le_refl _) ?_
  exact z_ret F hlocks hr (fun k => match k with | 0 => a | 1 => q1 | 2 => q2 | 3 => q3 | _ => 0) rfl hB dX6_init_28
def wX7 (cy : Nat → ClassId) (N : Nat) (u : Nat → Nat) : va_W := (u 0, .inr (7, [.ref (u 1), .int 0])) :: ([(u 1, rI cy N)])
set_option maxHeartbeats 4000000 in
set_option maxRecDepth 100000 in
theorem c_X7_init (l : Launch) (D : va_G) (cy : Nat → ClassId) (a sz : Nat) (n : Int32) (N : Nat) (hn : ¬ n < 0) (hN : n.toNatClampNeg = N) (hby : N * componentBytes .int ≤ 536870912) : Met l yX7_init (Cond.code yX7_init cX7_init 2 none :: wT) ({ frames := 1, cells := 1, slots := N, locals := 20 }) (CI D cy a eX7 sz [.int n]) (QI D a eX7 sz (fun u : Nat → Nat => u 0) (wX7 cy N)) 1 N (va_A [(a, eX7)] sz) := by
  refine Met.ofW (cc := cX7_init) (maxL := 2) (ret := none) (by decide) rfl ?_
  intro p e s m args below meth c s₁ B hml hv
  obtain ⟨rfl, rfl, hE, hP⟩ := hv
  have hts := atoms_spec (ws := Cond.code yX7_init cX7_init 2 none :: wT) B.pre
  have F : CallFix p m c cX7_init 2 s _ wT RX7 := ⟨B.exec, B.bytes, hml, findClass_of_methodNamed B.named, fun w hw => hts w (List.mem_cons_of_mem _ hw)⟩
  have hr := B.returns
  have hlocks := B.notSynchronized
  have hin : meth.name = "<init>" := (name_of_methodNamed B.named B.method).1
  have hA : ∀ q, s.heap.size ≤ q → va_A [(a, eX7)] s.heap.size q := fun q h => Or.inr h
  have hB := Bw.start hP
  have hl := lv_entry ([.ref a, .int n] : List Value) (n := 2) (Nat.le_of_ble_eq_true rfl)
  rw [lg_entry_eq]
  generalize (lg_sl ([.ref a, .int n] : List Value) ++ List.replicate (2 - (lg_sl ([.ref a, .int n] : List Value)).length) Slot.unset).toArray = ls at hl ⊢
  have hl : lv_has ls 2 [(0, .ref a), (1, .int n)] := hl
  have hB : Bw D (va_A [(a, eX7)] s.heap.size) ((a, .inr (7, [.null, .int 0])) :: ([])) s.heap s.heap [] := hB
  have hc1 : 0 + 1 ≤ (headSpec (Cond.code yX7_init cX7_init 2 none :: wT) { frames := 1, cells := 1, slots := N, locals := 20 }).room.cells := Nat.le_refl _
  have hs1 : 0 + N ≤ (headSpec (Cond.code yX7_init cX7_init 2 none :: wT) { frames := 1, cells := 1, slots := N, locals := 20 }).room.slots := Nat.le_of_eq (Nat.zero_add N)
  refine lv_aload_n F.1 F.2.1 dX7_init_0 rfl (lv_at hl 0 rfl) ?_
  refine z_obj F hl.1 wt_m_RX7_3 dX7_init_1 (Nat.le_of_ble_eq_true rfl) (Nat.le_of_ble_eq_true rfl) ?_
  refine lv_aload_n F.1 F.2.1 dX7_init_4 rfl (lv_at hl 0 rfl) ?_
  refine lv_iload_n F.1 F.2.1 dX7_init_5 rfl (lv_at hl 1 rfl) ?_
  refine z_int F hE hA hB N hn hN hby hc1 hs1 dX7_init_6 (fun q1 H hB => ?_)
  have hB : Bw D (va_A [(a, eX7)] s.heap.size) ((a, .inr (7, [.null, .int 0])) :: ([(q1, rI cy N)])) s.heap H [] := hB
  refine z_putF F hE hin hB (T := TX7) rfl inlX7 tyX7 tyX7_ok nmX7 0 (by decide) wm_f_RX7_9 rfl rfl (ty := .array .int) (by decide +kernel) rfl rfl (Nat.le_of_ble_eq_true rfl) dX7_init_8 (fun H locs hB => ?_)
  have hB : Bw D (va_A [(a, eX7)] s.heap.size) ((a, .inr (7, [.ref q1, .int 0])) :: ([(q1, rI cy N)])) s.heap H locs := hB
  refine W.widen (k := 1) (n := N) (Nat.le_refl _) (Nat.le_of_eq (Nat.zero_add N)) ?_
  exact z_ret F hlocks hr (fun k => match k with | 0 => a | 1 => q1 | _ => 0) rfl hB dX7_init_11
def wX8 (cy : Nat → ClassId) (u : Nat → Nat) : va_W := (u 0, .inr (8, [.ref (u 1), .ref (u 2), .ref (u 3), .ref (u 4), .ref (u 5), .int 0, .int 0])) :: ([(u 1, rI cy 8), (u 2, rI cy 8), (u 3, rI cy 9), (u 4, rI cy 64), (u 5, rI cy 8)])
set_option maxHeartbeats 4000000 in
set_option maxRecDepth 100000 in
theorem c_X8_init (l : Launch) (D : va_G) (cy : Nat → ClassId) (a sz : Nat) : Met l yX8_init (Cond.code yX8_init cX8_init 1 none :: wT) ({ frames := 1, cells := 5, slots := 97, locals := 20 }) (CI D cy a eX8 sz []) (QI D a eX8 sz (fun u : Nat → Nat => u 0) (wX8 cy)) 5 97 (va_A [(a, eX8)] sz) := by
  refine Met.ofW (cc := cX8_init) (maxL := 1) (ret := none) (by decide) rfl ?_
  intro p e s m args below meth c s₁ B hml hv
  obtain ⟨rfl, rfl, hE, hP⟩ := hv
  have hts := atoms_spec (ws := Cond.code yX8_init cX8_init 1 none :: wT) B.pre
  have F : CallFix p m c cX8_init 1 s _ wT RX8 := ⟨B.exec, B.bytes, hml, findClass_of_methodNamed B.named, fun w hw => hts w (List.mem_cons_of_mem _ hw)⟩
  have hr := B.returns
  have hlocks := B.notSynchronized
  have hin : meth.name = "<init>" := (name_of_methodNamed B.named B.method).1
  have hA : ∀ q, s.heap.size ≤ q → va_A [(a, eX8)] s.heap.size q := fun q h => Or.inr h
  have hB := Bw.start hP
  have hl := lv_entry ([.ref a] : List Value) (n := 1) (Nat.le_of_ble_eq_true rfl)
  rw [lg_entry_eq]
  generalize (lg_sl ([.ref a] : List Value) ++ List.replicate (1 - (lg_sl ([.ref a] : List Value)).length) Slot.unset).toArray = ls at hl ⊢
  have hl : lv_has ls 1 [(0, .ref a)] := hl
  have hB : Bw D (va_A [(a, eX8)] s.heap.size) ((a, .inr (8, [.null, .null, .null, .null, .null, .int 0, .int 0])) :: ([])) s.heap s.heap [] := hB
  refine lv_aload_n F.1 F.2.1 dX8_init_0 rfl (lv_at hl 0 rfl) ?_
  refine z_obj F hl.1 wt_m_RX8_3 dX8_init_1 (Nat.le_of_ble_eq_true rfl) (Nat.le_of_ble_eq_true rfl) ?_
  refine lv_aload_n F.1 F.2.1 dX8_init_4 rfl (lv_at hl 0 rfl) ?_
  refine lv_bipush (v := 8) F.1 F.2.1 dX8_init_5 (by decide) ?_
  refine z_int F hE hA hB 8 (by decide) rfl (by decide) (Nat.le_of_ble_eq_true rfl) (Nat.le_of_ble_eq_true rfl) dX8_init_7 (fun q1 H hB => ?_)
  have hB : Bw D (va_A [(a, eX8)] s.heap.size) ((a, .inr (8, [.null, .null, .null, .null, .null, .int 0, .int 0])) :: ([(q1, rI cy 8)])) s.heap H [] := hB
  refine z_putF F hE hin hB (T := TX8) rfl inlX8 tyX8 tyX8_ok nmX8 0 (by decide) wm_f_RX8_9 rfl rfl (ty := .array .int) (by decide +kernel) rfl rfl (Nat.le_of_ble_eq_true rfl) dX8_init_9 (fun H locs hB => ?_)
  have hB : Bw D (va_A [(a, eX8)] s.heap.size) ((a, .inr (8, [.ref q1, .null, .null, .null, .null, .int 0, .int 0])) :: ([(q1, rI cy 8)])) s.heap H locs := hB
  refine lv_aload_n F.1 F.2.1 dX8_init_12 rfl (lv_at hl 0 rfl) ?_
  refine lv_bipush (v := 8) F.1 F.2.1 dX8_init_13 (by decide) ?_
  refine z_int F hE hA hB 8 (by decide) rfl (by decide) (Nat.le_of_ble_eq_true rfl) (Nat.le_of_ble_eq_true rfl) dX8_init_15 (fun q2 H hB => ?_)
  have hB : Bw D (va_A [(a, eX8)] s.heap.size) ((a, .inr (8, [.ref q1, .null, .null, .null, .null, .int 0, .int 0])) :: ([(q1, rI cy 8), (q2, rI cy 8)])) s.heap H locs := hB
  refine z_putF F hE hin hB (T := TX8) rfl inlX8 tyX8 tyX8_ok nmX8 1 (by decide) wm_f_RX8_15 rfl rfl (ty := .array .int) (by decide +kernel) rfl rfl (Nat.le_of_ble_eq_true rfl) dX8_init_17 (fun H locs hB => ?_)
  have hB : Bw D (va_A [(a, eX8)] s.heap.size) ((a, .inr (8, [.ref q1, .ref q2, .null, .null, .null, .int 0, .int 0])) :: ([(q1, rI cy 8), (q2, rI cy 8)])) s.heap H locs := hB
  refine lv_aload_n F.1 F.2.1 dX8_init_20 rfl (lv_at hl 0 rfl) ?_
  refine lv_bipush (v := 9) F.1 F.2.1 dX8_init_21 (by decide) ?_
  refine z_int F hE hA hB 9 (by decide) rfl (by decide) (Nat.le_of_ble_eq_true rfl) (Nat.le_of_ble_eq_true rfl) dX8_init_23 (fun q3 H hB => ?_)
  have hB : Bw D (va_A [(a, eX8)] s.heap.size) ((a, .inr (8, [.ref q1, .ref q2, .null, .null, .null, .int 0, .int 0])) :: ([(q1, rI cy 8), (q2, rI cy 8), (q3, rI cy 9)])) s.heap H locs := hB
  refine z_putF F hE hin hB (T := TX8) rfl inlX8 tyX8 tyX8_ok nmX8 2 (by decide) wm_f_RX8_18 rfl rfl (ty := .array .int) (by decide +kernel) rfl rfl (Nat.le_of_ble_eq_true rfl) dX8_init_25 (fun H locs hB => ?_)
  have hB : Bw D (va_A [(a, eX8)] s.heap.size) ((a, .inr (8, [.ref q1, .ref q2, .ref q3, .null, .null, .int 0, .int 0])) :: ([(q1, rI cy 8), (q2, rI cy 8), (q3, rI cy 9)])) s.heap H locs := hB
  refine lv_aload_n F.1 F.2.1 dX8_init_28 rfl (lv_at hl 0 rfl) ?_
  refine lv_bipush (v := 64) F.1 F.2.1 dX8_init_29 (by decide) ?_
  refine z_int F hE hA hB 64 (by decide) rfl (by decide) (Nat.le_of_ble_eq_true rfl) (Nat.le_of_ble_eq_true rfl) dX8_init_31 (fun q4 H hB => ?_)
  have hB : Bw D (va_A [(a, eX8)] s.heap.size) ((a, .inr (8, [.ref q1, .ref q2, .ref q3, .null, .null, .int 0, .int 0])) :: ([(q1, rI cy 8), (q2, rI cy 8), (q3, rI cy 9), (q4, rI cy 64)])) s.heap H locs := hB
  refine z_putF F hE hin hB (T := TX8) rfl inlX8 tyX8 tyX8_ok nmX8 3 (by decide) wm_f_RX8_21 rfl rfl (ty := .array .int) (by decide +kernel) rfl rfl (Nat.le_of_ble_eq_true rfl) dX8_init_33 (fun H locs hB => ?_)
  have hB : Bw D (va_A [(a, eX8)] s.heap.size) ((a, .inr (8, [.ref q1, .ref q2, .ref q3, .ref q4, .null, .int 0, .int 0])) :: ([(q1, rI cy 8), (q2, rI cy 8), (q3, rI cy 9), (q4, rI cy 64)])) s.heap H locs := hB
  refine lv_aload_n F.1 F.2.1 dX8_init_36 rfl (lv_at hl 0 rfl) ?_
  refine lv_bipush (v := 8) F.1 F.2.1 dX8_init_37 (by decide) ?_
  refine z_int F hE hA hB 8 (by decide) rfl (by decide) (Nat.le_of_ble_eq_true rfl) (Nat.le_of_ble_eq_true rfl) dX8_init_39 (fun q5 H hB => ?_)
  have hB : Bw D (va_A [(a, eX8)] s.heap.size) ((a, .inr (8, [.ref q1, .ref q2, .ref q3, .ref q4, .null, .int 0, .int 0])) :: ([(q1, rI cy 8), (q2, rI cy 8), (q3, rI cy 9), (q4, rI cy 64), (q5, rI cy 8)])) s.heap H locs := hB
  refine z_putF F hE hin hB (T := TX8) rfl inlX8 tyX8 tyX8_ok nmX8 4 (by decide) wm_f_RX8_24 rfl rfl (ty := .array .int) (by decide +kernel) rfl rfl (Nat.le_of_ble_eq_true rfl) dX8_init_41 (fun H locs hB => ?_)
  have hB : Bw D (va_A [(a, eX8)] s.heap.size) ((a, .inr (8, [.ref q1, .ref q2, .ref q3, .ref q4, .ref q5, .int 0, .int 0])) :: ([(q1, rI cy 8), (q2, rI cy 8), (q3, rI cy 9), (q4, rI cy 64), (q5, rI cy 8)])) s.heap H locs := hB
  refine W.widen (k := 5) (n := 97) (Nat.le_refl _) (Nat.le_refl _) ?_
  exact z_ret F hlocks hr (fun k => match k with | 0 => a | 1 => q1 | 2 => q2 | 3 => q3 | 4 => q4 | 5 => q5 | _ => 0) rfl hB dX8_init_44
