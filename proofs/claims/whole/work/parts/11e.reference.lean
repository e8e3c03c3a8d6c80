/-! 11e: the constructor of the reference -/
def wX10 (cy : Nat → ClassId) (u : Nat → Nat) : va_W := (u 0, .inr (10, [.ref (u 1), .ref (u 2), .ref (u 3), .ref (u 4), .int 0, .ref (u 5), .ref (u 6), .int 0, .ref (u 7), .int 0, .ref (u 8), .int 0, .ref (u 9), .int 255, .int (-1), .ref (u 10), .ref (u 11), .ref (u 12), .ref (u 13), .int 0, .int 0, .int 0, .int 0, .ref (u 14), .ref (u 15), .int 0])) :: ([(u 1, .inl (cy 0, 4, .inl (upd (upd (upd (upd (fun _ => 0) 0 (-1)) 1 (-1)) 2 (-1)) 3 (-1)))), (u 2, rI cy 4), (u 3, rI cy 240), (u 4, rI cy 60), (u 5, rI cy 128), (u 6, rI cy 2), (u 7, rI cy 24), (u 8, rI cy 56), (u 9, rI cy 16), (u 10, rI cy 8), (u 11, rI cy 64), (u 12, rI cy 64), (u 13, rI cy 8), (u 14, rI cy 24), (u 15, rI cy 80)])
set_option maxHeartbeats 4000000 in
set_option maxRecDepth 100000 in
theorem c_X10_init (l : Launch) (D : va_G) (cy : Nat → ClassId) (a sz : Nat) : Met l yX10_init (Cond.code yX10_init cX10_init 2 none :: wT) ({ frames := 1, cells := 15, slots := 782, locals := 20 }) (CI D cy a eX10 sz []) (QI D a eX10 sz (fun u : Nat → Nat => u 0) (wX10 cy)) 15 782 (va_A [(a, eX10)] sz) := by
  refine Met.ofW (cc := cX10_init) (maxL := 2) (ret := none) (by decide) rfl ?_
  intro p e s m args below meth c s₁ B hml hv
  obtain ⟨rfl, rfl, hE, hP⟩ := hv
  have hts := atoms_spec (ws := Cond.code yX10_init cX10_init 2 none :: wT) B.pre
  have F : CallFix p m c cX10_init 2 s _ wT RX10 := ⟨B.exec, B.bytes, hml, findClass_of_methodNamed B.named, fun w hw => hts w (List.mem_cons_of_mem _ hw)⟩
  have hr := B.returns
  have hlocks := B.notSynchronized
  have hin : meth.name = "<init>" := (name_of_methodNamed B.named B.method).1
  have hA : ∀ q, s.heap.size ≤ q → va_A [(a, eX10)] s.heap.size q := fun q h => Or.inr h
  have hB := Bw.start hP
  have hl := lv_entry ([.ref a] : List Value) (n := 2) (Nat.le_of_ble_eq_true rfl)
  rw [lg_entry_eq]
  generalize (lg_sl ([.ref a] : List Value) ++ List.replicate (2 - (lg_sl ([.ref a] : List Value)).length) Slot.unset).toArray = ls at hl ⊢
  have hl : lv_has ls 2 [(0, .ref a)] := hl
  have hB : Bw D (va_A [(a, eX10)] s.heap.size) ((a, .inr (10, [.null, .null, .null, .null, .int 0, .null, .null, .int 0, .null, .int 0, .null, .int 0, .null, .int 0, .int 0, .null, .null, .null, .null, .int 0, .int 0, .int 0, .int 0, .null, .null, .int 0])) :: ([])) s.heap s.heap [] := hB
  refine lv_aload_n F.1 F.2.1 dX10_init_0 rfl (lv_at hl 0 rfl) ?_
  refine z_obj F hl.1 wt_m_RX10_1 dX10_init_1 (Nat.le_of_ble_eq_true rfl) (Nat.le_of_ble_eq_true rfl) ?_
  refine lv_aload_n F.1 F.2.1 dX10_init_4 rfl (lv_at hl 0 rfl) ?_
  refine lv_iconst (v := 4) F.1 F.2.1 dX10_init_5 (by decide) ?_
  refine z_int F hE hA hB 4 (by decide) rfl (by decide) (Nat.le_of_ble_eq_true rfl) (Nat.le_of_ble_eq_true rfl) dX10_init_6 (fun q1 H hB => ?_)
  have hB : Bw D (va_A [(a, eX10)] s.heap.size) ((a, .inr (10, [.null, .null, .null, .null, .int 0, .null, .null, .int 0, .null, .int 0, .null, .int 0, .null, .int 0, .int 0, .null, .null, .null, .null, .int 0, .int 0, .int 0, .int 0, .null, .null, .int 0])) :: ([(q1, rI cy 4)])) s.heap H [] := hB
  refine z_putF F hE hin hB (T := TX10) rfl inlX10 tyX10 tyX10_ok nmX10 0 (by decide) wm_f_RX10_7 rfl rfl (ty := .array .int) (by decide +kernel) rfl rfl (Nat.le_of_ble_eq_true rfl) dX10_init_8 (fun H locs hB => ?_)
  have hB : Bw D (va_A [(a, eX10)] s.heap.size) ((a, .inr (10, [.ref q1, .null, .null, .null, .int 0, .null, .null, .int 0, .null, .int 0, .null, .int 0, .null, .int 0, .int 0, .null, .null, .null, .null, .int 0, .int 0, .int 0, .int 0, .null, .null, .int 0])) :: ([(q1, rI cy 4)])) s.heap H locs := hB
  refine lv_aload_n F.1 F.2.1 dX10_init_11 rfl (lv_at hl 0 rfl) ?_
  refine lv_iconst (v := 4) F.1 F.2.1 dX10_init_12 (by decide) ?_
  refine z_int F hE hA hB 4 (by decide) rfl (by decide) (Nat.le_of_ble_eq_true rfl) (Nat.le_of_ble_eq_true rfl) dX10_init_13 (fun q2 H hB => ?_)
  have hB : Bw D (va_A [(a, eX10)] s.heap.size) ((a, .inr (10, [.ref q1, .null, .null, .null, .int 0, .null, .null, .int 0, .null, .int 0, .null, .int 0, .null, .int 0, .int 0, .null, .null, .null, .null, .int 0, .int 0, .int 0, .int 0, .null, .null, .int 0])) :: ([(q1, rI cy 4), (q2, rI cy 4)])) s.heap H locs := hB
  refine z_putF F hE hin hB (T := TX10) rfl inlX10 tyX10 tyX10_ok nmX10 1 (by decide) wm_f_RX10_13 rfl rfl (ty := .array .int) (by decide +kernel) rfl rfl (Nat.le_of_ble_eq_true rfl) dX10_init_15 (fun H locs hB => ?_)
  have hB : Bw D (va_A [(a, eX10)] s.heap.size) ((a, .inr (10, [.ref q1, .ref q2, .null, .null, .int 0, .null, .null, .int 0, .null, .int 0, .null, .int 0, .null, .int 0, .int 0, .null, .null, .null, .null, .int 0, .int 0, .int 0, .int 0, .null, .null, .int 0])) :: ([(q1, rI cy 4), (q2, rI cy 4)])) s.heap H locs := hB
  refine lv_aload_n F.1 F.2.1 dX10_init_18 rfl (lv_at hl 0 rfl) ?_
  refine lv_sipush (v := 240) F.1 F.2.1 dX10_init_19 (by decide) ?_
  refine z_int F hE hA hB 240 (by decide) rfl (by decide) (Nat.le_of_ble_eq_true rfl) (Nat.le_of_ble_eq_true rfl) dX10_init_22 (fun q3 H hB => ?_)
  have hB : Bw D (va_A [(a, eX10)] s.heap.size) ((a, .inr (10, [.ref q1, .ref q2, .null, .null, .int 0, .null, .null, .int 0, .null, .int 0, .null, .int 0, .null, .int 0, .int 0, .null, .null, .null, .null, .int 0, .int 0, .int 0, .int 0, .null, .null, .int 0])) :: ([(q1, rI cy 4), (q2, rI cy 4), (q3, rI cy 240)])) s.heap H locs := hB
  refine z_putF F hE hin hB (T := TX10) rfl inlX10 tyX10 tyX10_ok nmX10 2 (by decide) wm_f_RX10_16 rfl rfl (ty := .array .int) (by decide +kernel) rfl rfl (Nat.le_of_ble_eq_true rfl) dX10_init_24 (fun H locs hB => ?_)
  have hB : Bw D (va_A [(a, eX10)] s.heap.size) ((a, .inr (10, [.ref q1, .ref q2, .ref q3, .null, .int 0, .null, .null, .int 0, .null, .int 0, .null, .int 0, .null, .int 0, .int 0, .null, .null, .null, .null, .int 0, .int 0, .int 0, .int 0, .null, .null, .int 0])) :: ([(q1, rI cy 4), (q2, rI cy 4), (q3, rI cy 240)])) s.heap H locs := hB
  refine lv_aload_n F.1 F.2.1 dX10_init_27 rfl (lv_at hl 0 rfl) ?_
  refine lv_bipush (v := 60) F.1 F.2.1 dX10_init_28 (by decide) ?_
  refine z_int F hE hA hB 60 (by decide) rfl (by decide) (Nat.le_of_ble_eq_true rfl) (Nat.le_of_ble_eq_true rfl) dX10_init_30 (fun q4 H hB => ?_)
  have hB : Bw D (va_A [(a, eX10)] s.heap.size) ((a, .inr (10, [.ref q1, .ref q2, .ref q3, .null, .int 0, .null, .null, .int 0, .null, .int 0, .null, .int 0, .null, .int 0, .int 0, .null, .null, .null, .null, .int 0, .int 0, .int 0, .int 0, .null, .null, .int 0])) :: ([(q1, rI cy 4), (q2, rI cy 4), (q3, rI cy 240), (q4, rI cy 60)])) s.heap H locs := hB
  refine z_putF F hE hin hB (T := TX10) rfl inlX10 tyX10 tyX10_ok nmX10 3 (by decide) wm_f_RX10_19 rfl rfl (ty := .array .int) (by decide +kernel) rfl rfl (Nat.le_of_ble_eq_true rfl) dX10_init_32 (fun H locs hB => ?_)
  have hB : Bw D (va_A [(a, eX10)] s.heap.size) ((a, .inr (10, [.ref q1, .ref q2, .ref q3, .ref q4, .int 0, .null, .null, .int 0, .null, .int 0, .null, .int 0, .null, .int 0, .int 0, .null, .null, .null, .null, .int 0, .int 0, .int 0, .int 0, .null, .null, .int 0])) :: ([(q1, rI cy 4), (q2, rI cy 4), (q3, rI cy 240), (q4, rI cy 60)])) s.heap H locs := hB
  refine lv_aload_n F.1 F.2.1 dX10_init_35 rfl (lv_at hl 0 rfl) ?_
  refine lv_sipush (v := 128) F.1 F.2.1 dX10_init_36 (by decide) ?_
  refine z_int F hE hA hB 128 (by decide) rfl (by decide) (Nat.le_of_ble_eq_true rfl) (Nat.le_of_ble_eq_true rfl) dX10_init_39 (fun q5 H hB => ?_)
  have hB : Bw D (va_A [(a, eX10)] s.heap.size) ((a, .inr (10, [.ref q1, .ref q2, .ref q3, .ref q4, .int 0, .null, .null, .int 0, .null, .int 0, .null, .int 0, .null, .int 0, .int 0, .null, .null, .null, .null, .int 0, .int 0, .int 0, .int 0, .null, .null, .int 0])) :: ([(q1, rI cy 4), (q2, rI cy 4), (q3, rI cy 240), (q4, rI cy 60), (q5, rI cy 128)])) s.heap H locs := hB
  refine z_putF F hE hin hB (T := TX10) rfl inlX10 tyX10 tyX10_ok nmX10 5 (by decide) wm_f_RX10_22 rfl rfl (ty := .array .int) (by decide +kernel) rfl rfl (Nat.le_of_ble_eq_true rfl) dX10_init_41 (fun H locs hB => ?_)
  have hB : Bw D (va_A [(a, eX10)] s.heap.size) ((a, .inr (10, [.ref q1, .ref q2, .ref q3, .ref q4, .int 0, .ref q5, .null, .int 0, .null, .int 0, .null, .int 0, .null, .int 0, .int 0, .null, .null, .null, .null, .int 0, .int 0, .int 0, .int 0, .null, .null, .int 0])) :: ([(q1, rI cy 4), (q2, rI cy 4), (q3, rI cy 240), (q4, rI cy 60), (q5, rI cy 128)])) s.heap H locs := hB
  refine lv_aload_n F.1 F.2.1 dX10_init_44 rfl (lv_at hl 0 rfl) ?_
  refine lv_iconst (v := 2) F.1 F.2.1 dX10_init_45 (by decide) ?_
  refine z_int F hE hA hB 2 (by decide) rfl (by decide) (Nat.le_of_ble_eq_true rfl) (Nat.le_of_ble_eq_true rfl) dX10_init_46 (fun q6 H hB => ?_)
  have hB : Bw D (va_A [(a, eX10)] s.heap.size) ((a, .inr (10, [.ref q1, .ref q2, .ref q3, .ref q4, .int 0, .ref q5, .null, .int 0, .null, .int 0, .null, .int 0, .null, .int 0, .int 0, .null, .null, .null, .null, .int 0, .int 0, .int 0, .int 0, .null, .null, .int 0])) :: ([(q1, rI cy 4), (q2, rI cy 4), (q3, rI cy 240), (q4, rI cy 60), (q5, rI cy 128), (q6, rI cy 2)])) s.heap H locs := hB
  refine z_putF F hE hin hB (T := TX10) rfl inlX10 tyX10 tyX10_ok nmX10 6 (by decide) wm_f_RX10_25 rfl rfl (ty := .array .int) (by decide +kernel) rfl rfl (Nat.le_of_ble_eq_true rfl) dX10_init_48 (fun H locs hB => ?_)
  have hB : Bw D (va_A [(a, eX10)] s.heap.size) ((a, .inr (10, [.ref q1, .ref q2, .ref q3, .ref q4, .int 0, .ref q5, .ref q6, .int 0, .null, .int 0, .null, .int 0, .null, .int 0, .int 0, .null, .null, .null, .null, .int 0, .int 0, .int 0, .int 0, .null, .null, .int 0])) :: ([(q1, rI cy 4), (q2, rI cy 4), (q3, rI cy 240), (q4, rI cy 60), (q5, rI cy 128), (q6, rI cy 2)])) s.heap H locs := hB
  refine lv_aload_n F.1 F.2.1 dX10_init_51 rfl (lv_at hl 0 rfl) ?_
  refine lv_bipush (v := 24) F.1 F.2.1 dX10_init_52 (by decide) ?_
  refine z_int F hE hA hB 24 (by decide) rfl (by decide) (Nat.le_of_ble_eq_true rfl) (Nat.le_of_ble_eq_true rfl) dX10_init_54 (fun q7 H hB => ?_)
  have hB : Bw D (va_A [(a, eX10)] s.heap.size) ((a, .inr (10, [.ref q1, .ref q2, .ref q3, .ref q4, .int 0, .ref q5, .ref q6, .int 0, .null, .int 0, .null, .int 0, .null, .int 0, .int 0, .null, .null, .null, .null, .int 0, .int 0, .int 0, .int 0, .null, .null, .int 0])) :: ([(q1, rI cy 4), (q2, rI cy 4), (q3, rI cy 240), (q4, rI cy 60), (q5, rI cy 128), (q6, rI cy 2), (q7, rI cy 24)])) s.heap H locs := hB
  refine z_putF F hE hin hB (T := TX10) rfl inlX10 tyX10 tyX10_ok nmX10 8 (by decide) wm_f_RX10_28 rfl rfl (ty := .array .int) (by decide +kernel) rfl rfl (Nat.le_of_ble_eq_true rfl) dX10_init_56 (fun H locs hB => ?_)
  have hB : Bw D (va_A [(a, eX10)] s.heap.size) ((a, .inr (10, [.ref q1, .ref q2, .ref q3, .ref q4, .int 0, .ref q5, .ref q6, .int 0, .ref q7, .int 0, .null, .int 0, .null, .int 0, .int 0, .null, .null, .null, .null, .int 0, .int 0, .int 0, .int 0, .null, .null, .int 0])) :: ([(q1, rI cy 4), (q2, rI cy 4), (q3, rI cy 240), (q4, rI cy 60), (q5, rI cy 128), (q6, rI cy 2), (q7, rI cy 24)])) s.heap H locs := hB
  refine lv_aload_n F.1 F.2.1 dX10_init_59 rfl (lv_at hl 0 rfl) ?_
  refine lv_bipush (v := 56) F.1 F.2.1 dX10_init_60 (by decide) ?_
  refine z_int F hE hA hB 56 (by decide) rfl (by decide) (Nat.le_of_ble_eq_true rfl) (Nat.le_of_ble_eq_true rfl) dX10_init_62 (fun q8 H hB => ?_)
  have hB : Bw D (va_A [(a, eX10)] s.heap.size) ((a, .inr (10, [.ref q1, .ref q2, .ref q3, .ref q4, .int 0, .ref q5, .ref q6, .int 0, .ref q7, .int 0, .null, .int 0, .null, .int 0, .int 0, .null, .null, .null, .null, .int 0, .int 0, .int 0, .int 0, .null, .null, .int 0])) :: ([(q1, rI cy 4), (q2, rI cy 4), (q3, rI cy 240), (q4, rI cy 60), (q5, rI cy 128), (q6, rI cy 2), (q7, rI cy 24), (q8, rI cy 56)])) s.heap H locs := hB
  refine z_putF F hE hin hB (T := TX10) rfl inlX10 tyX10 tyX10_ok nmX10 10 (by decide) wm_f_RX10_31 rfl rfl (ty := .array .int) (by decide +kernel) rfl rfl (Nat.le_of_ble_eq_true rfl) dX10_init_64 (fun H locs hB => ?_)
  have hB : Bw D (va_A [(a, eX10)] s.heap.size) ((a, .inr (10, [.ref q1, .ref q2, .ref q3, .ref q4, .int 0, .ref q5, .ref q6, .int 0, .ref q7, .int 0, .ref q8, .int 0, .null, .int 0, .int 0, .null, .null, .null, .null, .int 0, .int 0, .int 0, .int 0, .null, .null, .int 0])) :: ([(q1, rI cy 4), (q2, rI cy 4), (q3, rI cy 240), (q4, rI cy 60), (q5, rI cy 128), (q6, rI cy 2), (q7, rI cy 24), (q8, rI cy 56)])) s.heap H locs := hB
  refine lv_aload_n F.1 F.2.1 dX10_init_67 rfl (lv_at hl 0 rfl) ?_
  refine lv_bipush (v := 16) F.1 F.2.1 dX10_init_68 (by decide) ?_
  refine z_int F hE hA hB 16 (by decide) rfl (by decide) (Nat.le_of_ble_eq_true rfl) (Nat.le_of_ble_eq_true rfl) dX10_init_70 (fun q9 H hB => ?_)
  have hB : Bw D (va_A [(a, eX10)] s.heap.size) ((a, .inr (10, [.ref q1, .ref q2, .ref q3, .ref q4, .int 0, .ref q5, .ref q6, .int 0, .ref q7, .int 0, .ref q8, .int 0, .null, .int 0, .int 0, .null, .null, .null, .null, .int 0, .int 0, .int 0, .int 0, .null, .null, .int 0])) :: ([(q1, rI cy 4), (q2, rI cy 4), (q3, rI cy 240), (q4, rI cy 60), (q5, rI cy 128), (q6, rI cy 2), (q7, rI cy 24), (q8, rI cy 56), (q9, rI cy 16)])) s.heap H locs := hB
  refine z_putF F hE hin hB (T := TX10) rfl inlX10 tyX10 tyX10_ok nmX10 12 (by decide) wm_f_RX10_34 rfl rfl (ty := .array .int) (by decide +kernel) rfl rfl (Nat.le_of_ble_eq_true rfl) dX10_init_72 (fun H locs hB => ?_)
  have hB : Bw D (va_A [(a, eX10)] s.heap.size) ((a, .inr (10, [.ref q1, .ref q2, .ref q3, .ref q4, .int 0, .ref q5, .ref q6, .int 0, .ref q7, .int 0, .ref q8, .int 0, .ref q9, .int 0, .int 0, .null, .null, .null, .null, .int 0, .int 0, .int 0, .int 0, .null, .null, .int 0])) :: ([(q1, rI cy 4), (q2, rI cy 4), (q3, rI cy 240), (q4, rI cy 60), (q5, rI cy 128), (q6, rI cy 2), (q7, rI cy 24), (q8, rI cy 56), (q9, rI cy 16)])) s.heap H locs := hB
  refine lv_aload_n F.1 F.2.1 dX10_init_75 rfl (lv_at hl 0 rfl) ?_
  refine lv_bipush (v := 8) F.1 F.2.1 dX10_init_76 (by decide) ?_
  refine z_int F hE hA hB 8 (by decide) rfl (by decide) (Nat.le_of_ble_eq_true rfl) (Nat.le_of_ble_eq_true rfl) dX10_init_78 (fun q10 H hB => ?_)
  have hB : Bw D (va_A [(a, eX10)] s.heap.size) ((a, .inr (10, [.ref q1, .ref q2, .ref q3, .ref q4, .int 0, .ref q5, .ref q6, .int 0, .ref q7, .int 0, .ref q8, .int 0, .ref q9, .int 0, .int 0, .null, .null, .null, .null, .int 0, .int 0, .int 0, .int 0, .null, .null, .int 0])) :: ([(q1, rI cy 4), (q2, rI cy 4), (q3, rI cy 240), (q4, rI cy 60), (q5, rI cy 128), (q6, rI cy 2), (q7, rI cy 24), (q8, rI cy 56), (q9, rI cy 16), (q10, rI cy 8)])) s.heap H locs := hB
  refine z_putF F hE hin hB (T := TX10) rfl inlX10 tyX10 tyX10_ok nmX10 15 (by decide) wm_f_RX10_37 rfl rfl (ty := .array .int) (by decide +kernel) rfl rfl (Nat.le_of_ble_eq_true rfl) dX10_init_80 (fun H locs hB => ?_)
  have hB : Bw D (va_A [(a, eX10)] s.heap.size) ((a, .inr (10, [.ref q1, .ref q2, .ref q3, .ref q4, .int 0, .ref q5, .ref q6, .int 0, .ref q7, .int 0, .ref q8, .int 0, .ref q9, .int 0, .int 0, .ref q10, .null, .null, .null, .int 0, .int 0, .int 0, .int 0, .null, .null, .int 0])) :: ([(q1, rI cy 4), (q2, rI cy 4), (q3, rI cy 240), (q4, rI cy 60), (q5, rI cy 128), (q6, rI cy 2), (q7, rI cy 24), (q8, rI cy 56), (q9, rI cy 16), (q10, rI cy 8)])) s.heap H locs := hB
  refine lv_aload_n F.1 F.2.1 dX10_init_83 rfl (lv_at hl 0 rfl) ?_
  refine lv_bipush (v := 64) F.1 F.2.1 dX10_init_84 (by decide) ?_
  refine z_int F hE hA hB 64 (by decide) rfl (by decide) (Nat.le_of_ble_eq_true rfl) (Nat.le_of_ble_eq_true rfl) dX10_init_86 (fun q11 H hB => ?_)
  have hB : Bw D (va_A [(a, eX10)] s.heap.size) ((a, .inr (10, [.ref q1, .ref q2, .ref q3, .ref q4, .int 0, .ref q5, .ref q6, .int 0, .ref q7, .int 0, .ref q8, .int 0, .ref q9, .int 0, .int 0, .ref q10, .null, .null, .null, .int 0, .int 0, .int 0, .int 0, .null, .null, .int 0])) :: ([(q1, rI cy 4), (q2, rI cy 4), (q3, rI cy 240), (q4, rI cy 60), (q5, rI cy 128), (q6, rI cy 2), (q7, rI cy 24), (q8, rI cy 56), (q9, rI cy 16), (q10, rI cy 8), (q11, rI cy 64)])) s.heap H locs := hB
  refine z_putF F hE hin hB (T := TX10) rfl inlX10 tyX10 tyX10_ok nmX10 16 (by decide) wm_f_RX10_40 rfl rfl (ty := .array .int) (by decide +kernel) rfl rfl (Nat.le_of_ble_eq_true rfl) dX10_init_88 (fun H locs hB => ?_)
  have hB : Bw D (va_A [(a, eX10)] s.heap.size) ((a, .inr (10, [.ref q1, .ref q2, .ref q3, .ref q4, .int 0, .ref q5, .ref q6, .int 0, .ref q7, .int 0, .ref q8, .int 0, .ref q9, .int 0, .int 0, .ref q10, .ref q11, .null, .null, .int 0, .int 0, .int 0, .int 0, .null, .null, .int 0])) :: ([(q1, rI cy 4), (q2, rI cy 4), (q3, rI cy 240), (q4, rI cy 60), (q5, rI cy 128), (q6, rI cy 2), (q7, rI cy 24), (q8, rI cy 56), (q9, rI cy 16), (q10, rI cy 8), (q11, rI cy 64)])) s.heap H locs := hB
  refine lv_aload_n F.1 F.2.1 dX10_init_91 rfl (lv_at hl 0 rfl) ?_
  refine lv_bipush (v := 64) F.1 F.2.1 dX10_init_92 (by decide) ?_
  refine z_int F hE hA hB 64 (by decide) rfl (by decide) (Nat.le_of_ble_eq_true rfl) (Nat.le_of_ble_eq_true rfl) dX10_init_94 (fun q12 H hB => ?_)
  have hB : Bw D (va_A [(a, eX10)] s.heap.size) ((a, .inr (10, [.ref q1, .ref q2, .ref q3, .ref q4, .int 0, .ref q5, .ref q6, .int 0, .ref q7, .int 0, .ref q8, .int 0, .ref q9, .int 0, .int 0, .ref q10, .ref q11, .null, .null, .int 0, .int 0, .int 0, .int 0, .null, .null, .int 0])) :: ([(q1, rI cy 4), (q2, rI cy 4), (q3, rI cy 240), (q4, rI cy 60), (q5, rI cy 128), (q6, rI cy 2), (q7, rI cy 24), (q8, rI cy 56), (q9, rI cy 16), (q10, rI cy 8), (q11, rI cy 64), (q12, rI cy 64)])) s.heap H locs := hB
  refine z_putF F hE hin hB (T := TX10) rfl inlX10 tyX10 tyX10_ok nmX10 17 (by decide) wm_f_RX10_43 rfl rfl (ty := .array .int) (by decide +kernel) rfl rfl (Nat.le_of_ble_eq_true rfl) dX10_init_96 (fun H locs hB => ?_)
  have hB : Bw D (va_A [(a, eX10)] s.heap.size) ((a, .inr (10, [.ref q1, .ref q2, .ref q3, .ref q4, .int 0, .ref q5, .ref q6, .int 0, .ref q7, .int 0, .ref q8, .int 0, .ref q9, .int 0, .int 0, .ref q10, .ref q11, .ref q12, .null, .int 0, .int 0, .int 0, .int 0, .null, .null, .int 0])) :: ([(q1, rI cy 4), (q2, rI cy 4), (q3, rI cy 240), (q4, rI cy 60), (q5, rI cy 128), (q6, rI cy 2), (q7, rI cy 24), (q8, rI cy 56), (q9, rI cy 16), (q10, rI cy 8), (q11, rI cy 64), (q12, rI cy 64)])) s.heap H locs := hB
  refine lv_aload_n F.1 F.2.1 dX10_init_99 rfl (lv_at hl 0 rfl) ?_
  refine lv_bipush (v := 8) F.1 F.2.1 dX10_init_100 (by decide) ?_
  refine z_int F hE hA hB 8 (by decide) rfl (by decide) (Nat.le_of_ble_eq_true rfl) (Nat.le_of_ble_eq_true rfl) dX10_init_102 (fun q13 H hB => ?_)
  have hB : Bw D (va_A [(a, eX10)] s.heap.size) ((a, .inr (10, [.ref q1, .ref q2, .ref q3, .ref q4, .int 0, .ref q5, .ref q6, .int 0, .ref q7, .int 0, .ref q8, .int 0, .ref q9, .int 0, .int 0, .ref q10, .ref q11, .ref q12, .null, .int 0, .int 0, .int 0, .int 0, .null, .null, .int 0])) :: ([(q1, rI cy 4), (q2, rI cy 4), (q3, rI cy 240), (q4, rI cy 60), (q5, rI cy 128), (q6, rI cy 2), (q7, rI cy 24), (q8, rI cy 56), (q9, rI cy 16), (q10, rI cy 8), (q11, rI cy 64), (q12, rI cy 64), (q13, rI cy 8)])) s.heap H locs := hB
  refine z_putF F hE hin hB (T := TX10) rfl inlX10 tyX10 tyX10_ok nmX10 18 (by decide) wm_f_RX10_46 rfl rfl (ty := .array .int) (by decide +kernel) rfl rfl (Nat.le_of_ble_eq_true rfl) dX10_init_104 (fun H locs hB => ?_)
  have hB : Bw D (va_A [(a, eX10)] s.heap.size) ((a, .inr (10, [.ref q1, .ref q2, .ref q3, .ref q4, .int 0, .ref q5, .ref q6, .int 0, .ref q7, .int 0, .ref q8, .int 0, .ref q9, .int 0, .int 0, .ref q10, .ref q11, .ref q12, .ref q13, .int 0, .int 0, .int 0, .int 0, .null, .null, .int 0])) :: ([(q1, rI cy 4), (q2, rI cy 4), (q3, rI cy 240), (q4, rI cy 60), (q5, rI cy 128), (q6, rI cy 2), (q7, rI cy 24), (q8, rI cy 56), (q9, rI cy 16), (q10, rI cy 8), (q11, rI cy 64), (q12, rI cy 64), (q13, rI cy 8)])) s.heap H locs := hB
  refine lv_aload_n F.1 F.2.1 dX10_init_107 rfl (lv_at hl 0 rfl) ?_
  refine lv_bipush (v := 24) F.1 F.2.1 dX10_init_108 (by decide) ?_
  refine z_int F hE hA hB 24 (by decide) rfl (by decide) (Nat.le_of_ble_eq_true rfl) (Nat.le_of_ble_eq_true rfl) dX10_init_110 (fun q14 H hB => ?_)
  have hB : Bw D (va_A [(a, eX10)] s.heap.size) ((a, .inr (10, [.ref q1, .ref q2, .ref q3, .ref q4, .int 0, .ref q5, .ref q6, .int 0, .ref q7, .int 0, .ref q8, .int 0, .ref q9, .int 0, .int 0, .ref q10, .ref q11, .ref q12, .ref q13, .int 0, .int 0, .int 0, .int 0, .null, .null, .int 0])) :: ([(q1, rI cy 4), (q2, rI cy 4), (q3, rI cy 240), (q4, rI cy 60), (q5, rI cy 128), (q6, rI cy 2), (q7, rI cy 24), (q8, rI cy 56), (q9, rI cy 16), (q10, rI cy 8), (q11, rI cy 64), (q12, rI cy 64), (q13, rI cy 8), (q14, rI cy 24)])) s.heap H locs := hB
  refine z_putF F hE hin hB (T := TX10) rfl inlX10 tyX10 tyX10_ok nmX10 23 (by decide) wm_f_RX10_49 rfl rfl (ty := .array .int) (by decide +kernel) rfl rfl (Nat.le_of_ble_eq_true rfl) dX10_init_112 (fun H locs hB => ?_)
  have hB : Bw D (va_A [(a, eX10)] s.heap.size) ((a, .inr (10, [.ref q1, .ref q2, .ref q3, .ref q4, .int 0, .ref q5, .ref q6, .int 0, .ref q7, .int 0, .ref q8, .int 0, .ref q9, .int 0, .int 0, .ref q10, .ref q11, .ref q12, .ref q13, .int 0, .int 0, .int 0, .int 0, .ref q14, .null, .int 0])) :: ([(q1, rI cy 4), (q2, rI cy 4), (q3, rI cy 240), (q4, rI cy 60), (q5, rI cy 128), (q6, rI cy 2), (q7, rI cy 24), (q8, rI cy 56), (q9, rI cy 16), (q10, rI cy 8), (q11, rI cy 64), (q12, rI cy 64), (q13, rI cy 8), (q14, rI cy 24)])) s.heap H locs := hB
  refine lv_aload_n F.1 F.2.1 dX10_init_115 rfl (lv_at hl 0 rfl) ?_
  refine lv_bipush (v := 80) F.1 F.2.1 dX10_init_116 (by decide) ?_
  refine z_int F hE hA hB 80 (by decide) rfl (by decide) (Nat.le_of_ble_eq_true rfl) (Nat.le_of_ble_eq_true rfl) dX10_init_118 (fun q15 H hB => ?_)
  have hB : Bw D (va_A [(a, eX10)] s.heap.size) ((a, .inr (10, [.ref q1, .ref q2, .ref q3, .ref q4, .int 0, .ref q5, .ref q6, .int 0, .ref q7, .int 0, .ref q8, .int 0, .ref q9, .int 0, .int 0, .ref q10, .ref q11, .ref q12, .ref q13, .int 0, .int 0, .int 0, .int 0, .ref q14, .null, .int 0])) :: ([(q1, rI cy 4), (q2, rI cy 4), (q3, rI cy 240), (q4, rI cy 60), (q5, rI cy 128), (q6, rI cy 2), (q7, rI cy 24), (q8, rI cy 56), (q9, rI cy 16), (q10, rI cy 8), (q11, rI cy 64), (q12, rI cy 64), (q13, rI cy 8), (q14, rI cy 24), (q15, rI cy 80)])) s.heap H locs := hB
  refine z_putF F hE hin hB (T := TX10) rfl inlX10 tyX10 tyX10_ok nmX10 24 (by decide) wm_f_RX10_52 rfl rfl (ty := .array .int) (by decide +kernel) rfl rfl (Nat.le_of_ble_eq_true rfl) dX10_init_120 (fun H locs hB => ?_)
  have hB : Bw D (va_A [(a, eX10)] s.heap.size) ((a, .inr (10, [.ref q1, .ref q2, .ref q3, .ref q4, .int 0, .ref q5, .ref q6, .int 0, .ref q7, .int 0, .ref q8, .int 0, .ref q9, .int 0, .int 0, .ref q10, .ref q11, .ref q12, .ref q13, .int 0, .int 0, .int 0, .int 0, .ref q14, .ref q15, .int 0])) :: ([(q1, rI cy 4), (q2, rI cy 4), (q3, rI cy 240), (q4, rI cy 60), (q5, rI cy 128), (q6, rI cy 2), (q7, rI cy 24), (q8, rI cy 56), (q9, rI cy 16), (q10, rI cy 8), (q11, rI cy 64), (q12, rI cy 64), (q13, rI cy 8), (q14, rI cy 24), (q15, rI cy 80)])) s.heap H locs := hB
  refine lv_iconst (v := 0) F.1 F.2.1 dX10_init_123 (by decide) ?_
  refine lv_istore_n (lv' := [(1, .int 0), (0, .ref a)]) F.1 F.2.1 dX10_init_124 rfl hl (by decide) rfl (fun ls hl => ?_)
  refine lv_iload_n F.1 F.2.1 dX10_init_125 rfl (lv_at hl 0 rfl) ?_
  refine lv_iconst (v := 4) F.1 F.2.1 dX10_init_126 (by decide) ?_
  refine lv_icmp_ge (tgt := 143) F.1 F.2.1 dX10_init_127 (by decide) (fun c9 => absurd c9 (by decide)) (fun _ => ?_)
  refine lv_aload_n F.1 F.2.1 dX10_init_130 rfl (lv_at hl 1 rfl) ?_
  refine z_get F hE hB (T := TX10) rfl inlX10 0 (by decide) (v := .ref q1) wm_f_RX10_7 rfl dX10_init_131 ?_
  refine lv_iload_n F.1 F.2.1 dX10_init_134 rfl (lv_at hl 0 rfl) ?_
  refine lv_iconst (v := (-1)) F.1 F.2.1 dX10_init_135 (by decide) ?_
  refine z_iast F hE hB 1 rfl (by unfold vp_in; decide) dX10_init_136 (fun H locs hB => ?_)
  have hB : Bw D (va_A [(a, eX10)] s.heap.size) ((a, .inr (10, [.ref q1, .ref q2, .ref q3, .ref q4, .int 0, .ref q5, .ref q6, .int 0, .ref q7, .int 0, .ref q8, .int 0, .ref q9, .int 0, .int 0, .ref q10, .ref q11, .ref q12, .ref q13, .int 0, .int 0, .int 0, .int 0, .ref q14, .ref q15, .int 0])) :: ([(q1, .inl (cy 0, 4, .inl (upd (fun _ => 0) 0 (-1)))), (q2, rI cy 4), (q3, rI cy 240), (q4, rI cy 60), (q5, rI cy 128), (q6, rI cy 2), (q7, rI cy 24), (q8, rI cy 56), (q9, rI cy 16), (q10, rI cy 8), (q11, rI cy 64), (q12, rI cy 64), (q13, rI cy 8), (q14, rI cy 24), (q15, rI cy 80)])) s.heap H locs := hB
  refine lv_iinc (v := 1) (lv' := [(1, .int 1), (0, .ref a)]) F.1 F.2.1 dX10_init_137 hl (k := 0) rfl (by decide) (by decide) rfl (fun ls hl => ?_)
  refine lv_goto (tgt := 125) F.1 F.2.1 dX10_init_140 (by decide) ?_
  refine lv_iload_n F.1 F.2.1 dX10_init_125 rfl (lv_at hl 0 rfl) ?_
  refine lv_iconst (v := 4) F.1 F.2.1 dX10_init_126 (by decide) ?_
  refine lv_icmp_ge (tgt := 143) F.1 F.2.1 dX10_init_127 (by decide) (fun c9 => absurd c9 (by decide)) (fun _ => ?_)
  refine lv_aload_n F.1 F.2.1 dX10_init_130 rfl (lv_at hl 1 rfl) ?_
  refine z_get F hE hB (T := TX10) rfl inlX10 0 (by decide) (v := .ref q1) wm_f_RX10_7 rfl dX10_init_131 ?_
  refine lv_iload_n F.1 F.2.1 dX10_init_134 rfl (lv_at hl 0 rfl) ?_
  refine lv_iconst (v := (-1)) F.1 F.2.1 dX10_init_135 (by decide) ?_
  refine z_iast F hE hB 1 rfl (by unfold vp_in; decide) dX10_init_136 (fun H locs hB => ?_)
  have hB : Bw D (va_A [(a, eX10)] s.heap.size) ((a, .inr (10, [.ref q1, .ref q2, .ref q3, .ref q4, .int 0, .ref q5, .ref q6, .int 0, .ref q7, .int 0, .ref q8, .int 0, .ref q9, .int 0, .int 0, .ref q10, .ref q11, .ref q12, .ref q13, .int 0, .int 0, .int 0, .int 0, .ref q14, .ref q15, .int 0])) :: ([(q1, .inl (cy 0, 4, .inl (upd (upd (fun _ => 0) 0 (-1)) 1 (-1)))), (q2, rI cy 4), (q3, rI cy 240), (q4, rI cy 60), (q5, rI cy 128), (q6, rI cy 2), (q7, rI cy 24), (q8, rI cy 56), (q9, rI cy 16), (q10, rI cy 8), (q11, rI cy 64), (q12, rI cy 64), (q13, rI cy 8), (q14, rI cy 24), (q15, rI cy 80)])) s.heap H locs := hB
  refine lv_iinc (v := 2) (lv' := [(1, .int 2), (0, .ref a)]) F.1 F.2.1 dX10_init_137 hl (k := 0) rfl (by decide) (by decide) rfl (fun ls hl => ?_)
  refine lv_goto (tgt := 125) F.1 F.2.1 dX10_init_140 (by decide) ?_
  refine lv_iload_n F.1 F.2.1 dX10_init_125 rfl (lv_at hl 0 rfl) ?_
  refine lv_iconst (v := 4) F.1 F.2.1 dX10_init_126 (by decide) ?_
  refine lv_icmp_ge (tgt := 143) F.1 F.2.1 dX10_init_127 (by decide) (fun c9 => absurd c9 (by decide)) (fun _ => ?_)
  refine lv_aload_n F.1 F.2.1 dX10_init_130 rfl (lv_at hl 1 rfl) ?_
  refine z_get F hE hB (T := TX10) rfl inlX10 0 (by decide) (v := .ref q1) wm_f_RX10_7 rfl dX10_init_131 ?_
  refine lv_iload_n F.1 F.2.1 dX10_init_134 rfl (lv_at hl 0 rfl) ?_
  refine lv_iconst (v := (-1)) F.1 F.2.1 dX10_init_135 (by decide) ?_
  refine z_iast F hE hB 1 rfl (by unfold vp_in; decide) dX10_init_136 (fun H locs hB => ?_)
  have hB : Bw D (va_A [(a, eX10)] s.heap.size) ((a, .inr (10, [.ref q1, .ref q2, .ref q3, .ref q4, .int 0, .ref q5, .ref q6, .int 0, .ref q7, .int 0, .ref q8, .int 0, .ref q9, .int 0, .int 0, .ref q10, .ref q11, .ref q12, .ref q13, .int 0, .int 0, .int 0, .int 0, .ref q14, .ref q15, .int 0])) :: ([(q1, .inl (cy 0, 4, .inl (upd (upd (upd (fun _ => 0) 0 (-1)) 1 (-1)) 2 (-1)))), (q2, rI cy 4), (q3, rI cy 240), (q4, rI cy 60), (q5, rI cy 128), (q6, rI cy 2), (q7, rI cy 24), (q8, rI cy 56), (q9, rI cy 16), (q10, rI cy 8), (q11, rI cy 64), (q12, rI cy 64), (q13, rI cy 8), (q14, rI cy 24), (q15, rI cy 80)])) s.heap H locs := hB
  refine lv_iinc (v := 3) (lv' := [(1, .int 3), (0, .ref a)]) F.1 F.2.1 dX10_init_137 hl (k := 0) rfl (by decide) (by decide) rfl (fun ls hl => ?_)
  refine lv_goto (tgt := 125) F.1 F.2.1 dX10_init_140 (by decide) ?_
  refine lv_iload_n F.1 F.2.1 dX10_init_125 rfl (lv_at hl 0 rfl) ?_
  refine lv_iconst (v := 4) F.1 F.2.1 dX10_init_126 (by decide) ?_
  refine lv_icmp_ge (tgt := 143) F.1 F.2.1 dX10_init_127 (by decide) (fun c9 => absurd c9 (by decide)) (fun _ => ?_)
  refine lv_aload_n F.1 F.2.1 dX10_init_130 rfl (lv_at hl 1 rfl) ?_
  refine z_get F hE hB (T := TX10) rfl inlX10 0 (by decide) (v := .ref q1) wm_f_RX10_7 rfl dX10_init_131 ?_
  refine lv_iload_n F.1 F.2.1 dX10_init_134 rfl (lv_at hl 0 rfl) ?_
  refine lv_iconst (v := (-1)) F.1 F.2.1 dX10_init_135 (by decide) ?_
  refine z_iast F hE hB 1 rfl (by unfold vp_in; decide) dX10_init_136 (fun H locs hB => ?_)
  have hB : Bw D (va_A [(a, eX10)] s.heap.size) ((a, .inr (10, [.ref q1, .ref q2, .ref q3, .ref q4, .int 0, .ref q5, .ref q6, .int 0, .ref q7, .int 0, .ref q8, .int 0, .ref q9, .int 0, .int 0, .ref q10, .ref q11, .ref q12, .ref q13, .int 0, .int 0, .int 0, .int 0, .ref q14, .ref q15, .int 0])) :: ([(q1, .inl (cy 0, 4, .inl (upd (upd (upd (upd (fun _ => 0) 0 (-1)) 1 (-1)) 2 (-1)) 3 (-1)))), (q2, rI cy 4), (q3, rI cy 240), (q4, rI cy 60), (q5, rI cy 128), (q6, rI cy 2), (q7, rI cy 24), (q8, rI cy 56), (q9, rI cy 16), (q10, rI cy 8), (q11, rI cy 64), (q12, rI cy 64), (q13, rI cy 8), (q14, rI cy 24), (q15, rI cy 80)])) s.heap H locs := hB
  refine lv_iinc (v := 4) (lv' := [(1, .int 4), (0, .ref a)]) F.1 F.2.1 dX10_init_137 hl (k := 0) rfl (by decide) (by decide) rfl (fun ls hl => ?_)
  refine lv_goto (tgt := 125) F.1 F.2.1 dX10_init_140 (by decide) ?_
  refine lv_iload_n F.1 F.2.1 dX10_init_125 rfl (lv_at hl 0 rfl) ?_
  refine lv_iconst (v := 4) F.1 F.2.1 dX10_init_126 (by decide) ?_
  refine lv_icmp_ge (tgt := 143) F.1 F.2.1 dX10_init_127 (by decide) (fun _ => ?_) (fun c9 => absurd (by decide) c9)
  refine lv_aload_n F.1 F.2.1 dX10_init_143 rfl (lv_at hl 1 rfl) ?_
  refine lv_iconst (v := (-1)) F.1 F.2.1 dX10_init_144 (by decide) ?_
  refine z_put F hE hB (T := TX10) rfl inlX10 tyX10 tyX10_ok nmX10 14 (by decide) wm_f_RX10_55 rfl (ty := .int) (by decide +kernel) rfl rfl (Nat.le_of_ble_eq_true rfl) dX10_init_145 (fun H locs hB => ?_)
  have hB : Bw D (va_A [(a, eX10)] s.heap.size) ((a, .inr (10, [.ref q1, .ref q2, .ref q3, .ref q4, .int 0, .ref q5, .ref q6, .int 0, .ref q7, .int 0, .ref q8, .int 0, .ref q9, .int 0, .int (-1), .ref q10, .ref q11, .ref q12, .ref q13, .int 0, .int 0, .int 0, .int 0, .ref q14, .ref q15, .int 0])) :: ([(q1, .inl (cy 0, 4, .inl (upd (upd (upd (upd (fun _ => 0) 0 (-1)) 1 (-1)) 2 (-1)) 3 (-1)))), (q2, rI cy 4), (q3, rI cy 240), (q4, rI cy 60), (q5, rI cy 128), (q6, rI cy 2), (q7, rI cy 24), (q8, rI cy 56), (q9, rI cy 16), (q10, rI cy 8), (q11, rI cy 64), (q12, rI cy 64), (q13, rI cy 8), (q14, rI cy 24), (q15, rI cy 80)])) s.heap H locs := hB
  refine lv_aload_n F.1 F.2.1 dX10_init_148 rfl (lv_at hl 1 rfl) ?_
  refine lv_sipush (v := 255) F.1 F.2.1 dX10_init_149 (by decide) ?_
  refine z_put F hE hB (T := TX10) rfl inlX10 tyX10 tyX10_ok nmX10 13 (by decide) wm_f_RX10_59 rfl (ty := .int) (by decide +kernel) rfl rfl (Nat.le_of_ble_eq_true rfl) dX10_init_152 (fun H locs hB => ?_)
  have hB : Bw D (va_A [(a, eX10)] s.heap.size) ((a, .inr (10, [.ref q1, .ref q2, .ref q3, .ref q4, .int 0, .ref q5, .ref q6, .int 0, .ref q7, .int 0, .ref q8, .int 0, .ref q9, .int 255, .int (-1), .ref q10, .ref q11, .ref q12, .ref q13, .int 0, .int 0, .int 0, .int 0, .ref q14, .ref q15, .int 0])) :: ([(q1, .inl (cy 0, 4, .inl (upd (upd (upd (upd (fun _ => 0) 0 (-1)) 1 (-1)) 2 (-1)) 3 (-1)))), (q2, rI cy 4), (q3, rI cy 240), (q4, rI cy 60), (q5, rI cy 128), (q6, rI cy 2), (q7, rI cy 24), (q8, rI cy 56), (q9, rI cy 16), (q10, rI cy 8), (q11, rI cy 64), (q12, rI cy 64), (q13, rI cy 8), (q14, rI cy 24), (q15, rI cy 80)])) s.heap H locs := hB
  refine W.widen (k := 15) (n := 782) (Nat.le_refl _) (Nat.le_refl _) ?_
  exact z_ret F hlocks hr (fun k => match k with | 0 => a | 1 => q1 | 2 => q2 | 3 => q3 | 4 => q4 | 5 => q5 | 6 => q6 | 7 => q7 | 8 => q8 | 9 => q9 | 10 => q10 | 11 => q11 | 12 => q12 | 13 => q13 | 14 => q14 | 15 => q15 | _ => 0) rfl hB dX10_init_155
