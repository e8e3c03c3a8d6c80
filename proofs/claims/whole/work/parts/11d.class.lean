/-! 11d: the constructor of the class -/
def wX9 (cy : Nat → ClassId) (u : Nat → Nat → Nat) : va_W := (u 0 0, .inr (9, [.ref (u 0 1), .ref (u 1 0), .ref (u 2 0), .ref (u 3 0), .ref (u 4 0), .ref (u 0 2), .ref (u 5 0), .ref (u 6 0), .ref (u 7 0), .ref (u 8 0), .ref (u 0 3), .ref (u 0 4), .int 0])) :: ([(u 0 1, .inl (cy 2, 2, .inr (.inr (.inr (.inr (va_up (va_up (fun _ => none) 0 (some (u 9 0))) 1 (some (u 10 0)))))))), (u 0 2, .inl (cy 3, 4, .inr (.inr (.inr (.inr (va_up (va_up (va_up (va_up (fun _ => none) 0 (some (u 11 0))) 1 (some (u 12 0))) 2 (some (u 13 0))) 3 (some (u 14 0))))))))] ++ wX2 cy (u 1) ++ wX1 cy (u 2) ++ wX4 cy (u 3) ++ wX6 cy (u 4) ++ wX8 cy (u 5) ++ wX8 cy (u 6) ++ wX0 cy (u 7) ++ wX3 cy (u 8) ++ [(u 0 3, rI cy 6), (u 0 4, rI cy 80)] ++ wX7 cy 31 (u 9) ++ wX7 cy 63 (u 10) ++ wX5 cy (u 11) ++ wX5 cy (u 12) ++ wX5 cy (u 13) ++ wX5 cy (u 14))
set_option maxHeartbeats 4000000 in
set_option maxRecDepth 100000 in
theorem c_X9_init (l : Launch) (D : va_G) (cy : Nat → ClassId) (a sz : Nat) : Met l yX9_init (Cond.code yX9_init cX9_init 2 none :: wT) ({ frames := 2, cells := 63, slots := 1129, locals := 60 }) (CI D cy a eX9 sz []) (QI D a eX9 sz (fun u : Nat → Nat → Nat => u 0 0) (wX9 cy)) 63 1129 (va_A [(a, eX9)] sz) := by
  refine Met.ofW (cc := cX9_init) (maxL := 2) (ret := none) (by decide) rfl ?_
  intro p e s m args below meth c s₁ B hml hv
  obtain ⟨rfl, rfl, hE, hP⟩ := hv
  have hts := atoms_spec (ws := Cond.code yX9_init cX9_init 2 none :: wT) B.pre
  have F : CallFix p m c cX9_init 2 s _ wT RX9 := ⟨B.exec, B.bytes, hml, findClass_of_methodNamed B.named, fun w hw => hts w (List.mem_cons_of_mem _ hw)⟩
  have hr := B.returns
  have hlocks := B.notSynchronized
  have hin : meth.name = "<init>" := (name_of_methodNamed B.named B.method).1
  have hA : ∀ q, s.heap.size ≤ q → va_A [(a, eX9)] s.heap.size q := fun q h => Or.inr h
  have hB := Bw.start hP
  have hl := lv_entry ([.ref a] : List Value) (n := 2) (Nat.le_of_ble_eq_true rfl)
  rw [lg_entry_eq]
  generalize (lg_sl ([.ref a] : List Value) ++ List.replicate (2 - (lg_sl ([.ref a] : List Value)).length) Slot.unset).toArray = ls at hl ⊢
  have hl : lv_has ls 2 [(0, .ref a)] := hl
  have hB : Bw D (va_A [(a, eX9)] s.heap.size) ((a, .inr (9, [.null, .null, .null, .null, .null, .null, .null, .null, .null, .null, .null, .null, .int 0])) :: ([])) s.heap s.heap [] := hB
  refine lv_aload_n F.1 F.2.1 dX9_init_0 rfl (lv_at hl 0 rfl) ?_
  refine z_obj F hl.1 wt_m_RX9_3 dX9_init_1 (Nat.le_of_ble_eq_true rfl) (Nat.le_of_ble_eq_true rfl) ?_
  refine lv_aload_n F.1 F.2.1 dX9_init_4 rfl (lv_at hl 0 rfl) ?_
  refine lv_iconst (v := 2) F.1 F.2.1 dX9_init_5 (by decide) ?_
  refine z_refs F hE hA hB (C := RX7) (t0 := 2) rfl hE.2.2.1 wt_k_RX9_9 2 (by decide) rfl (by decide) (Nat.le_of_ble_eq_true rfl) (Nat.le_of_ble_eq_true rfl) dX9_init_6 (fun q1 H hB => ?_)
  have hB : Bw D (va_A [(a, eX9)] s.heap.size) ((a, .inr (9, [.null, .null, .null, .null, .null, .null, .null, .null, .null, .null, .null, .null, .int 0])) :: ([(q1, .inl (cy 2, 2, .inr (.inr (.inr (.inr (fun _ => none))))))])) s.heap H [] := hB
  refine z_putF F hE hin hB (T := TX9) rfl inlX9 tyX9 tyX9_ok nmX9 0 (by decide) wm_f_RX9_11 rfl rfl (ty := .array (.object "BowingBridges$Text")) (by decide +kernel) rfl rfl (Nat.le_of_ble_eq_true rfl) dX9_init_9 (fun H locs hB => ?_)
  have hB : Bw D (va_A [(a, eX9)] s.heap.size) ((a, .inr (9, [.ref q1, .null, .null, .null, .null, .null, .null, .null, .null, .null, .null, .null, .int 0])) :: ([(q1, .inl (cy 2, 2, .inr (.inr (.inr (.inr (fun _ => none))))))])) s.heap H locs := hB
  refine lv_aload_n F.1 F.2.1 dX9_init_12 rfl (lv_at hl 0 rfl) ?_
  refine z_new F hE hA hB (C := RX2) (ci := 2) rfl inlX2 tyX2 tyX2_ok wt_k_RX9_15 wt_n_RX2 wm_n_RX2 dfX2 (Nat.le_of_ble_eq_true rfl) (Nat.le_of_ble_eq_true rfl) dX9_init_13 (fun q2 H hB => ?_)
  refine lv_dup F.1 F.2.1 dX9_init_16 rfl ?_
  refine z_init F hE hA hB (c_X2_init l D cy q2 H.size) (by decide +kernel) wt_c_X2_init wt_i_X2_init wm_n_RX2 rfl (by decide +kernel) rfl rfl ⟨(Nat.le_of_ble_eq_true rfl), (Nat.le_of_ble_eq_true rfl)⟩ hl.1 (Nat.le_of_ble_eq_true rfl) dX9_init_17 ⟨(Nat.le_of_ble_eq_true rfl), (Nat.le_of_ble_eq_true rfl)⟩ (fun u3 H locs hu hB2 => ?_)
  have hu : u3 0 = q2 := hu
  subst hu
  have hB : Bw D (va_A [(a, eX9)] s.heap.size) ((a, .inr (9, [.ref q1, .null, .null, .null, .null, .null, .null, .null, .null, .null, .null, .null, .int 0])) :: ([(q1, .inl (cy 2, 2, .inr (.inr (.inr (.inr (fun _ => none))))))] ++ wX2 cy u3)) s.heap H locs := hB2
  refine z_putF F hE hin hB (T := TX9) rfl inlX9 tyX9 tyX9_ok nmX9 1 (by decide) wm_f_RX9_18 rfl rfl (ty := .object "BowingBridges$Bridges") (by decide +kernel) rfl rfl (Nat.le_of_ble_eq_true rfl) dX9_init_20 (fun H locs hB => ?_)
  have hB : Bw D (va_A [(a, eX9)] s.heap.size) ((a, .inr (9, [.ref q1, .ref (u3 0), .null, .null, .null, .null, .null, .null, .null, .null, .null, .null, .int 0])) :: ([(q1, .inl (cy 2, 2, .inr (.inr (.inr (.inr (fun _ => none))))))] ++ wX2 cy u3)) s.heap H locs := hB
  refine lv_aload_n F.1 F.2.1 dX9_init_23 rfl (lv_at hl 0 rfl) ?_
  refine z_new F hE hA hB (C := RX1) (ci := 1) rfl inlX1 tyX1 tyX1_ok wt_k_RX9_22 wt_n_RX1 wm_n_RX1 dfX1 (Nat.le_of_ble_eq_true rfl) (Nat.le_of_ble_eq_true rfl) dX9_init_24 (fun q4 H hB => ?_)
  refine lv_dup F.1 F.2.1 dX9_init_27 rfl ?_
  refine z_init F hE hA hB (c_X1_init l D cy q4 H.size) (by decide +kernel) wt_c_X1_init wt_i_X1_init wm_n_RX1 rfl (by decide +kernel) rfl rfl ⟨(Nat.le_of_ble_eq_true rfl), (Nat.le_of_ble_eq_true rfl)⟩ hl.1 (Nat.le_of_ble_eq_true rfl) dX9_init_28 ⟨(Nat.le_of_ble_eq_true rfl), (Nat.le_of_ble_eq_true rfl)⟩ (fun u5 H locs hu hB2 => ?_)
  have hu : u5 0 = q4 := hu
  subst hu
  have hB : Bw D (va_A [(a, eX9)] s.heap.size) ((a, .inr (9, [.ref q1, .ref (u3 0), .null, .null, .null, .null, .null, .null, .null, .null, .null, .null, .int 0])) :: ([(q1, .inl (cy 2, 2, .inr (.inr (.inr (.inr (fun _ => none))))))] ++ wX2 cy u3 ++ wX1 cy u5)) s.heap H locs := hB2
  refine z_putF F hE hin hB (T := TX9) rfl inlX9 tyX9 tyX9_ok nmX9 2 (by decide) wm_f_RX9_25 rfl rfl (ty := .object "BowingBridges$Boats") (by decide +kernel) rfl rfl (Nat.le_of_ble_eq_true rfl) dX9_init_31 (fun H locs hB => ?_)
  have hB : Bw D (va_A [(a, eX9)] s.heap.size) ((a, .inr (9, [.ref q1, .ref (u3 0), .ref (u5 0), .null, .null, .null, .null, .null, .null, .null, .null, .null, .int 0])) :: ([(q1, .inl (cy 2, 2, .inr (.inr (.inr (.inr (fun _ => none))))))] ++ wX2 cy u3 ++ wX1 cy u5)) s.heap H locs := hB
  refine lv_aload_n F.1 F.2.1 dX9_init_34 rfl (lv_at hl 0 rfl) ?_
  refine z_new F hE hA hB (C := RX4) (ci := 4) rfl inlX4 tyX4 tyX4_ok wt_k_RX9_29 wt_n_RX4 wm_n_RX4 dfX4 (Nat.le_of_ble_eq_true rfl) (Nat.le_of_ble_eq_true rfl) dX9_init_35 (fun q6 H hB => ?_)
  refine lv_dup F.1 F.2.1 dX9_init_38 rfl ?_
  refine z_init F hE hA hB (c_X4_init l D cy q6 H.size) (by decide +kernel) wt_c_X4_init wt_i_X4_init wm_n_RX4 rfl (by decide +kernel) rfl rfl ⟨(Nat.le_of_ble_eq_true rfl), (Nat.le_of_ble_eq_true rfl)⟩ hl.1 (Nat.le_of_ble_eq_true rfl) dX9_init_39 ⟨(Nat.le_of_ble_eq_true rfl), (Nat.le_of_ble_eq_true rfl)⟩ (fun u7 H locs hu hB2 => ?_)
  have hu : u7 0 = q6 := hu
  subst hu
  have hB : Bw D (va_A [(a, eX9)] s.heap.size) ((a, .inr (9, [.ref q1, .ref (u3 0), .ref (u5 0), .null, .null, .null, .null, .null, .null, .null, .null, .null, .int 0])) :: ([(q1, .inl (cy 2, 2, .inr (.inr (.inr (.inr (fun _ => none))))))] ++ wX2 cy u3 ++ wX1 cy u5 ++ wX4 cy u7)) s.heap H locs := hB2
  refine z_putF F hE hin hB (T := TX9) rfl inlX9 tyX9 tyX9_ok nmX9 3 (by decide) wm_f_RX9_32 rfl rfl (ty := .object "BowingBridges$Shams") (by decide +kernel) rfl rfl (Nat.le_of_ble_eq_true rfl) dX9_init_42 (fun H locs hB => ?_)
  have hB : Bw D (va_A [(a, eX9)] s.heap.size) ((a, .inr (9, [.ref q1, .ref (u3 0), .ref (u5 0), .ref (u7 0), .null, .null, .null, .null, .null, .null, .null, .null, .int 0])) :: ([(q1, .inl (cy 2, 2, .inr (.inr (.inr (.inr (fun _ => none))))))] ++ wX2 cy u3 ++ wX1 cy u5 ++ wX4 cy u7)) s.heap H locs := hB
  refine lv_aload_n F.1 F.2.1 dX9_init_45 rfl (lv_at hl 0 rfl) ?_
  refine z_new F hE hA hB (C := RX6) (ci := 6) rfl inlX6 tyX6 tyX6_ok wt_k_RX9_36 wt_n_RX6 wm_n_RX6 dfX6 (Nat.le_of_ble_eq_true rfl) (Nat.le_of_ble_eq_true rfl) dX9_init_46 (fun q8 H hB => ?_)
  refine lv_dup F.1 F.2.1 dX9_init_49 rfl ?_
  refine z_init F hE hA hB (c_X6_init l D cy q8 H.size) (by decide +kernel) wt_c_X6_init wt_i_X6_init wm_n_RX6 rfl (by decide +kernel) rfl rfl ⟨(Nat.le_of_ble_eq_true rfl), (Nat.le_of_ble_eq_true rfl)⟩ hl.1 (Nat.le_of_ble_eq_true rfl) dX9_init_50 ⟨(Nat.le_of_ble_eq_true rfl), (Nat.le_of_ble_eq_true rfl)⟩ (fun u9 H locs hu hB2 => ?_)
  have hu : u9 0 = q8 := hu
  subst hu
  have hB : Bw D (va_A [(a, eX9)] s.heap.size) ((a, .inr (9, [.ref q1, .ref (u3 0), .ref (u5 0), .ref (u7 0), .null, .null, .null, .null, .null, .null, .null, .null, .int 0])) :: ([(q1, .inl (cy 2, 2, .inr (.inr (.inr (.inr (fun _ => none))))))] ++ wX2 cy u3 ++ wX1 cy u5 ++ wX4 cy u7 ++ wX6 cy u9)) s.heap H locs := hB2
  refine z_putF F hE hin hB (T := TX9) rfl inlX9 tyX9 tyX9_ok nmX9 4 (by decide) wm_f_RX9_39 rfl rfl (ty := .object "BowingBridges$Sightings") (by decide +kernel) rfl rfl (Nat.le_of_ble_eq_true rfl) dX9_init_53 (fun H locs hB => ?_)
  have hB : Bw D (va_A [(a, eX9)] s.heap.size) ((a, .inr (9, [.ref q1, .ref (u3 0), .ref (u5 0), .ref (u7 0), .ref (u9 0), .null, .null, .null, .null, .null, .null, .null, .int 0])) :: ([(q1, .inl (cy 2, 2, .inr (.inr (.inr (.inr (fun _ => none))))))] ++ wX2 cy u3 ++ wX1 cy u5 ++ wX4 cy u7 ++ wX6 cy u9)) s.heap H locs := hB
  refine lv_aload_n F.1 F.2.1 dX9_init_56 rfl (lv_at hl 0 rfl) ?_
  refine lv_iconst (v := 4) F.1 F.2.1 dX9_init_57 (by decide) ?_
  refine z_refs F hE hA hB (C := RX5) (t0 := 3) rfl hE.2.2.2.1 wt_k_RX9_43 4 (by decide) rfl (by decide) (Nat.le_of_ble_eq_true rfl) (Nat.le_of_ble_eq_true rfl) dX9_init_58 (fun q10 H hB => ?_)
  have hB := Bw.rot hB
  have hB : Bw D (va_A [(a, eX9)] s.heap.size) ((a, .inr (9, [.ref q1, .ref (u3 0), .ref (u5 0), .ref (u7 0), .ref (u9 0), .null, .null, .null, .null, .null, .null, .null, .int 0])) :: ([(q1, .inl (cy 2, 2, .inr (.inr (.inr (.inr (fun _ => none)))))), (q10, .inl (cy 3, 4, .inr (.inr (.inr (.inr (fun _ => none))))))] ++ wX2 cy u3 ++ wX1 cy u5 ++ wX4 cy u7 ++ wX6 cy u9)) s.heap H locs := hB
  refine z_putF F hE hin hB (T := TX9) rfl inlX9 tyX9 tyX9_ok nmX9 5 (by decide) wm_f_RX9_45 rfl rfl (ty := .array (.object "BowingBridges$Sheet")) (by decide +kernel) rfl rfl (Nat.le_of_ble_eq_true rfl) dX9_init_61 (fun H locs hB => ?_)
  have hB : Bw D (va_A [(a, eX9)] s.heap.size) ((a, .inr (9, [.ref q1, .ref (u3 0), .ref (u5 0), .ref (u7 0), .ref (u9 0), .ref q10, .null, .null, .null, .null, .null, .null, .int 0])) :: ([(q1, .inl (cy 2, 2, .inr (.inr (.inr (.inr (fun _ => none)))))), (q10, .inl (cy 3, 4, .inr (.inr (.inr (.inr (fun _ => none))))))] ++ wX2 cy u3 ++ wX1 cy u5 ++ wX4 cy u7 ++ wX6 cy u9)) s.heap H locs := hB
  refine lv_aload_n F.1 F.2.1 dX9_init_64 rfl (lv_at hl 0 rfl) ?_
  refine z_new F hE hA hB (C := RX8) (ci := 8) rfl inlX8 tyX8 tyX8_ok wt_k_RX9_49 wt_n_RX8 wm_n_RX8 dfX8 (Nat.le_of_ble_eq_true rfl) (Nat.le_of_ble_eq_true rfl) dX9_init_65 (fun q11 H hB => ?_)
  refine lv_dup F.1 F.2.1 dX9_init_68 rfl ?_
  refine z_init F hE hA hB (c_X8_init l D cy q11 H.size) (by decide +kernel) wt_c_X8_init wt_i_X8_init wm_n_RX8 rfl (by decide +kernel) rfl rfl ⟨(Nat.le_of_ble_eq_true rfl), (Nat.le_of_ble_eq_true rfl)⟩ hl.1 (Nat.le_of_ble_eq_true rfl) dX9_init_69 ⟨(Nat.le_of_ble_eq_true rfl), (Nat.le_of_ble_eq_true rfl)⟩ (fun u12 H locs hu hB2 => ?_)
  have hu : u12 0 = q11 := hu
  subst hu
  have hB : Bw D (va_A [(a, eX9)] s.heap.size) ((a, .inr (9, [.ref q1, .ref (u3 0), .ref (u5 0), .ref (u7 0), .ref (u9 0), .ref q10, .null, .null, .null, .null, .null, .null, .int 0])) :: ([(q1, .inl (cy 2, 2, .inr (.inr (.inr (.inr (fun _ => none)))))), (q10, .inl (cy 3, 4, .inr (.inr (.inr (.inr (fun _ => none))))))] ++ wX2 cy u3 ++ wX1 cy u5 ++ wX4 cy u7 ++ wX6 cy u9 ++ wX8 cy u12)) s.heap H locs := hB2
  refine z_putF F hE hin hB (T := TX9) rfl inlX9 tyX9 tyX9_ok nmX9 6 (by decide) wm_f_RX9_52 rfl rfl (ty := .object "BowingBridges$Voyage") (by decide +kernel) rfl rfl (Nat.le_of_ble_eq_true rfl) dX9_init_72 (fun H locs hB => ?_)
  have hB : Bw D (va_A [(a, eX9)] s.heap.size) ((a, .inr (9, [.ref q1, .ref (u3 0), .ref (u5 0), .ref (u7 0), .ref (u9 0), .ref q10, .ref (u12 0), .null, .null, .null, .null, .null, .int 0])) :: ([(q1, .inl (cy 2, 2, .inr (.inr (.inr (.inr (fun _ => none)))))), (q10, .inl (cy 3, 4, .inr (.inr (.inr (.inr (fun _ => none))))))] ++ wX2 cy u3 ++ wX1 cy u5 ++ wX4 cy u7 ++ wX6 cy u9 ++ wX8 cy u12)) s.heap H locs := hB
  refine lv_aload_n F.1 F.2.1 dX9_init_75 rfl (lv_at hl 0 rfl) ?_
  refine z_new F hE hA hB (C := RX8) (ci := 8) rfl inlX8 tyX8 tyX8_ok wt_k_RX9_49 wt_n_RX8 wm_n_RX8 dfX8 (Nat.le_of_ble_eq_true rfl) (Nat.le_of_ble_eq_true rfl) dX9_init_76 (fun q13 H hB => ?_)
  refine lv_dup F.1 F.2.1 dX9_init_79 rfl ?_
  refine z_init F hE hA hB (c_X8_init l D cy q13 H.size) (by decide +kernel) wt_c_X8_init wt_i_X8_init wm_n_RX8 rfl (by decide +kernel) rfl rfl ⟨(Nat.le_of_ble_eq_true rfl), (Nat.le_of_ble_eq_true rfl)⟩ hl.1 (Nat.le_of_ble_eq_true rfl) dX9_init_80 ⟨(Nat.le_of_ble_eq_true rfl), (Nat.le_of_ble_eq_true rfl)⟩ (fun u14 H locs hu hB2 => ?_)
  have hu : u14 0 = q13 := hu
  subst hu
  have hB : Bw D (va_A [(a, eX9)] s.heap.size) ((a, .inr (9, [.ref q1, .ref (u3 0), .ref (u5 0), .ref (u7 0), .ref (u9 0), .ref q10, .ref (u12 0), .null, .null, .null, .null, .null, .int 0])) :: ([(q1, .inl (cy 2, 2, .inr (.inr (.inr (.inr (fun _ => none)))))), (q10, .inl (cy 3, 4, .inr (.inr (.inr (.inr (fun _ => none))))))] ++ wX2 cy u3 ++ wX1 cy u5 ++ wX4 cy u7 ++ wX6 cy u9 ++ wX8 cy u12 ++ wX8 cy u14)) s.heap H locs := hB2
  refine z_putF F hE hin hB (T := TX9) rfl inlX9 tyX9 tyX9_ok nmX9 7 (by decide) wm_f_RX9_56 rfl rfl (ty := .object "BowingBridges$Voyage") (by decide +kernel) rfl rfl (Nat.le_of_ble_eq_true rfl) dX9_init_83 (fun H locs hB => ?_)
  have hB : Bw D (va_A [(a, eX9)] s.heap.size) ((a, .inr (9, [.ref q1, .ref (u3 0), .ref (u5 0), .ref (u7 0), .ref (u9 0), .ref q10, .ref (u12 0), .ref (u14 0), .null, .null, .null, .null, .int 0])) :: ([(q1, .inl (cy 2, 2, .inr (.inr (.inr (.inr (fun _ => none)))))), (q10, .inl (cy 3, 4, .inr (.inr (.inr (.inr (fun _ => none))))))] ++ wX2 cy u3 ++ wX1 cy u5 ++ wX4 cy u7 ++ wX6 cy u9 ++ wX8 cy u12 ++ wX8 cy u14)) s.heap H locs := hB
  refine lv_aload_n F.1 F.2.1 dX9_init_86 rfl (lv_at hl 0 rfl) ?_
  refine z_new F hE hA hB (C := RX0) (ci := 0) rfl inlX0 tyX0 tyX0_ok wt_k_RX9_59 wt_n_RX0 wm_n_RX0 dfX0 (Nat.le_of_ble_eq_true rfl) (Nat.le_of_ble_eq_true rfl) dX9_init_87 (fun q15 H hB => ?_)
  refine lv_dup F.1 F.2.1 dX9_init_90 rfl ?_
  refine z_init F hE hA hB (c_X0_init l D cy q15 H.size) (by decide +kernel) wt_c_X0_init wt_i_X0_init wm_n_RX0 rfl (by decide +kernel) rfl rfl ⟨(Nat.le_of_ble_eq_true rfl), (Nat.le_of_ble_eq_true rfl)⟩ hl.1 (Nat.le_of_ble_eq_true rfl) dX9_init_91 ⟨(Nat.le_of_ble_eq_true rfl), (Nat.le_of_ble_eq_true rfl)⟩ (fun u16 H locs hu hB2 => ?_)
  have hu : u16 0 = q15 := hu
  subst hu
  have hB : Bw D (va_A [(a, eX9)] s.heap.size) ((a, .inr (9, [.ref q1, .ref (u3 0), .ref (u5 0), .ref (u7 0), .ref (u9 0), .ref q10, .ref (u12 0), .ref (u14 0), .null, .null, .null, .null, .int 0])) :: ([(q1, .inl (cy 2, 2, .inr (.inr (.inr (.inr (fun _ => none)))))), (q10, .inl (cy 3, 4, .inr (.inr (.inr (.inr (fun _ => none))))))] ++ wX2 cy u3 ++ wX1 cy u5 ++ wX4 cy u7 ++ wX6 cy u9 ++ wX8 cy u12 ++ wX8 cy u14 ++ wX0 cy u16)) s.heap H locs := hB2
  refine z_putF F hE hin hB (T := TX9) rfl inlX9 tyX9 tyX9_ok nmX9 8 (by decide) wm_f_RX9_62 rfl rfl (ty := .object "BowingBridges$Beliefs") (by decide +kernel) rfl rfl (Nat.le_of_ble_eq_true rfl) dX9_init_94 (fun H locs hB => ?_)
  have hB : Bw D (va_A [(a, eX9)] s.heap.size) ((a, .inr (9, [.ref q1, .ref (u3 0), .ref (u5 0), .ref (u7 0), .ref (u9 0), .ref q10, .ref (u12 0), .ref (u14 0), .ref (u16 0), .null, .null, .null, .int 0])) :: ([(q1, .inl (cy 2, 2, .inr (.inr (.inr (.inr (fun _ => none)))))), (q10, .inl (cy 3, 4, .inr (.inr (.inr (.inr (fun _ => none))))))] ++ wX2 cy u3 ++ wX1 cy u5 ++ wX4 cy u7 ++ wX6 cy u9 ++ wX8 cy u12 ++ wX8 cy u14 ++ wX0 cy u16)) s.heap H locs := hB
  refine lv_aload_n F.1 F.2.1 dX9_init_97 rfl (lv_at hl 0 rfl) ?_
  refine z_new F hE hA hB (C := RX3) (ci := 3) rfl inlX3 tyX3 tyX3_ok wt_k_RX9_66 wt_n_RX3 wm_n_RX3 dfX3 (Nat.le_of_ble_eq_true rfl) (Nat.le_of_ble_eq_true rfl) dX9_init_98 (fun q17 H hB => ?_)
  refine lv_dup F.1 F.2.1 dX9_init_101 rfl ?_
  refine z_init F hE hA hB (c_X3_init l D cy q17 H.size) (by decide +kernel) wt_c_X3_init wt_i_X3_init wm_n_RX3 rfl (by decide +kernel) rfl rfl ⟨(Nat.le_of_ble_eq_true rfl), (Nat.le_of_ble_eq_true rfl)⟩ hl.1 (Nat.le_of_ble_eq_true rfl) dX9_init_102 ⟨(Nat.le_of_ble_eq_true rfl), (Nat.le_of_ble_eq_true rfl)⟩ (fun u18 H locs hu hB2 => ?_)
  have hu : u18 0 = q17 := hu
  subst hu
  have hB : Bw D (va_A [(a, eX9)] s.heap.size) ((a, .inr (9, [.ref q1, .ref (u3 0), .ref (u5 0), .ref (u7 0), .ref (u9 0), .ref q10, .ref (u12 0), .ref (u14 0), .ref (u16 0), .null, .null, .null, .int 0])) :: ([(q1, .inl (cy 2, 2, .inr (.inr (.inr (.inr (fun _ => none)))))), (q10, .inl (cy 3, 4, .inr (.inr (.inr (.inr (fun _ => none))))))] ++ wX2 cy u3 ++ wX1 cy u5 ++ wX4 cy u7 ++ wX6 cy u9 ++ wX8 cy u12 ++ wX8 cy u14 ++ wX0 cy u16 ++ wX3 cy u18)) s.heap H locs := hB2
  refine z_putF F hE hin hB (T := TX9) rfl inlX9 tyX9 tyX9_ok nmX9 9 (by decide) wm_f_RX9_69 rfl rfl (ty := .object "BowingBridges$Plan") (by decide +kernel) rfl rfl (Nat.le_of_ble_eq_true rfl) dX9_init_105 (fun H locs hB => ?_)
  have hB : Bw D (va_A [(a, eX9)] s.heap.size) ((a, .inr (9, [.ref q1, .ref (u3 0), .ref (u5 0), .ref (u7 0), .ref (u9 0), .ref q10, .ref (u12 0), .ref (u14 0), .ref (u16 0), .ref (u18 0), .null, .null, .int 0])) :: ([(q1, .inl (cy 2, 2, .inr (.inr (.inr (.inr (fun _ => none)))))), (q10, .inl (cy 3, 4, .inr (.inr (.inr (.inr (fun _ => none))))))] ++ wX2 cy u3 ++ wX1 cy u5 ++ wX4 cy u7 ++ wX6 cy u9 ++ wX8 cy u12 ++ wX8 cy u14 ++ wX0 cy u16 ++ wX3 cy u18)) s.heap H locs := hB
  refine lv_aload_n F.1 F.2.1 dX9_init_108 rfl (lv_at hl 0 rfl) ?_
  refine lv_bipush (v := 6) F.1 F.2.1 dX9_init_109 (by decide) ?_
  refine z_int F hE hA hB 6 (by decide) rfl (by decide) (Nat.le_of_ble_eq_true rfl) (Nat.le_of_ble_eq_true rfl) dX9_init_111 (fun q19 H hB => ?_)
  have hB : Bw D (va_A [(a, eX9)] s.heap.size) ((a, .inr (9, [.ref q1, .ref (u3 0), .ref (u5 0), .ref (u7 0), .ref (u9 0), .ref q10, .ref (u12 0), .ref (u14 0), .ref (u16 0), .ref (u18 0), .null, .null, .int 0])) :: ([(q1, .inl (cy 2, 2, .inr (.inr (.inr (.inr (fun _ => none)))))), (q10, .inl (cy 3, 4, .inr (.inr (.inr (.inr (fun _ => none))))))] ++ wX2 cy u3 ++ wX1 cy u5 ++ wX4 cy u7 ++ wX6 cy u9 ++ wX8 cy u12 ++ wX8 cy u14 ++ wX0 cy u16 ++ wX3 cy u18 ++ [(q19, rI cy 6)])) s.heap H locs := hB
  refine z_putF F hE hin hB (T := TX9) rfl inlX9 tyX9 tyX9_ok nmX9 10 (by decide) wm_f_RX9_73 rfl rfl (ty := .array .int) (by decide +kernel) rfl rfl (Nat.le_of_ble_eq_true rfl) dX9_init_113 (fun H locs hB => ?_)
  have hB : Bw D (va_A [(a, eX9)] s.heap.size) ((a, .inr (9, [.ref q1, .ref (u3 0), .ref (u5 0), .ref (u7 0), .ref (u9 0), .ref q10, .ref (u12 0), .ref (u14 0), .ref (u16 0), .ref (u18 0), .ref q19, .null, .int 0])) :: ([(q1, .inl (cy 2, 2, .inr (.inr (.inr (.inr (fun _ => none)))))), (q10, .inl (cy 3, 4, .inr (.inr (.inr (.inr (fun _ => none))))))] ++ wX2 cy u3 ++ wX1 cy u5 ++ wX4 cy u7 ++ wX6 cy u9 ++ wX8 cy u12 ++ wX8 cy u14 ++ wX0 cy u16 ++ wX3 cy u18 ++ [(q19, rI cy 6)])) s.heap H locs := hB
  refine lv_aload_n F.1 F.2.1 dX9_init_116 rfl (lv_at hl 0 rfl) ?_
  refine lv_bipush (v := 80) F.1 F.2.1 dX9_init_117 (by decide) ?_
  refine z_int F hE hA hB 80 (by decide) rfl (by decide) (Nat.le_of_ble_eq_true rfl) (Nat.le_of_ble_eq_true rfl) dX9_init_119 (fun q20 H hB => ?_)
  have hB : Bw D (va_A [(a, eX9)] s.heap.size) ((a, .inr (9, [.ref q1, .ref (u3 0), .ref (u5 0), .ref (u7 0), .ref (u9 0), .ref q10, .ref (u12 0), .ref (u14 0), .ref (u16 0), .ref (u18 0), .ref q19, .null, .int 0])) :: ([(q1, .inl (cy 2, 2, .inr (.inr (.inr (.inr (fun _ => none)))))), (q10, .inl (cy 3, 4, .inr (.inr (.inr (.inr (fun _ => none))))))] ++ wX2 cy u3 ++ wX1 cy u5 ++ wX4 cy u7 ++ wX6 cy u9 ++ wX8 cy u12 ++ wX8 cy u14 ++ wX0 cy u16 ++ wX3 cy u18 ++ [(q19, rI cy 6), (q20, rI cy 80)])) s.heap H locs := hB
  refine z_putF F hE hin hB (T := TX9) rfl inlX9 tyX9 tyX9_ok nmX9 11 (by decide) wm_f_RX9_77 rfl rfl (ty := .array .int) (by decide +kernel) rfl rfl (Nat.le_of_ble_eq_true rfl) dX9_init_121 (fun H locs hB => ?_)
  have hB : Bw D (va_A [(a, eX9)] s.heap.size) ((a, .inr (9, [.ref q1, .ref (u3 0), .ref (u5 0), .ref (u7 0), .ref (u9 0), .ref q10, .ref (u12 0), .ref (u14 0), .ref (u16 0), .ref (u18 0), .ref q19, .ref q20, .int 0])) :: ([(q1, .inl (cy 2, 2, .inr (.inr (.inr (.inr (fun _ => none)))))), (q10, .inl (cy 3, 4, .inr (.inr (.inr (.inr (fun _ => none))))))] ++ wX2 cy u3 ++ wX1 cy u5 ++ wX4 cy u7 ++ wX6 cy u9 ++ wX8 cy u12 ++ wX8 cy u14 ++ wX0 cy u16 ++ wX3 cy u18 ++ [(q19, rI cy 6), (q20, rI cy 80)])) s.heap H locs := hB
  refine lv_aload_n F.1 F.2.1 dX9_init_124 rfl (lv_at hl 0 rfl) ?_
  refine z_get F hE hB (T := TX9) rfl inlX9 0 (by decide) (v := .ref q1) wm_f_RX9_11 rfl dX9_init_125 ?_
  refine lv_iconst (v := 0) F.1 F.2.1 dX9_init_128 (by decide) ?_
  refine z_new F hE hA hB (C := RX7) (ci := 7) rfl inlX7 tyX7 tyX7_ok wt_k_RX9_9 wt_n_RX7 wm_n_RX7 dfX7 (Nat.le_of_ble_eq_true rfl) (Nat.le_of_ble_eq_true rfl) dX9_init_129 (fun q21 H hB => ?_)
  refine lv_dup F.1 F.2.1 dX9_init_132 rfl ?_
  refine lv_bipush (v := 31) F.1 F.2.1 dX9_init_133 (by decide) ?_
  refine z_initL 1 F hE hA hB (c_X7_init l D cy q21 H.size 31 31 (by decide) rfl (by decide)) wt_m_RX9_80 wt_c_X7_init wt_i_X7_init wm_n_RX7 rfl (by decide +kernel) rfl rfl ⟨(Nat.le_of_ble_eq_true rfl), (Nat.le_of_ble_eq_true rfl)⟩ rfl rfl hl.1 (Nat.le_of_ble_eq_true rfl) dX9_init_135 ⟨(Nat.le_of_ble_eq_true rfl), (Nat.le_of_ble_eq_true rfl)⟩ (fun u22 H locs hu hB2 => ?_)
  have hu : u22 0 = q21 := hu
  subst hu
  have hB : Bw D (va_A [(a, eX9)] s.heap.size) ((a, .inr (9, [.ref q1, .ref (u3 0), .ref (u5 0), .ref (u7 0), .ref (u9 0), .ref q10, .ref (u12 0), .ref (u14 0), .ref (u16 0), .ref (u18 0), .ref q19, .ref q20, .int 0])) :: ([(q1, .inl (cy 2, 2, .inr (.inr (.inr (.inr (fun _ => none)))))), (q10, .inl (cy 3, 4, .inr (.inr (.inr (.inr (fun _ => none))))))] ++ wX2 cy u3 ++ wX1 cy u5 ++ wX4 cy u7 ++ wX6 cy u9 ++ wX8 cy u12 ++ wX8 cy u14 ++ wX0 cy u16 ++ wX3 cy u18 ++ [(q19, rI cy 6), (q20, rI cy 80)] ++ wX7 cy 31 u22)) s.heap H locs := hB2
  refine z_ast F hE hB 1 2 52 7 (r := (RX7, TX7, 2)) rfl rfl rfl rfl (by unfold vp_in; decide) dX9_init_138 (fun H locs hB => ?_)
  have hB : Bw D (va_A [(a, eX9)] s.heap.size) ((a, .inr (9, [.ref q1, .ref (u3 0), .ref (u5 0), .ref (u7 0), .ref (u9 0), .ref q10, .ref (u12 0), .ref (u14 0), .ref (u16 0), .ref (u18 0), .ref q19, .ref q20, .int 0])) :: ([(q1, .inl (cy 2, 2, .inr (.inr (.inr (.inr (va_up (fun _ => none) 0 (some (u22 0)))))))), (q10, .inl (cy 3, 4, .inr (.inr (.inr (.inr (fun _ => none))))))] ++ wX2 cy u3 ++ wX1 cy u5 ++ wX4 cy u7 ++ wX6 cy u9 ++ wX8 cy u12 ++ wX8 cy u14 ++ wX0 cy u16 ++ wX3 cy u18 ++ [(q19, rI cy 6), (q20, rI cy 80)] ++ wX7 cy 31 u22)) s.heap H locs := hB
  refine lv_aload_n F.1 F.2.1 dX9_init_139 rfl (lv_at hl 0 rfl) ?_
  refine z_get F hE hB (T := TX9) rfl inlX9 0 (by decide) (v := .ref q1) wm_f_RX9_11 rfl dX9_init_140 ?_
  refine lv_iconst (v := 1) F.1 F.2.1 dX9_init_143 (by decide) ?_
  refine z_new F hE hA hB (C := RX7) (ci := 7) rfl inlX7 tyX7 tyX7_ok wt_k_RX9_9 wt_n_RX7 wm_n_RX7 dfX7 (Nat.le_of_ble_eq_true rfl) (Nat.le_of_ble_eq_true rfl) dX9_init_144 (fun q23 H hB => ?_)
  refine lv_dup F.1 F.2.1 dX9_init_147 rfl ?_
  refine lv_bipush (v := 63) F.1 F.2.1 dX9_init_148 (by decide) ?_
  refine z_initL 1 F hE hA hB (c_X7_init l D cy q23 H.size 63 63 (by decide) rfl (by decide)) wt_m_RX9_80 wt_c_X7_init wt_i_X7_init wm_n_RX7 rfl (by decide +kernel) rfl rfl ⟨(Nat.le_of_ble_eq_true rfl), (Nat.le_of_ble_eq_true rfl)⟩ rfl rfl hl.1 (Nat.le_of_ble_eq_true rfl) dX9_init_150 ⟨(Nat.le_of_ble_eq_true rfl), (Nat.le_of_ble_eq_true rfl)⟩ (fun u24 H locs hu hB2 => ?_)
  have hu : u24 0 = q23 := hu
  subst hu
  have hB : Bw D (va_A [(a, eX9)] s.heap.size) ((a, .inr (9, [.ref q1, .ref (u3 0), .ref (u5 0), .ref (u7 0), .ref (u9 0), .ref q10, .ref (u12 0), .ref (u14 0), .ref (u16 0), .ref (u18 0), .ref q19, .ref q20, .int 0])) :: ([(q1, .inl (cy 2, 2, .inr (.inr (.inr (.inr (va_up (fun _ => none) 0 (some (u22 0)))))))), (q10, .inl (cy 3, 4, .inr (.inr (.inr (.inr (fun _ => none))))))] ++ wX2 cy u3 ++ wX1 cy u5 ++ wX4 cy u7 ++ wX6 cy u9 ++ wX8 cy u12 ++ wX8 cy u14 ++ wX0 cy u16 ++ wX3 cy u18 ++ [(q19, rI cy 6), (q20, rI cy 80)] ++ wX7 cy 31 u22 ++ wX7 cy 63 u24)) s.heap H locs := hB2
  refine z_ast F hE hB 1 2 54 7 (r := (RX7, TX7, 2)) rfl rfl rfl rfl (by unfold vp_in; decide) dX9_init_153 (fun H locs hB => ?_)
  have hB : Bw D (va_A [(a, eX9)] s.heap.size) ((a, .inr (9, [.ref q1, .ref (u3 0), .ref (u5 0), .ref (u7 0), .ref (u9 0), .ref q10, .ref (u12 0), .ref (u14 0), .ref (u16 0), .ref (u18 0), .ref q19, .ref q20, .int 0])) :: ([(q1, .inl (cy 2, 2, .inr (.inr (.inr (.inr (va_up (va_up (fun _ => none) 0 (some (u22 0))) 1 (some (u24 0)))))))), (q10, .inl (cy 3, 4, .inr (.inr (.inr (.inr (fun _ => none))))))] ++ wX2 cy u3 ++ wX1 cy u5 ++ wX4 cy u7 ++ wX6 cy u9 ++ wX8 cy u12 ++ wX8 cy u14 ++ wX0 cy u16 ++ wX3 cy u18 ++ [(q19, rI cy 6), (q20, rI cy 80)] ++ wX7 cy 31 u22 ++ wX7 cy 63 u24)) s.heap H locs := hB
  refine lv_iconst (v := 0) F.1 F.2.1 dX9_init_154 (by decide) ?_
  refine lv_istore_n (lv' := [(1, .int 0), (0, .ref a)]) F.1 F.2.1 dX9_init_155 rfl hl (by decide) rfl (fun ls hl => ?_)
  refine lv_iload_n F.1 F.2.1 dX9_init_156 rfl (lv_at hl 0 rfl) ?_
  refine lv_iconst (v := 4) F.1 F.2.1 dX9_init_157 (by decide) ?_
  refine lv_icmp_ge (tgt := 180) F.1 F.2.1 dX9_init_158 (by decide) (fun c9 => absurd c9 (by decide)) (fun _ => ?_)
  refine lv_aload_n F.1 F.2.1 dX9_init_161 rfl (lv_at hl 1 rfl) ?_
  refine z_get F hE hB (T := TX9) rfl inlX9 5 (by decide) (v := .ref q10) wm_f_RX9_45 rfl dX9_init_162 ?_
  refine lv_iload_n F.1 F.2.1 dX9_init_165 rfl (lv_at hl 0 rfl) ?_
  refine z_new F hE hA hB (C := RX5) (ci := 5) rfl inlX5 tyX5 tyX5_ok wt_k_RX9_43 wt_n_RX5 wm_n_RX5 dfX5 (Nat.le_of_ble_eq_true rfl) (Nat.le_of_ble_eq_true rfl) dX9_init_166 (fun q25 H hB => ?_)
  refine lv_dup F.1 F.2.1 dX9_init_169 rfl ?_
  refine z_init F hE hA hB (c_X5_init l D cy q25 H.size) (by decide +kernel) wt_c_X5_init wt_i_X5_init wm_n_RX5 rfl (by decide +kernel) rfl rfl ⟨(Nat.le_of_ble_eq_true rfl), (Nat.le_of_ble_eq_true rfl)⟩ hl.1 (Nat.le_of_ble_eq_true rfl) dX9_init_170 ⟨(Nat.le_of_ble_eq_true rfl), (Nat.le_of_ble_eq_true rfl)⟩ (fun u26 H locs hu hB2 => ?_)
  have hu : u26 0 = q25 := hu
  subst hu
  have hB : Bw D (va_A [(a, eX9)] s.heap.size) ((a, .inr (9, [.ref q1, .ref (u3 0), .ref (u5 0), .ref (u7 0), .ref (u9 0), .ref q10, .ref (u12 0), .ref (u14 0), .ref (u16 0), .ref (u18 0), .ref q19, .ref q20, .int 0])) :: ([(q1, .inl (cy 2, 2, .inr (.inr (.inr (.inr (va_up (va_up (fun _ => none) 0 (some (u22 0))) 1 (some (u24 0)))))))), (q10, .inl (cy 3, 4, .inr (.inr (.inr (.inr (fun _ => none))))))] ++ wX2 cy u3 ++ wX1 cy u5 ++ wX4 cy u7 ++ wX6 cy u9 ++ wX8 cy u12 ++ wX8 cy u14 ++ wX0 cy u16 ++ wX3 cy u18 ++ [(q19, rI cy 6), (q20, rI cy 80)] ++ wX7 cy 31 u22 ++ wX7 cy 63 u24 ++ wX5 cy u26)) s.heap H locs := hB2
  refine z_ast F hE hB 2 3 56 5 (r := (RX5, TX5, 4)) rfl rfl rfl rfl (by unfold vp_in; decide) dX9_init_173 (fun H locs hB => ?_)
  have hB : Bw D (va_A [(a, eX9)] s.heap.size) ((a, .inr (9, [.ref q1, .ref (u3 0), .ref (u5 0), .ref (u7 0), .ref (u9 0), .ref q10, .ref (u12 0), .ref (u14 0), .ref (u16 0), .ref (u18 0), .ref q19, .ref q20, .int 0])) :: ([(q1, .inl (cy 2, 2, .inr (.inr (.inr (.inr (va_up (va_up (fun _ => none) 0 (some (u22 0))) 1 (some (u24 0)))))))), (q10, .inl (cy 3, 4, .inr (.inr (.inr (.inr (va_up (fun _ => none) 0 (some (u26 0))))))))] ++ wX2 cy u3 ++ wX1 cy u5 ++ wX4 cy u7 ++ wX6 cy u9 ++ wX8 cy u12 ++ wX8 cy u14 ++ wX0 cy u16 ++ wX3 cy u18 ++ [(q19, rI cy 6), (q20, rI cy 80)] ++ wX7 cy 31 u22 ++ wX7 cy 63 u24 ++ wX5 cy u26)) s.heap H locs := hB
  refine lv_iinc (v := 1) (lv' := [(1, .int 1), (0, .ref a)]) F.1 F.2.1 dX9_init_174 hl (k := 0) rfl (by decide) (by decide) rfl (fun ls hl => ?_)
  refine lv_goto (tgt := 156) F.1 F.2.1 dX9_init_177 (by decide) ?_
  refine lv_iload_n F.1 F.2.1 dX9_init_156 rfl (lv_at hl 0 rfl) ?_
  refine lv_iconst (v := 4) F.1 F.2.1 dX9_init_157 (by decide) ?_
  refine lv_icmp_ge (tgt := 180) F.1 F.2.1 dX9_init_158 (by decide) (fun c9 => absurd c9 (by decide)) (fun _ => ?_)
  refine lv_aload_n F.1 F.2.1 dX9_init_161 rfl (lv_at hl 1 rfl) ?_
  refine z_get F hE hB (T := TX9) rfl inlX9 5 (by decide) (v := .ref q10) wm_f_RX9_45 rfl dX9_init_162 ?_
  refine lv_iload_n F.1 F.2.1 dX9_init_165 rfl (lv_at hl 0 rfl) ?_
  refine z_new F hE hA hB (C := RX5) (ci := 5) rfl inlX5 tyX5 tyX5_ok wt_k_RX9_43 wt_n_RX5 wm_n_RX5 dfX5 (Nat.le_of_ble_eq_true rfl) (Nat.le_of_ble_eq_true rfl) dX9_init_166 (fun q27 H hB => ?_)
  refine lv_dup F.1 F.2.1 dX9_init_169 rfl ?_
  refine z_init F hE hA hB (c_X5_init l D cy q27 H.size) (by decide +kernel) wt_c_X5_init wt_i_X5_init wm_n_RX5 rfl (by decide +kernel) rfl rfl ⟨(Nat.le_of_ble_eq_true rfl), (Nat.le_of_ble_eq_true rfl)⟩ hl.1 (Nat.le_of_ble_eq_true rfl) dX9_init_170 ⟨(Nat.le_of_ble_eq_true rfl), (Nat.le_of_ble_eq_true rfl)⟩ (fun u28 H locs hu hB2 => ?_)
  have hu : u28 0 = q27 := hu
  subst hu
  have hB : Bw D (va_A [(a, eX9)] s.heap.size) ((a, .inr (9, [.ref q1, .ref (u3 0), .ref (u5 0), .ref (u7 0), .ref (u9 0), .ref q10, .ref (u12 0), .ref (u14 0), .ref (u16 0), .ref (u18 0), .ref q19, .ref q20, .int 0])) :: ([(q1, .inl (cy 2, 2, .inr (.inr (.inr (.inr (va_up (va_up (fun _ => none) 0 (some (u22 0))) 1 (some (u24 0)))))))), (q10, .inl (cy 3, 4, .inr (.inr (.inr (.inr (va_up (fun _ => none) 0 (some (u26 0))))))))] ++ wX2 cy u3 ++ wX1 cy u5 ++ wX4 cy u7 ++ wX6 cy u9 ++ wX8 cy u12 ++ wX8 cy u14 ++ wX0 cy u16 ++ wX3 cy u18 ++ [(q19, rI cy 6), (q20, rI cy 80)] ++ wX7 cy 31 u22 ++ wX7 cy 63 u24 ++ wX5 cy u26 ++ wX5 cy u28)) s.heap H locs := hB2
  refine z_ast F hE hB 2 3 58 5 (r := (RX5, TX5, 4)) rfl rfl rfl rfl (by unfold vp_in; decide) dX9_init_173 (fun H locs hB => ?_)
  have hB : Bw D (va_A [(a, eX9)] s.heap.size) ((a, .inr (9, [.ref q1, .ref (u3 0), .ref (u5 0), .ref (u7 0), .ref (u9 0), .ref q10, .ref (u12 0), .ref (u14 0), .ref (u16 0), .ref (u18 0), .ref q19, .ref q20, .int 0])) :: ([(q1, .inl (cy 2, 2, .inr (.inr (.inr (.inr (va_up (va_up (fun _ => none) 0 (some (u22 0))) 1 (some (u24 0)))))))), (q10, .inl (cy 3, 4, .inr (.inr (.inr (.inr (va_up (va_up (fun _ => none) 0 (some (u26 0))) 1 (some (u28 0))))))))] ++ wX2 cy u3 ++ wX1 cy u5 ++ wX4 cy u7 ++ wX6 cy u9 ++ wX8 cy u12 ++ wX8 cy u14 ++ wX0 cy u16 ++ wX3 cy u18 ++ [(q19, rI cy 6), (q20, rI cy 80)] ++ wX7 cy 31 u22 ++ wX7 cy 63 u24 ++ wX5 cy u26 ++ wX5 cy u28)) s.heap H locs := hB
  refine lv_iinc (v := 2) (lv' := [(1, .int 2), (0, .ref a)]) F.1 F.2.1 dX9_init_174 hl (k := 0) rfl (by decide) (by decide) rfl (fun ls hl => ?_)
  refine lv_goto (tgt := 156) F.1 F.2.1 dX9_init_177 (by decide) ?_
  refine lv_iload_n F.1 F.2.1 dX9_init_156 rfl (lv_at hl 0 rfl) ?_
  refine lv_iconst (v := 4) F.1 F.2.1 dX9_init_157 (by decide) ?_
  refine lv_icmp_ge (tgt := 180) F.1 F.2.1 dX9_init_158 (by decide) (fun c9 => absurd c9 (by decide)) (fun _ => ?_)
  refine lv_aload_n F.1 F.2.1 dX9_init_161 rfl (lv_at hl 1 rfl) ?_
  refine z_get F hE hB (T := TX9) rfl inlX9 5 (by decide) (v := .ref q10) wm_f_RX9_45 rfl dX9_init_162 ?_
  refine lv_iload_n F.1 F.2.1 dX9_init_165 rfl (lv_at hl 0 rfl) ?_
  refine z_new F hE hA hB (C := RX5) (ci := 5) rfl inlX5 tyX5 tyX5_ok wt_k_RX9_43 wt_n_RX5 wm_n_RX5 dfX5 (Nat.le_of_ble_eq_true rfl) (Nat.le_of_ble_eq_true rfl) dX9_init_166 (fun q29 H hB => ?_)
  refine lv_dup F.1 F.2.1 dX9_init_169 rfl ?_
  refine z_init F hE hA hB (c_X5_init l D cy q29 H.size) (by decide +kernel) wt_c_X5_init wt_i_X5_init wm_n_RX5 rfl (by decide +kernel) rfl rfl ⟨(Nat.le_of_ble_eq_true rfl), (Nat.le_of_ble_eq_true rfl)⟩ hl.1 (Nat.le_of_ble_eq_true rfl) dX9_init_170 ⟨(Nat.le_of_ble_eq_true rfl), (Nat.le_of_ble_eq_true rfl)⟩ (fun u30 H locs hu hB2 => ?_)
  have hu : u30 0 = q29 := hu
  subst hu
  have hB : Bw D (va_A [(a, eX9)] s.heap.size) ((a, .inr (9, [.ref q1, .ref (u3 0), .ref (u5 0), .ref (u7 0), .ref (u9 0), .ref q10, .ref (u12 0), .ref (u14 0), .ref (u16 0), .ref (u18 0), .ref q19, .ref q20, .int 0])) :: ([(q1, .inl (cy 2, 2, .inr (.inr (.inr (.inr (va_up (va_up (fun _ => none) 0 (some (u22 0))) 1 (some (u24 0)))))))), (q10, .inl (cy 3, 4, .inr (.inr (.inr (.inr (va_up (va_up (fun _ => none) 0 (some (u26 0))) 1 (some (u28 0))))))))] ++ wX2 cy u3 ++ wX1 cy u5 ++ wX4 cy u7 ++ wX6 cy u9 ++ wX8 cy u12 ++ wX8 cy u14 ++ wX0 cy u16 ++ wX3 cy u18 ++ [(q19, rI cy 6), (q20, rI cy 80)] ++ wX7 cy 31 u22 ++ wX7 cy 63 u24 ++ wX5 cy u26 ++ wX5 cy u28 ++ wX5 cy u30)) s.heap H locs := hB2
  refine z_ast F hE hB 2 3 60 5 (r := (RX5, TX5, 4)) rfl rfl rfl rfl (by unfold vp_in; decide) dX9_init_173 (fun H locs hB => ?_)
  have hB : Bw D (va_A [(a, eX9)] s.heap.size) ((a, .inr (9, [.ref q1, .ref (u3 0), .ref (u5 0), .ref (u7 0), .ref (u9 0), .ref q10, .ref (u12 0), .ref (u14 0), .ref (u16 0), .ref (u18 0), .ref q19, .ref q20, .int 0])) :: ([(q1, .inl (cy 2, 2, .inr (.inr (.inr (.inr (va_up (va_up (fun _ => none) 0 (some (u22 0))) 1 (some (u24 0)))))))), (q10, .inl (cy 3, 4, .inr (.inr (.inr (.inr (va_up (va_up (va_up (fun _ => none) 0 (some (u26 0))) 1 (some (u28 0))) 2 (some (u30 0))))))))] ++ wX2 cy u3 ++ wX1 cy u5 ++ wX4 cy u7 ++ wX6 cy u9 ++ wX8 cy u12 ++ wX8 cy u14 ++ wX0 cy u16 ++ wX3 cy u18 ++ [(q19, rI cy 6), (q20, rI cy 80)] ++ wX7 cy 31 u22 ++ wX7 cy 63 u24 ++ wX5 cy u26 ++ wX5 cy u28 ++ wX5 cy u30)) s.heap H locs := hB
  refine lv_iinc (v := 3) (lv' := [(1, .int 3), (0, .ref a)]) F.1 F.2.1 dX9_init_174 hl (k := 0) rfl (by decide) (by decide) rfl (fun ls hl => ?_)
  refine lv_goto (tgt := 156) F.1 F.2.1 dX9_init_177 (by decide) ?_
  refine lv_iload_n F.1 F.2.1 dX9_init_156 rfl (lv_at hl 0 rfl) ?_
  refine lv_iconst (v := 4) F.1 F.2.1 dX9_init_157 (by decide) ?_
  refine lv_icmp_ge (tgt := 180) F.1 F.2.1 dX9_init_158 (by decide) (fun c9 => absurd c9 (by decide)) (fun _ => ?_)
  refine lv_aload_n F.1 F.2.1 dX9_init_161 rfl (lv_at hl 1 rfl) ?_
  refine z_get F hE hB (T := TX9) rfl inlX9 5 (by decide) (v := .ref q10) wm_f_RX9_45 rfl dX9_init_162 ?_
  refine lv_iload_n F.1 F.2.1 dX9_init_165 rfl (lv_at hl 0 rfl) ?_
  refine z_new F hE hA hB (C := RX5) (ci := 5) rfl inlX5 tyX5 tyX5_ok wt_k_RX9_43 wt_n_RX5 wm_n_RX5 dfX5 (Nat.le_of_ble_eq_true rfl) (Nat.le_of_ble_eq_true rfl) dX9_init_166 (fun q31 H hB => ?_)
  refine lv_dup F.1 F.2.1 dX9_init_169 rfl ?_
  refine z_init F hE hA hB (c_X5_init l D cy q31 H.size) (by decide +kernel) wt_c_X5_init wt_i_X5_init wm_n_RX5 rfl (by decide +kernel) rfl rfl ⟨(Nat.le_of_ble_eq_true rfl), (Nat.le_of_ble_eq_true rfl)⟩ hl.1 (Nat.le_of_ble_eq_true rfl) dX9_init_170 ⟨(Nat.le_of_ble_eq_true rfl), (Nat.le_of_ble_eq_true rfl)⟩ (fun u32 H locs hu hB2 => ?_)
  have hu : u32 0 = q31 := hu
  subst hu
  have hB : Bw D (va_A [(a, eX9)] s.heap.size) ((a, .inr (9, [.ref q1, .ref (u3 0), .ref (u5 0), .ref (u7 0), .ref (u9 0), .ref q10, .ref (u12 0), .ref (u14 0), .ref (u16 0), .ref (u18 0), .ref q19, .ref q20, .int 0])) :: ([(q1, .inl (cy 2, 2, .inr (.inr (.inr (.inr (va_up (va_up (fun _ => none) 0 (some (u22 0))) 1 (some (u24 0)))))))), (q10, .inl (cy 3, 4, .inr (.inr (.inr (.inr (va_up (va_up (va_up (fun _ => none) 0 (some (u26 0))) 1 (some (u28 0))) 2 (some (u30 0))))))))] ++ wX2 cy u3 ++ wX1 cy u5 ++ wX4 cy u7 ++ wX6 cy u9 ++ wX8 cy u12 ++ wX8 cy u14 ++ wX0 cy u16 ++ wX3 cy u18 ++ [(q19, rI cy 6), (q20, rI cy 80)] ++ wX7 cy 31 u22 ++ wX7 cy 63 u24 ++ wX5 cy u26 ++ wX5 cy u28 ++ wX5 cy u30 ++ wX5 cy u32)) s.heap H locs := hB2
  refine z_ast F hE hB 2 3 62 5 (r := (RX5, TX5, 4)) rfl rfl rfl rfl (by unfold vp_in; decide) dX9_init_173 (fun H locs hB => ?_)
  have hB : Bw D (va_A [(a, eX9)] s.heap.size) ((a, .inr (9, [.ref q1, .ref (u3 0), .ref (u5 0), .ref (u7 0), .ref (u9 0), .ref q10, .ref (u12 0), .ref (u14 0), .ref (u16 0), .ref (u18 0), .ref q19, .ref q20, .int 0])) :: ([(q1, .inl (cy 2, 2, .inr (.inr (.inr (.inr (va_up (va_up (fun _ => none) 0 (some (u22 0))) 1 (some (u24 0)))))))), (q10, .inl (cy 3, 4, .inr (.inr (.inr (.inr (va_up (va_up (va_up (va_up (fun _ => none) 0 (some (u26 0))) 1 (some (u28 0))) 2 (some (u30 0))) 3 (some (u32 0))))))))] ++ wX2 cy u3 ++ wX1 cy u5 ++ wX4 cy u7 ++ wX6 cy u9 ++ wX8 cy u12 ++ wX8 cy u14 ++ wX0 cy u16 ++ wX3 cy u18 ++ [(q19, rI cy 6), (q20, rI cy 80)] ++ wX7 cy 31 u22 ++ wX7 cy 63 u24 ++ wX5 cy u26 ++ wX5 cy u28 ++ wX5 cy u30 ++ wX5 cy u32)) s.heap H locs := hB
  refine lv_iinc (v := 4) (lv' := [(1, .int 4), (0, .ref a)]) F.1 F.2.1 dX9_init_174 hl (k := 0) rfl (by decide) (by decide) rfl (fun ls hl => ?_)
  refine lv_goto (tgt := 156) F.1 F.2.1 dX9_init_177 (by decide) ?_
  refine lv_iload_n F.1 F.2.1 dX9_init_156 rfl (lv_at hl 0 rfl) ?_
  refine lv_iconst (v := 4) F.1 F.2.1 dX9_init_157 (by decide) ?_
  refine lv_icmp_ge (tgt := 180) F.1 F.2.1 dX9_init_158 (by decide) (fun _ => ?_) (fun c9 => absurd (by decide) c9)
  refine W.widen (k := 63) (n := 1129) (Nat.le_refl _) (Nat.le_refl _) ?_
  exact z_ret F hlocks hr (fun j => match j with | 0 => (fun k => match k with | 0 => a | 1 => q1 | 2 => q10 | 3 => q19 | 4 => q20 | _ => 0) | 1 => u3 | 2 => u5 | 3 => u7 | 4 => u9 | 5 => u12 | 6 => u14 | 7 => u16 | 8 => u18 | 9 => u22 | 10 => u24 | 11 => u26 | 12 => u28 | 13 => u30 | 14 => u32 | _ => fun _ => 0) rfl hB dX9_init_180
