def f_X9_planCargo_b77 (k12 : Mem → Int32 → Int32 → Option (Mem)) (σ0 : Mem) (x1 : Int32) (x2 : Int32) (x3 : Int32) : Option (Mem) := (bv (f_X9_tryLoad σ0 x1) (fun σ11 => (bp (f_X8_isThrough σ11 52 (99 : Int32) x1) (fun v13 => (if v13 = (0 : Int32) then (k12 σ11 x1 (x2 + (1 : Int32))) else (ck x2 28 (ck x2 28 (bv (f_X3_setCargo σ11 x3 (cgF x2.toNatClampNeg) (cgS x2.toNatClampNeg)) (fun σ18 => (some σ18))))))))))
def f_X9_planCargo_b51 (k12 : Mem → Int32 → Int32 → Option (Mem)) (σ0 : Mem) (x1 : Int32) (x2 : Int32) (x3 : Int32) : Option (Mem) := (ck x2 28 (if (cgS x2.toNatClampNeg) = (-1 : Int32) then (f_X9_planCargo_b77 k12 σ0 x1 x2 x3) else (ck x2 28 (ck (cgS x2.toNatClampNeg) 6 (ck (cgS x2.toNatClampNeg) 6 (lt (ms σ0 62 (cgS x2.toNatClampNeg).toNatClampNeg ((σ0.1 62 (cgS x2.toNatClampNeg).toNatClampNeg) + (1 : Int32))) (fun σ22 => (f_X9_planCargo_b77 k12 σ22 x1 x2 (x3 + (1 : Int32))))))))))
def f_X9_planCargo_b12 : Nat → Mem → Int32 → Int32 → Option (Mem)
  | 0, _, _, _ => none
  | n12 + 1, σ0, x1, x2 => (if (28 : Int32) ≤ x2 then (some σ0) else (bv (f_X9_loadAsCarried σ0 x1) (fun σ5 => (ck x2 28 (if (cgF x2.toNatClampNeg) = (-1 : Int32) then (f_X9_planCargo_b51 (f_X9_planCargo_b12 n12) σ5 x1 x2 (0 : Int32)) else (ck x2 28 (ck (cgF x2.toNatClampNeg) 6 (ck (cgF x2.toNatClampNeg) 6 (lt (ms σ5 62 (cgF x2.toNatClampNeg).toNatClampNeg ((σ5.1 62 (cgF x2.toNatClampNeg).toNatClampNeg) + (1 : Int32))) (fun σ27 => (f_X9_planCargo_b51 (f_X9_planCargo_b12 n12) σ27 x1 x2 ((0 : Int32) + (1 : Int32)))))))))))))
def f_X9_planCargo (σ0 : Mem) (a1 : Int32) : Option (Mem) := (bv (f_X3_setCargo σ0 (-1 : Int32) (-1 : Int32) (-1 : Int32)) (fun σ2 => (f_X9_planCargo_b12 300 σ2 a1 (0 : Int32))))
set_option maxHeartbeats 4000000 in
set_option maxRecDepth 100000 in
theorem k_X9_planCargo {l : Launch} {D : va_G} {cy : Nat → ClassId} {ad : Nat → Nat} {ta tb : Nat} (hI : AdI ad) (σ0 : Mem) (a1 : Int32) {o : Mem} (h : f_X9_planCargo σ0 a1 = some o) : Met l yX9_planCargo (Cond.code yX9_planCargo cX9_planCargo 4 none :: wG) rm_X9_planCargo (CP D cy ad ta tb σ0 [.ref (ad 0), .int a1]) (CQv D cy ad o) 0 0 (AA ad) := by
  refine Met.ofW (cc := cX9_planCargo) (maxL := 4) (ret := none) (by decide) rfl ?_
  intro p e s m args below meth c s₁ B hml hv
  obtain ⟨rfl, hE, hP⟩ := hv
  have hts := atoms_spec (ws := Cond.code yX9_planCargo cX9_planCargo 4 none :: wG) B.pre
  have F : CallFix p m c cX9_planCargo 4 s _ wG RX9 := ⟨B.exec, B.bytes, hml, findClass_of_methodNamed B.named, fun w hw => hts w (List.mem_cons_of_mem _ hw)⟩
  have hr := B.returns
  have hlocks := B.notSynchronized
  have hB : Bd D cy ad σ0 s.heap s.heap [] := ⟨hP, va_S.rf⟩
  have hl := lv_entry ([.ref (ad 0), .int a1] : List Value) (n := 4) (Nat.le_of_ble_eq_true rfl)
  rw [lg_entry_eq]
  generalize (lg_sl ([.ref (ad 0), .int a1] : List Value) ++ List.replicate (4 - (lg_sl ([.ref (ad 0), .int a1] : List Value)).length) Slot.unset).toArray = ls at hl ⊢
  have hl : lv_has ls 4 [(0, .ref (ad 0)), (1, .int a1)] := hl
  have B12 : ∀ (n12 : Nat) (σ0 : Mem) (H : Heap) (locs : List Loc) (ls : Array Slot) (x1 : Int32) (x2 : Int32), f_X9_planCargo_b12 n12 σ0 x1 x2 = some o → Bd D cy ad σ0 s.heap H locs → lv_has ls 4 [(0, .ref (ad 0)), (1, .int x1), (2, .int x2)] → W p l e rm_X9_planCargo s m ([.ref (ad 0), .int a1] : List Value).toArray below meth c H locs 0 0 (MQ below (CQv D cy ad o) ([.ref (ad 0), .int a1] : List Value).toArray s 0 0 (AA ad)) (F0 m 12 ls []) := by
    intro n12
    induction n12 with
    | zero => intro σ0 H locs ls x1 x2 h hB hl; cases h
    | succ n12 ih12 =>
      have B77 : ∀ (σ0 : Mem) (H : Heap) (locs : List Loc) (ls : Array Slot) (x1 : Int32) (x2 : Int32) (x3 : Int32), f_X9_planCargo_b77 (f_X9_planCargo_b12 n12) σ0 x1 x2 x3 = some o → Bd D cy ad σ0 s.heap H locs → lv_has ls 4 [(0, .ref (ad 0)), (1, .int x1), (2, .int x2), (3, .int x3)] → W p l e rm_X9_planCargo s m ([.ref (ad 0), .int a1] : List Value).toArray below meth c H locs 0 0 (MQ below (CQv D cy ad o) ([.ref (ad 0), .int a1] : List Value).toArray s 0 0 (AA ad)) (F0 m 77 ls []) := by
        intro σ0 H locs ls x1 x2 x3 h hB hl
        unfold f_X9_planCargo_b77 at h
        refine lv_aload_n F.1 F.2.1 dX9_planCargo_77 rfl (lv_at hl 0 rfl) ?_
        refine lv_iload_n F.1 F.2.1 dX9_planCargo_78 rfl (lv_at hl 1 rfl) ?_
        obtain ⟨σ11, hc10, h⟩ := bv_e h
        refine q_cv hB (q_goV F hE hB (k_X9_tryLoad hI σ0 x1 hc10) (ca_RX9_208 F.2.2.2.2 ⟨Nat.le_of_ble_eq_true rfl, Nat.le_of_ble_eq_true rfl⟩) rfl po_0 rfl hl.1 rfl (Nat.le_of_ble_eq_true rfl) dX9_planCargo_79 ⟨Nat.le_of_ble_eq_true rfl, Nat.le_of_ble_eq_true rfl⟩) (fun H locs hB => ?_)
        refine lv_aload_n F.1 F.2.1 dX9_planCargo_82 rfl (lv_at hl 0 rfl) ?_
        refine gf_RX9_56 F hE hB po_0 rfl dX9_planCargo_83 ?_
        refine lv_bipush (v := 99) F.1 F.2.1 dX9_planCargo_86 (by decide) ?_
        refine lv_iload_n F.1 F.2.1 dX9_planCargo_88 rfl (lv_at hl 1 rfl) ?_
        obtain ⟨v13, hc12, h⟩ := bp_e h
        refine q_ci hB (q_goV F hE hB (k_X8_isThrough hI σ11 52 (Or.inr rfl) (99 : Int32) x1 hc12) (ca_RX9_392 F.2.2.2.2 ⟨Nat.le_of_ble_eq_true rfl, Nat.le_of_ble_eq_true rfl⟩) rfl po_52 rfl hl.1 rfl (Nat.le_of_ble_eq_true rfl) dX9_planCargo_89 ⟨Nat.le_of_ble_eq_true rfl, Nat.le_of_ble_eq_true rfl⟩) (fun H locs hB => ?_)
        refine lv_if_eq (tgt := 114) F.1 F.2.1 dX9_planCargo_92 (by decide) (fun c14 => ?_) (fun c14 => ?_)
        · replace h := it_e c14 h
          refine lv_iinc (v := (x2 + (1 : Int32))) (lv' := [(2, .int (x2 + (1 : Int32))), (0, .ref (ad 0)), (1, .int x1), (3, .int x3)]) F.1 F.2.1 dX9_planCargo_114 hl (k := 2) rfl rfl (by decide) rfl (fun ls hl => ?_)
          refine lv_goto (tgt := 12) F.1 F.2.1 dX9_planCargo_117 (by decide) ?_
          exact ih12 σ11 _ _ _ x1 (x2 + (1 : Int32)) h hB (lv_sub hl [1, 2, 0] rfl)
        · replace h := ie_e c14 h
          refine lv_aload_n F.1 F.2.1 dX9_planCargo_95 rfl (lv_at hl 0 rfl) ?_
          refine gf_RX9_69 F hE hB po_0 rfl dX9_planCargo_96 ?_
          refine lv_iload_n F.1 F.2.1 dX9_planCargo_99 rfl (lv_at hl 3 rfl) ?_
          refine q_gF F hE hB wm_f_RX9_386 dX9_planCargo_100 ?_
          refine lv_iload_n F.1 F.2.1 dX9_planCargo_103 rfl (lv_at hl 2 rfl) ?_
          obtain ⟨hi15, h⟩ := ck_e h
          refine q_tF F hE hB hi15 dX9_planCargo_104 ?_
          refine q_gS F hE hB wm_f_RX9_389 dX9_planCargo_105 ?_
          refine lv_iload_n F.1 F.2.1 dX9_planCargo_108 rfl (lv_at hl 2 rfl) ?_
          obtain ⟨hi16, h⟩ := ck_e h
          refine q_tS F hE hB hi16 dX9_planCargo_109 ?_
          obtain ⟨σ18, hc17, h⟩ := bv_e h
          refine q_cv hB (q_goV F hE hB (k_X3_setCargo hI σ11 x3 (cgF x2.toNatClampNeg) (cgS x2.toNatClampNeg) hc17) (ca_RX9_383 F.2.2.2.2 ⟨Nat.le_of_ble_eq_true rfl, Nat.le_of_ble_eq_true rfl⟩) rfl po_61 rfl hl.1 rfl (Nat.le_of_ble_eq_true rfl) dX9_planCargo_110 ⟨Nat.le_of_ble_eq_true rfl, Nat.le_of_ble_eq_true rfl⟩) (fun H locs hB => ?_)
          exact q_vret F hlocks hr hB (Option.some.inj h) dX9_planCargo_113
      have B51 : ∀ (σ0 : Mem) (H : Heap) (locs : List Loc) (ls : Array Slot) (x1 : Int32) (x2 : Int32) (x3 : Int32), f_X9_planCargo_b51 (f_X9_planCargo_b12 n12) σ0 x1 x2 x3 = some o → Bd D cy ad σ0 s.heap H locs → lv_has ls 4 [(0, .ref (ad 0)), (1, .int x1), (2, .int x2), (3, .int x3)] → W p l e rm_X9_planCargo s m ([.ref (ad 0), .int a1] : List Value).toArray below meth c H locs 0 0 (MQ below (CQv D cy ad o) ([.ref (ad 0), .int a1] : List Value).toArray s 0 0 (AA ad)) (F0 m 51 ls []) := by
        intro σ0 H locs ls x1 x2 x3 h hB hl
        unfold f_X9_planCargo_b51 at h
        refine q_gS F hE hB wm_f_RX9_389 dX9_planCargo_51 ?_
        refine lv_iload_n F.1 F.2.1 dX9_planCargo_54 rfl (lv_at hl 2 rfl) ?_
        obtain ⟨hi8, h⟩ := ck_e h
        refine q_tS F hE hB hi8 dX9_planCargo_55 ?_
        refine lv_iconst (v := (-1)) F.1 F.2.1 dX9_planCargo_56 (by decide) ?_
        refine lv_icmp_eq (tgt := 77) F.1 F.2.1 dX9_planCargo_57 (by decide) (fun c9 => ?_) (fun c9 => ?_)
        · replace h := it_e c9 h
          exact B77 σ0 _ _ _ x1 x2 x3 h hB (lv_sub hl [0, 1, 2, 3] rfl)
        · replace h := ie_e c9 h
          refine lv_aload_n F.1 F.2.1 dX9_planCargo_60 rfl (lv_at hl 0 rfl) ?_
          refine gf_RX9_73 F hE hB po_0 rfl dX9_planCargo_61 ?_
          refine q_gS F hE hB wm_f_RX9_389 dX9_planCargo_64 ?_
          refine lv_iload_n F.1 F.2.1 dX9_planCargo_67 rfl (lv_at hl 2 rfl) ?_
          obtain ⟨hi19, h⟩ := ck_e h
          refine q_tS F hE hB hi19 dX9_planCargo_68 ?_
          refine lv_dup2_11 F.1 F.2.1 dX9_planCargo_69 rfl rfl ?_
          obtain ⟨hi20, h⟩ := ck_e h
          refine q_iald F hE hB po_62 hi20 dX9_planCargo_70 ?_
          refine lv_iconst (v := 1) F.1 F.2.1 dX9_planCargo_71 (by decide) ?_
          refine lv_iadd F.1 F.2.1 dX9_planCargo_72 ?_
          obtain ⟨hi21, h⟩ := ck_e h
          obtain ⟨σ22, e23, h⟩ := lt_e h
          refine q_iast F hE hI hB row_62 hi21 dX9_planCargo_73 e23 (fun H locs hB => ?_)
          refine lv_iinc (v := (x3 + (1 : Int32))) (lv' := [(3, .int (x3 + (1 : Int32))), (0, .ref (ad 0)), (1, .int x1), (2, .int x2)]) F.1 F.2.1 dX9_planCargo_74 hl (k := 3) rfl rfl (by decide) rfl (fun ls hl => ?_)
          exact B77 σ22 _ _ _ x1 x2 (x3 + (1 : Int32)) h hB (lv_sub hl [1, 2, 3, 0] rfl)
      intro σ0 H locs ls x1 x2 h hB hl
      rw [f_X9_planCargo_b12] at h
      refine lv_iload_n F.1 F.2.1 dX9_planCargo_12 rfl (lv_at hl 2 rfl) ?_
      refine lv_bipush (v := 28) F.1 F.2.1 dX9_planCargo_13 (by decide) ?_
      refine lv_icmp_ge (tgt := 120) F.1 F.2.1 dX9_planCargo_15 (by decide) (fun c3 => ?_) (fun c3 => ?_)
      · replace h := it_e c3 h
        exact q_vret F hlocks hr hB (Option.some.inj h) dX9_planCargo_120
      · replace h := ie_e c3 h
        refine lv_iconst (v := 0) F.1 F.2.1 dX9_planCargo_18 (by decide) ?_
        refine lv_istore_n (lv' := [(3, .int (0 : Int32)), (0, .ref (ad 0)), (1, .int x1), (2, .int x2)]) F.1 F.2.1 dX9_planCargo_19 rfl hl (by decide) rfl (fun ls hl => ?_)
        refine lv_aload_n F.1 F.2.1 dX9_planCargo_20 rfl (lv_at hl 1 rfl) ?_
        refine lv_iload_n F.1 F.2.1 dX9_planCargo_21 rfl (lv_at hl 2 rfl) ?_
        obtain ⟨σ5, hc4, h⟩ := bv_e h
        refine q_cv hB (q_goV F hE hB (k_X9_loadAsCarried hI σ0 x1 hc4) (ca_RX9_205 F.2.2.2.2 ⟨Nat.le_of_ble_eq_true rfl, Nat.le_of_ble_eq_true rfl⟩) rfl po_0 rfl hl.1 rfl (Nat.le_of_ble_eq_true rfl) dX9_planCargo_22 ⟨Nat.le_of_ble_eq_true rfl, Nat.le_of_ble_eq_true rfl⟩) (fun H locs hB => ?_)
        refine q_gF F hE hB wm_f_RX9_386 dX9_planCargo_25 ?_
        refine lv_iload_n F.1 F.2.1 dX9_planCargo_28 rfl (lv_at hl 3 rfl) ?_
        obtain ⟨hi6, h⟩ := ck_e h
        refine q_tF F hE hB hi6 dX9_planCargo_29 ?_
        refine lv_iconst (v := (-1)) F.1 F.2.1 dX9_planCargo_30 (by decide) ?_
        refine lv_icmp_eq (tgt := 51) F.1 F.2.1 dX9_planCargo_31 (by decide) (fun c7 => ?_) (fun c7 => ?_)
        · replace h := it_e c7 h
          exact B51 σ5 _ _ _ x1 x2 (0 : Int32) h hB (lv_sub hl [1, 2, 3, 0] rfl)
        · replace h := ie_e c7 h
          refine lv_aload_n F.1 F.2.1 dX9_planCargo_34 rfl (lv_at hl 1 rfl) ?_
          refine gf_RX9_73 F hE hB po_0 rfl dX9_planCargo_35 ?_
          refine q_gF F hE hB wm_f_RX9_386 dX9_planCargo_38 ?_
          refine lv_iload_n F.1 F.2.1 dX9_planCargo_41 rfl (lv_at hl 3 rfl) ?_
          obtain ⟨hi24, h⟩ := ck_e h
          refine q_tF F hE hB hi24 dX9_planCargo_42 ?_
          refine lv_dup2_11 F.1 F.2.1 dX9_planCargo_43 rfl rfl ?_
          obtain ⟨hi25, h⟩ := ck_e h
          refine q_iald F hE hB po_62 hi25 dX9_planCargo_44 ?_
          refine lv_iconst (v := 1) F.1 F.2.1 dX9_planCargo_45 (by decide) ?_
          refine lv_iadd F.1 F.2.1 dX9_planCargo_46 ?_
          obtain ⟨hi26, h⟩ := ck_e h
          obtain ⟨σ27, e28, h⟩ := lt_e h
          refine q_iast F hE hI hB row_62 hi26 dX9_planCargo_47 e28 (fun H locs hB => ?_)
          refine lv_iinc (v := ((0 : Int32) + (1 : Int32))) (lv' := [(3, .int ((0 : Int32) + (1 : Int32))), (0, .ref (ad 0)), (1, .int x1), (2, .int x2)]) F.1 F.2.1 dX9_planCargo_48 hl (k := 0) rfl rfl (by decide) rfl (fun ls hl => ?_)
          exact B51 σ27 _ _ _ x1 x2 ((0 : Int32) + (1 : Int32)) h hB (lv_sub hl [1, 2, 3, 0] rfl)
  unfold f_X9_planCargo at h
  refine lv_aload_n F.1 F.2.1 dX9_planCargo_0 rfl (lv_at hl 0 rfl) ?_
  refine gf_RX9_69 F hE hB po_0 rfl dX9_planCargo_1 ?_
  refine lv_iconst (v := (-1)) F.1 F.2.1 dX9_planCargo_4 (by decide) ?_
  refine lv_iconst (v := (-1)) F.1 F.2.1 dX9_planCargo_5 (by decide) ?_
  refine lv_iconst (v := (-1)) F.1 F.2.1 dX9_planCargo_6 (by decide) ?_
  obtain ⟨σ2, hc1, h⟩ := bv_e h
  refine q_cv hB (q_goV F hE hB (k_X3_setCargo hI σ0 (-1 : Int32) (-1 : Int32) (-1 : Int32) hc1) (ca_RX9_383 F.2.2.2.2 ⟨Nat.le_of_ble_eq_true rfl, Nat.le_of_ble_eq_true rfl⟩) rfl po_61 rfl hl.1 rfl (Nat.le_of_ble_eq_true rfl) dX9_planCargo_7 ⟨Nat.le_of_ble_eq_true rfl, Nat.le_of_ble_eq_true rfl⟩) (fun H locs hB => ?_)
  refine lv_iconst (v := 0) F.1 F.2.1 dX9_planCargo_10 (by decide) ?_
  refine lv_istore_n (lv' := [(2, .int (0 : Int32)), (0, .ref (ad 0)), (1, .int a1)]) F.1 F.2.1 dX9_planCargo_11 rfl hl (by decide) rfl (fun ls hl => ?_)
  exact B12 300 σ2 _ _ _ a1 (0 : Int32) h hB (lv_sub hl [1, 2, 0] rfl)
def f_X9_cargo (σ0 : Mem) (a1 : Int32) (a2 : Int32) : Option (Int32 × Mem) := (bp (f_X9_isBoat σ0 a1) (fun v2 => (if v2 = (0 : Int32) then (some ((-2 : Int32), σ0)) else (if a2 < (-1 : Int32) then (some ((-2 : Int32), σ0)) else (if a2 ≤ (1 : Int32) then (bv (f_X9_planCargo σ0 a1) (fun σ7 => (bp (f_X3_cargoAnswer σ7 a2) (fun v9 => (some (v9, σ7)))))) else (some ((-2 : Int32), σ0)))))))
set_option maxHeartbeats 4000000 in
set_option maxRecDepth 100000 in
theorem k_X9_cargo {l : Launch} {D : va_G} {cy : Nat → ClassId} {ad : Nat → Nat} {ta tb : Nat} (hI : AdI ad) (σ0 : Mem) (a1 : Int32) (a2 : Int32) {o : Int32 × Mem} (h : f_X9_cargo σ0 a1 a2 = some o) : Met l yX9_cargo (Cond.code yX9_cargo cX9_cargo 3 (some .int) :: wG) rm_X9_cargo (CP D cy ad ta tb σ0 [.ref (ad 0), .int a1, .int a2]) (CQi D cy ad o.1 o.2) 0 0 (AA ad) := by
  refine Met.ofW (cc := cX9_cargo) (maxL := 3) (ret := (some .int)) (by decide) rfl ?_
  intro p e s m args below meth c s₁ B hml hv
  obtain ⟨rfl, hE, hP⟩ := hv
  have hts := atoms_spec (ws := Cond.code yX9_cargo cX9_cargo 3 (some .int) :: wG) B.pre
  have F : CallFix p m c cX9_cargo 3 s _ wG RX9 := ⟨B.exec, B.bytes, hml, findClass_of_methodNamed B.named, fun w hw => hts w (List.mem_cons_of_mem _ hw)⟩
  have hr := B.returns
  have hlocks := B.notSynchronized
  have hB : Bd D cy ad σ0 s.heap s.heap [] := ⟨hP, va_S.rf⟩
  have hl := lv_entry ([.ref (ad 0), .int a1, .int a2] : List Value) (n := 3) (Nat.le_of_ble_eq_true rfl)
  rw [lg_entry_eq]
  generalize (lg_sl ([.ref (ad 0), .int a1, .int a2] : List Value) ++ List.replicate (3 - (lg_sl ([.ref (ad 0), .int a1, .int a2] : List Value)).length) Slot.unset).toArray = ls at hl ⊢
  have hl : lv_has ls 3 [(0, .ref (ad 0)), (1, .int a1), (2, .int a2)] := hl
  unfold f_X9_cargo at h
  refine lv_aload_n F.1 F.2.1 dX9_cargo_0 rfl (lv_at hl 0 rfl) ?_
  refine lv_iload_n F.1 F.2.1 dX9_cargo_1 rfl (lv_at hl 1 rfl) ?_
  obtain ⟨v2, hc1, h⟩ := bp_e h
  refine q_ci hB (q_goV F hE hB (k_X9_isBoat hI σ0 a1 hc1) (ca_RX9_114 F.2.2.2.2 ⟨Nat.le_of_ble_eq_true rfl, Nat.le_of_ble_eq_true rfl⟩) rfl po_0 rfl hl.1 rfl (Nat.le_of_ble_eq_true rfl) dX9_cargo_2 ⟨Nat.le_of_ble_eq_true rfl, Nat.le_of_ble_eq_true rfl⟩) (fun H locs hB => ?_)
  refine lv_if_eq (tgt := 18) F.1 F.2.1 dX9_cargo_5 (by decide) (fun c3 => ?_) (fun c3 => ?_)
  · replace h := it_e c3 h
    refine lv_bipush (v := (-2)) F.1 F.2.1 dX9_cargo_18 (by decide) ?_
    exact q_iret F hlocks hr hB (so1 h) (so2 h) dX9_cargo_20
  · replace h := ie_e c3 h
    refine lv_iload_n F.1 F.2.1 dX9_cargo_8 rfl (lv_at hl 2 rfl) ?_
    refine lv_iconst (v := (-1)) F.1 F.2.1 dX9_cargo_9 (by decide) ?_
    refine lv_icmp_lt (tgt := 18) F.1 F.2.1 dX9_cargo_10 (by decide) (fun c4 => ?_) (fun c4 => ?_)
    · replace h := it_e c4 h
      refine lv_bipush (v := (-2)) F.1 F.2.1 dX9_cargo_18 (by decide) ?_
      exact q_iret F hlocks hr hB (so1 h) (so2 h) dX9_cargo_20
    · replace h := ie_e c4 h
      refine lv_iload_n F.1 F.2.1 dX9_cargo_13 rfl (lv_at hl 2 rfl) ?_
      refine lv_iconst (v := 1) F.1 F.2.1 dX9_cargo_14 (by decide) ?_
      refine lv_icmp_le (tgt := 21) F.1 F.2.1 dX9_cargo_15 (by decide) (fun c5 => ?_) (fun c5 => ?_)
      · replace h := it_e c5 h
        refine lv_aload_n F.1 F.2.1 dX9_cargo_21 rfl (lv_at hl 0 rfl) ?_
        refine lv_iload_n F.1 F.2.1 dX9_cargo_22 rfl (lv_at hl 1 rfl) ?_
        obtain ⟨σ7, hc6, h⟩ := bv_e h
        refine q_cv hB (q_goV F hE hB (k_X9_planCargo hI σ0 a1 hc6) (ca_RX9_172 F.2.2.2.2 ⟨Nat.le_of_ble_eq_true rfl, Nat.le_of_ble_eq_true rfl⟩) rfl po_0 rfl hl.1 rfl (Nat.le_of_ble_eq_true rfl) dX9_cargo_23 ⟨Nat.le_of_ble_eq_true rfl, Nat.le_of_ble_eq_true rfl⟩) (fun H locs hB => ?_)
        refine lv_aload_n F.1 F.2.1 dX9_cargo_26 rfl (lv_at hl 0 rfl) ?_
        refine gf_RX9_69 F hE hB po_0 rfl dX9_cargo_27 ?_
        refine lv_iload_n F.1 F.2.1 dX9_cargo_30 rfl (lv_at hl 2 rfl) ?_
        obtain ⟨v9, hc8, h⟩ := bp_e h
        refine q_ci hB (q_goV F hE hB (k_X3_cargoAnswer hI σ7 a2 hc8) (ca_RX9_175 F.2.2.2.2 ⟨Nat.le_of_ble_eq_true rfl, Nat.le_of_ble_eq_true rfl⟩) rfl po_61 rfl hl.1 rfl (Nat.le_of_ble_eq_true rfl) dX9_cargo_31 ⟨Nat.le_of_ble_eq_true rfl, Nat.le_of_ble_eq_true rfl⟩) (fun H locs hB => ?_)
        exact q_iret F hlocks hr hB (so1 h) (so2 h) dX9_cargo_34
      · replace h := ie_e c5 h
        refine lv_bipush (v := (-2)) F.1 F.2.1 dX9_cargo_18 (by decide) ?_
        exact q_iret F hlocks hr hB (so1 h) (so2 h) dX9_cargo_20
def f_X9_planSail_b84 (k22 : Mem → Int32 → Int32 → Option (Mem)) (σ0 : Mem) (x1 : Int32) (x2 : Int32) : Option (Mem) := (k22 σ0 x1 (x2 + (1 : Int32)))
def f_X9_planSail_b75 (k22 : Mem → Int32 → Int32 → Option (Mem)) (σ0 : Mem) (x1 : Int32) (x2 : Int32) (x3 : Int32) : Option (Mem) := (bv (f_X3_setBest σ0 x2 x3) (fun σ15 => (f_X9_planSail_b84 k22 σ15 x1 x2)))
def f_X9_planSail_b22 : Nat → Mem → Int32 → Int32 → Option (Mem)
  | 0, _, _, _ => none
  | n22 + 1, σ0, x1, x2 => (if (10 : Int32) ≤ x2 then (some σ0) else (ck x1 8 (lt (ms σ0 54 x1.toNatClampNeg x2) (fun σ7 => (bv (f_X8_run σ7 52) (fun σ10 => (bp (f_X8_allWait σ10 52) (fun v12 => (if (σ10.1 61 3) = (-1 : Int32) then (f_X9_planSail_b75 (f_X9_planSail_b22 n22) σ10 x1 x2 v12) else (if (σ10.1 61 4) ≤ v12 then (f_X9_planSail_b84 (f_X9_planSail_b22 n22) σ10 x1 x2) else (f_X9_planSail_b75 (f_X9_planSail_b22 n22) σ10 x1 x2 v12)))))))))))
def f_X9_planSail (σ0 : Mem) (a1 : Int32) : Option (Mem) := (bv (f_X8_takeOver σ0 52 46) (fun σ2 => (bv (f_X3_setBest σ2 (-1 : Int32) (-1 : Int32)) (fun σ4 => (f_X9_planSail_b22 300 σ4 a1 (0 : Int32))))))
set_option maxHeartbeats 4000000 in
set_option maxRecDepth 100000 in
theorem k_X9_planSail {l : Launch} {D : va_G} {cy : Nat → ClassId} {ad : Nat → Nat} {ta tb : Nat} (hI : AdI ad) (σ0 : Mem) (a1 : Int32) {o : Mem} (h : f_X9_planSail σ0 a1 = some o) : Met l yX9_planSail (Cond.code yX9_planSail cX9_planSail 4 none :: wG) rm_X9_planSail (CP D cy ad ta tb σ0 [.ref (ad 0), .int a1]) (CQv D cy ad o) 0 0 (AA ad) := by
  refine Met.ofW (cc := cX9_planSail) (maxL := 4) (ret := none) (by decide) rfl ?_
  intro p e s m args below meth c s₁ B hml hv
  obtain ⟨rfl, hE, hP⟩ := hv
  have hts := atoms_spec (ws := Cond.code yX9_planSail cX9_planSail 4 none :: wG) B.pre
  have F : CallFix p m c cX9_planSail 4 s _ wG RX9 := ⟨B.exec, B.bytes, hml, findClass_of_methodNamed B.named, fun w hw => hts w (List.mem_cons_of_mem _ hw)⟩
  have hr := B.returns
  have hlocks := B.notSynchronized
  have hB : Bd D cy ad σ0 s.heap s.heap [] := ⟨hP, va_S.rf⟩
  have hl := lv_entry ([.ref (ad 0), .int a1] : List Value) (n := 4) (Nat.le_of_ble_eq_true rfl)
  rw [lg_entry_eq]
  generalize (lg_sl ([.ref (ad 0), .int a1] : List Value) ++ List.replicate (4 - (lg_sl ([.ref (ad 0), .int a1] : List Value)).length) Slot.unset).toArray = ls at hl ⊢
  have hl : lv_has ls 4 [(0, .ref (ad 0)), (1, .int a1)] := hl
  have B22 : ∀ (n22 : Nat) (σ0 : Mem) (H : Heap) (locs : List Loc) (ls : Array Slot) (x1 : Int32) (x2 : Int32), f_X9_planSail_b22 n22 σ0 x1 x2 = some o → Bd D cy ad σ0 s.heap H locs → lv_has ls 4 [(0, .ref (ad 0)), (1, .int x1), (2, .int x2)] → W p l e rm_X9_planSail s m ([.ref (ad 0), .int a1] : List Value).toArray below meth c H locs 0 0 (MQ below (CQv D cy ad o) ([.ref (ad 0), .int a1] : List Value).toArray s 0 0 (AA ad)) (F0 m 22 ls []) := by
    intro n22
    induction n22 with
    | zero => intro σ0 H locs ls x1 x2 h hB hl; cases h
    | succ n22 ih22 =>
      have B84 : ∀ (σ0 : Mem) (H : Heap) (locs : List Loc) (ls : Array Slot) (x1 : Int32) (x2 : Int32), f_X9_planSail_b84 (f_X9_planSail_b22 n22) σ0 x1 x2 = some o → Bd D cy ad σ0 s.heap H locs → lv_has ls 4 [(0, .ref (ad 0)), (1, .int x1), (2, .int x2)] → W p l e rm_X9_planSail s m ([.ref (ad 0), .int a1] : List Value).toArray below meth c H locs 0 0 (MQ below (CQv D cy ad o) ([.ref (ad 0), .int a1] : List Value).toArray s 0 0 (AA ad)) (F0 m 84 ls []) := by
        intro σ0 H locs ls x1 x2 h hB hl
        unfold f_X9_planSail_b84 at h
        refine lv_iinc (v := (x2 + (1 : Int32))) (lv' := [(2, .int (x2 + (1 : Int32))), (0, .ref (ad 0)), (1, .int x1)]) F.1 F.2.1 dX9_planSail_84 hl (k := 2) rfl rfl (by decide) rfl (fun ls hl => ?_)
        refine lv_goto (tgt := 22) F.1 F.2.1 dX9_planSail_87 (by decide) ?_
        exact ih22 σ0 _ _ _ x1 (x2 + (1 : Int32)) h hB (lv_sub hl [1, 2, 0] rfl)
      have B75 : ∀ (σ0 : Mem) (H : Heap) (locs : List Loc) (ls : Array Slot) (x1 : Int32) (x2 : Int32) (x3 : Int32), f_X9_planSail_b75 (f_X9_planSail_b22 n22) σ0 x1 x2 x3 = some o → Bd D cy ad σ0 s.heap H locs → lv_has ls 4 [(0, .ref (ad 0)), (1, .int x1), (2, .int x2), (3, .int x3)] → W p l e rm_X9_planSail s m ([.ref (ad 0), .int a1] : List Value).toArray below meth c H locs 0 0 (MQ below (CQv D cy ad o) ([.ref (ad 0), .int a1] : List Value).toArray s 0 0 (AA ad)) (F0 m 75 ls []) := by
        intro σ0 H locs ls x1 x2 x3 h hB hl
        unfold f_X9_planSail_b75 at h
        refine lv_aload_n F.1 F.2.1 dX9_planSail_75 rfl (lv_at hl 0 rfl) ?_
        refine gf_RX9_69 F hE hB po_0 rfl dX9_planSail_76 ?_
        refine lv_iload_n F.1 F.2.1 dX9_planSail_79 rfl (lv_at hl 2 rfl) ?_
        refine lv_iload_n F.1 F.2.1 dX9_planSail_80 rfl (lv_at hl 3 rfl) ?_
        obtain ⟨σ15, hc14, h⟩ := bv_e h
        refine q_cv hB (q_goV F hE hB (k_X3_setBest hI σ0 x2 x3 hc14) (ca_RX9_395 F.2.2.2.2 ⟨Nat.le_of_ble_eq_true rfl, Nat.le_of_ble_eq_true rfl⟩) rfl po_61 rfl hl.1 rfl (Nat.le_of_ble_eq_true rfl) dX9_planSail_81 ⟨Nat.le_of_ble_eq_true rfl, Nat.le_of_ble_eq_true rfl⟩) (fun H locs hB => ?_)
        exact B84 σ15 _ _ _ x1 x2 h hB (lv_sub hl [0, 1, 2] rfl)
      intro σ0 H locs ls x1 x2 h hB hl
      rw [f_X9_planSail_b22] at h
      refine lv_iload_n F.1 F.2.1 dX9_planSail_22 rfl (lv_at hl 2 rfl) ?_
      refine lv_bipush (v := 10) F.1 F.2.1 dX9_planSail_23 (by decide) ?_
      refine lv_icmp_ge (tgt := 90) F.1 F.2.1 dX9_planSail_25 (by decide) (fun c5 => ?_) (fun c5 => ?_)
      · replace h := it_e c5 h
        exact q_vret F hlocks hr hB (Option.some.inj h) dX9_planSail_90
      · replace h := ie_e c5 h
        refine lv_aload_n F.1 F.2.1 dX9_planSail_28 rfl (lv_at hl 0 rfl) ?_
        refine gf_RX9_56 F hE hB po_0 rfl dX9_planSail_29 ?_
        refine gf_RX9_354 F hE hB po_52 rfl dX9_planSail_32 ?_
        refine lv_iload_n F.1 F.2.1 dX9_planSail_35 rfl (lv_at hl 1 rfl) ?_
        refine lv_iload_n F.1 F.2.1 dX9_planSail_36 rfl (lv_at hl 2 rfl) ?_
        obtain ⟨hi6, h⟩ := ck_e h
        obtain ⟨σ7, e8, h⟩ := lt_e h
        refine q_iast F hE hI hB row_54 hi6 dX9_planSail_37 e8 (fun H locs hB => ?_)
        refine lv_aload_n F.1 F.2.1 dX9_planSail_38 rfl (lv_at hl 0 rfl) ?_
        refine gf_RX9_56 F hE hB po_0 rfl dX9_planSail_39 ?_
        obtain ⟨σ10, hc9, h⟩ := bv_e h
        refine q_cv hB (q_goV F hE hB (k_X8_run hI σ7 52 (Or.inr rfl) hc9) (ca_RX9_364 F.2.2.2.2 ⟨Nat.le_of_ble_eq_true rfl, Nat.le_of_ble_eq_true rfl⟩) rfl po_52 rfl hl.1 rfl (Nat.le_of_ble_eq_true rfl) dX9_planSail_42 ⟨Nat.le_of_ble_eq_true rfl, Nat.le_of_ble_eq_true rfl⟩) (fun H locs hB => ?_)
        refine lv_aload_n F.1 F.2.1 dX9_planSail_45 rfl (lv_at hl 0 rfl) ?_
        refine gf_RX9_56 F hE hB po_0 rfl dX9_planSail_46 ?_
        obtain ⟨v12, hc11, h⟩ := bp_e h
        refine q_ci hB (q_goV F hE hB (k_X8_allWait hI σ10 52 (Or.inr rfl) hc11) (ca_RX9_284 F.2.2.2.2 ⟨Nat.le_of_ble_eq_true rfl, Nat.le_of_ble_eq_true rfl⟩) rfl po_52 rfl hl.1 rfl (Nat.le_of_ble_eq_true rfl) dX9_planSail_49 ⟨Nat.le_of_ble_eq_true rfl, Nat.le_of_ble_eq_true rfl⟩) (fun H locs hB => ?_)
        refine lv_istore_n (lv' := [(3, .int v12), (0, .ref (ad 0)), (1, .int x1), (2, .int x2)]) F.1 F.2.1 dX9_planSail_52 rfl hl (by decide) rfl (fun ls hl => ?_)
        refine lv_aload_n F.1 F.2.1 dX9_planSail_53 rfl (lv_at hl 1 rfl) ?_
        refine gf_RX9_69 F hE hB po_0 rfl dX9_planSail_54 ?_
        refine gf_RX9_181 F hE hB po_61 rfl dX9_planSail_57 ?_
        refine lv_iconst (v := (-1)) F.1 F.2.1 dX9_planSail_60 (by decide) ?_
        refine lv_icmp_eq (tgt := 75) F.1 F.2.1 dX9_planSail_61 (by decide) (fun c13 => ?_) (fun c13 => ?_)
        · replace h := it_e c13 h
          exact B75 σ10 _ _ _ x1 x2 v12 h hB (lv_sub hl [1, 2, 3, 0] rfl)
        · replace h := ie_e c13 h
          refine lv_iload_n F.1 F.2.1 dX9_planSail_64 rfl (lv_at hl 0 rfl) ?_
          refine lv_aload_n F.1 F.2.1 dX9_planSail_65 rfl (lv_at hl 1 rfl) ?_
          refine gf_RX9_69 F hE hB po_0 rfl dX9_planSail_66 ?_
          refine gf_RX9_184 F hE hB po_61 rfl dX9_planSail_69 ?_
          refine lv_icmp_ge (tgt := 84) F.1 F.2.1 dX9_planSail_72 (by decide) (fun c16 => ?_) (fun c16 => ?_)
          · replace h := it_e c16 h
            exact B84 σ10 _ _ _ x1 x2 h hB (lv_sub hl [1, 2, 3] rfl)
          · replace h := ie_e c16 h
            exact B75 σ10 _ _ _ x1 x2 v12 h hB (lv_sub hl [1, 2, 3, 0] rfl)
  unfold f_X9_planSail at h
  refine lv_aload_n F.1 F.2.1 dX9_planSail_0 rfl (lv_at hl 0 rfl) ?_
  refine gf_RX9_56 F hE hB po_0 rfl dX9_planSail_1 ?_
  refine lv_aload_n F.1 F.2.1 dX9_planSail_4 rfl (lv_at hl 0 rfl) ?_
  refine gf_RX9_52 F hE hB po_0 rfl dX9_planSail_5 ?_
  obtain ⟨σ2, hc1, h⟩ := bv_e h
  refine q_cv hB (q_goV F hE hB (k_X8_takeOver hI σ0 52 (Or.inr rfl) 46 (Or.inl rfl) hc1) (ca_RX9_375 F.2.2.2.2 ⟨Nat.le_of_ble_eq_true rfl, Nat.le_of_ble_eq_true rfl⟩) rfl po_52 rfl hl.1 rfl (Nat.le_of_ble_eq_true rfl) dX9_planSail_8 ⟨Nat.le_of_ble_eq_true rfl, Nat.le_of_ble_eq_true rfl⟩) (fun H locs hB => ?_)
  refine lv_aload_n F.1 F.2.1 dX9_planSail_11 rfl (lv_at hl 0 rfl) ?_
  refine gf_RX9_69 F hE hB po_0 rfl dX9_planSail_12 ?_
  refine lv_iconst (v := (-1)) F.1 F.2.1 dX9_planSail_15 (by decide) ?_
  refine lv_iconst (v := (-1)) F.1 F.2.1 dX9_planSail_16 (by decide) ?_
  obtain ⟨σ4, hc3, h⟩ := bv_e h
  refine q_cv hB (q_goV F hE hB (k_X3_setBest hI σ2 (-1 : Int32) (-1 : Int32) hc3) (ca_RX9_395 F.2.2.2.2 ⟨Nat.le_of_ble_eq_true rfl, Nat.le_of_ble_eq_true rfl⟩) rfl po_61 rfl hl.1 rfl (Nat.le_of_ble_eq_true rfl) dX9_planSail_17 ⟨Nat.le_of_ble_eq_true rfl, Nat.le_of_ble_eq_true rfl⟩) (fun H locs hB => ?_)
  refine lv_iconst (v := 0) F.1 F.2.1 dX9_planSail_20 (by decide) ?_
  refine lv_istore_n (lv' := [(2, .int (0 : Int32)), (0, .ref (ad 0)), (1, .int a1)]) F.1 F.2.1 dX9_planSail_21 rfl hl (by decide) rfl (fun ls hl => ?_)
  exact B22 300 σ4 _ _ _ a1 (0 : Int32) h hB (lv_sub hl [1, 2, 0] rfl)
def f_X9_sail (σ0 : Mem) (a1 : Int32) (a2 : Int32) : Option (Int32 × Mem) := (bp (f_X9_isBoat σ0 a1) (fun v2 => (if v2 = (0 : Int32) then (some ((-2 : Int32), σ0)) else (bp (f_X9_isWithin σ0 a2 (2 : Int32)) (fun v5 => (if v5 = (0 : Int32) then (some ((-2 : Int32), σ0)) else (bv (f_X9_planSail σ0 a1) (fun σ8 => (if a2 = (0 : Int32) then (some ((σ8.1 61 3), σ8)) else (some ((σ8.1 61 4), σ8)))))))))))
set_option maxHeartbeats 4000000 in
set_option maxRecDepth 100000 in
theorem k_X9_sail {l : Launch} {D : va_G} {cy : Nat → ClassId} {ad : Nat → Nat} {ta tb : Nat} (hI : AdI ad) (σ0 : Mem) (a1 : Int32) (a2 : Int32) {o : Int32 × Mem} (h : f_X9_sail σ0 a1 a2 = some o) : Met l yX9_sail (Cond.code yX9_sail cX9_sail 3 (some .int) :: wG) rm_X9_sail (CP D cy ad ta tb σ0 [.ref (ad 0), .int a1, .int a2]) (CQi D cy ad o.1 o.2) 0 0 (AA ad) := by
  refine Met.ofW (cc := cX9_sail) (maxL := 3) (ret := (some .int)) (by decide) rfl ?_
  intro p e s m args below meth c s₁ B hml hv
  obtain ⟨rfl, hE, hP⟩ := hv
  have hts := atoms_spec (ws := Cond.code yX9_sail cX9_sail 3 (some .int) :: wG) B.pre
  have F : CallFix p m c cX9_sail 3 s _ wG RX9 := ⟨B.exec, B.bytes, hml, findClass_of_methodNamed B.named, fun w hw => hts w (List.mem_cons_of_mem _ hw)⟩
  have hr := B.returns
  have hlocks := B.notSynchronized
  have hB : Bd D cy ad σ0 s.heap s.heap [] := ⟨hP, va_S.rf⟩
  have hl := lv_entry ([.ref (ad 0), .int a1, .int a2] : List Value) (n := 3) (Nat.le_of_ble_eq_true rfl)
  rw [lg_entry_eq]
  generalize (lg_sl ([.ref (ad 0), .int a1, .int a2] : List Value) ++ List.replicate (3 - (lg_sl ([.ref (ad 0), .int a1, .int a2] : List Value)).length) Slot.unset).toArray = ls at hl ⊢
  have hl : lv_has ls 3 [(0, .ref (ad 0)), (1, .int a1), (2, .int a2)] := hl
  unfold f_X9_sail at h
  refine lv_aload_n F.1 F.2.1 dX9_sail_0 rfl (lv_at hl 0 rfl) ?_
  refine lv_iload_n F.1 F.2.1 dX9_sail_1 rfl (lv_at hl 1 rfl) ?_
  obtain ⟨v2, hc1, h⟩ := bp_e h
  refine q_ci hB (q_goV F hE hB (k_X9_isBoat hI σ0 a1 hc1) (ca_RX9_114 F.2.2.2.2 ⟨Nat.le_of_ble_eq_true rfl, Nat.le_of_ble_eq_true rfl⟩) rfl po_0 rfl hl.1 rfl (Nat.le_of_ble_eq_true rfl) dX9_sail_2 ⟨Nat.le_of_ble_eq_true rfl, Nat.le_of_ble_eq_true rfl⟩) (fun H locs hB => ?_)
  refine lv_if_eq (tgt := 16) F.1 F.2.1 dX9_sail_5 (by decide) (fun c3 => ?_) (fun c3 => ?_)
  · replace h := it_e c3 h
    refine lv_bipush (v := (-2)) F.1 F.2.1 dX9_sail_16 (by decide) ?_
    exact q_iret F hlocks hr hB (so1 h) (so2 h) dX9_sail_18
  · replace h := ie_e c3 h
    refine lv_iload_n F.1 F.2.1 dX9_sail_8 rfl (lv_at hl 2 rfl) ?_
    refine lv_iconst (v := 2) F.1 F.2.1 dX9_sail_9 (by decide) ?_
    obtain ⟨v5, hc4, h⟩ := bp_e h
    refine q_ci hB (q_goS F hE hB (k_X9_isWithin hI σ0 a2 (2 : Int32) hc4) (ca_RX9_84 F.2.2.2.2 ⟨Nat.le_of_ble_eq_true rfl, Nat.le_of_ble_eq_true rfl⟩) rfl hl.1 rfl (Nat.le_of_ble_eq_true rfl) dX9_sail_10 ⟨Nat.le_of_ble_eq_true rfl, Nat.le_of_ble_eq_true rfl⟩) (fun H locs hB => ?_)
    refine lv_if_ne (tgt := 19) F.1 F.2.1 dX9_sail_13 (by decide) (fun c6 => ?_) (fun c6 => ?_)
    · replace h := ie_e c6 h
      refine lv_aload_n F.1 F.2.1 dX9_sail_19 rfl (lv_at hl 0 rfl) ?_
      refine lv_iload_n F.1 F.2.1 dX9_sail_20 rfl (lv_at hl 1 rfl) ?_
      obtain ⟨σ8, hc7, h⟩ := bv_e h
      refine q_cv hB (q_goV F hE hB (k_X9_planSail hI σ0 a1 hc7) (ca_RX9_178 F.2.2.2.2 ⟨Nat.le_of_ble_eq_true rfl, Nat.le_of_ble_eq_true rfl⟩) rfl po_0 rfl hl.1 rfl (Nat.le_of_ble_eq_true rfl) dX9_sail_21 ⟨Nat.le_of_ble_eq_true rfl, Nat.le_of_ble_eq_true rfl⟩) (fun H locs hB => ?_)
      refine lv_iload_n F.1 F.2.1 dX9_sail_24 rfl (lv_at hl 2 rfl) ?_
      refine lv_if_ne (tgt := 38) F.1 F.2.1 dX9_sail_25 (by decide) (fun c9 => ?_) (fun c9 => ?_)
      · replace h := ie_e c9 h
        refine lv_aload_n F.1 F.2.1 dX9_sail_38 rfl (lv_at hl 0 rfl) ?_
        refine gf_RX9_69 F hE hB po_0 rfl dX9_sail_39 ?_
        refine gf_RX9_184 F hE hB po_61 rfl dX9_sail_42 ?_
        exact q_iret F hlocks hr hB (so1 h) (so2 h) dX9_sail_45
      · replace h := it_e c9 h
        refine lv_aload_n F.1 F.2.1 dX9_sail_28 rfl (lv_at hl 0 rfl) ?_
        refine gf_RX9_69 F hE hB po_0 rfl dX9_sail_29 ?_
        refine gf_RX9_181 F hE hB po_61 rfl dX9_sail_32 ?_
        refine lv_goto (tgt := 45) F.1 F.2.1 dX9_sail_35 (by decide) ?_
        exact q_iret F hlocks hr hB (so1 h) (so2 h) dX9_sail_45
    · replace h := it_e c6 h
      refine lv_bipush (v := (-2)) F.1 F.2.1 dX9_sail_16 (by decide) ?_
      exact q_iret F hlocks hr hB (so1 h) (so2 h) dX9_sail_18
def f_X9_planAway_b107 (k13 : Mem → Int32 → Int32 → Option (Mem)) (σ0 : Mem) (x1 : Int32) (x2 : Int32) : Option (Mem) := (k13 σ0 x1 (x2 + (1 : Int32)))
def f_X9_planAway_b95 (k13 : Mem → Int32 → Int32 → Option (Mem)) (σ0 : Mem) (x2 : Int32) (x3 : Int32) (x4 : Int32) : Option (Mem) := (bv (f_X3_setBest σ0 x2 x3) (fun σ16 => (f_X9_planAway_b107 k13 σ16 x4 x2)))
def f_X9_planAway_b13 : Nat → Mem → Int32 → Int32 → Option (Mem)
  | 0, _, _, _ => none
  | n13 + 1, σ0, x1, x2 => (if (σ0.1 6 3) ≤ x2 then (some σ0) else (bv (f_X8_takeOver σ0 52 46) (fun σ5 => (bv (f_X8_takeAway σ5 52 x2) (fun σ7 => (bv (f_X8_run σ7 52) (fun σ9 => (bp (f_X8_throughCount σ9 52) (fun v11 => (bp (f_X8_allWait σ9 52) (fun v13 => (if (σ9.1 61 4) < v11 then (f_X9_planAway_b95 (f_X9_planAway_b13 n13) σ9 x2 v11 v13) else (if v11 = (σ9.1 61 4) then (if x1 ≤ v13 then (f_X9_planAway_b107 (f_X9_planAway_b13 n13) σ9 x1 x2) else (f_X9_planAway_b95 (f_X9_planAway_b13 n13) σ9 x2 v11 v13)) else (f_X9_planAway_b107 (f_X9_planAway_b13 n13) σ9 x1 x2))))))))))))))
def f_X9_planAway (σ0 : Mem) : Option (Mem) := (bv (f_X3_setBest σ0 (-1 : Int32) (-1 : Int32)) (fun σ2 => (f_X9_planAway_b13 300 σ2 (0 : Int32) (0 : Int32))))
set_option maxHeartbeats 4000000 in
set_option maxRecDepth 100000 in
theorem k_X9_planAway {l : Launch} {D : va_G} {cy : Nat → ClassId} {ad : Nat → Nat} {ta tb : Nat} (hI : AdI ad) (σ0 : Mem) {o : Mem} (h : f_X9_planAway σ0 = some o) : Met l yX9_planAway (Cond.code yX9_planAway cX9_planAway 5 none :: wG) rm_X9_planAway (CP D cy ad ta tb σ0 [.ref (ad 0)]) (CQv D cy ad o) 0 0 (AA ad) := by
  refine Met.ofW (cc := cX9_planAway) (maxL := 5) (ret := none) (by decide) rfl ?_
  intro p e s m args below meth c s₁ B hml hv
  obtain ⟨rfl, hE, hP⟩ := hv
  have hts := atoms_spec (ws := Cond.code yX9_planAway cX9_planAway 5 none :: wG) B.pre
  have F : CallFix p m c cX9_planAway 5 s _ wG RX9 := ⟨B.exec, B.bytes, hml, findClass_of_methodNamed B.named, fun w hw => hts w (List.mem_cons_of_mem _ hw)⟩
  have hr := B.returns
  have hlocks := B.notSynchronized
  have hB : Bd D cy ad σ0 s.heap s.heap [] := ⟨hP, va_S.rf⟩
  have hl := lv_entry ([.ref (ad 0)] : List Value) (n := 5) (Nat.le_of_ble_eq_true rfl)
  rw [lg_entry_eq]
  generalize (lg_sl ([.ref (ad 0)] : List Value) ++ List.replicate (5 - (lg_sl ([.ref (ad 0)] : List Value)).length) Slot.unset).toArray = ls at hl ⊢
  have hl : lv_has ls 5 [(0, .ref (ad 0))] := hl
  have B13 : ∀ (n13 : Nat) (σ0 : Mem) (H : Heap) (locs : List Loc) (ls : Array Slot) (x1 : Int32) (x2 : Int32), f_X9_planAway_b13 n13 σ0 x1 x2 = some o → Bd D cy ad σ0 s.heap H locs → lv_has ls 5 [(0, .ref (ad 0)), (1, .int x1), (2, .int x2)] → W p l e rm_X9_planAway s m ([.ref (ad 0)] : List Value).toArray below meth c H locs 0 0 (MQ below (CQv D cy ad o) ([.ref (ad 0)] : List Value).toArray s 0 0 (AA ad)) (F0 m 13 ls []) := by
    intro n13
    induction n13 with
    | zero => intro σ0 H locs ls x1 x2 h hB hl; cases h
    | succ n13 ih13 =>
      have B107 : ∀ (σ0 : Mem) (H : Heap) (locs : List Loc) (ls : Array Slot) (x1 : Int32) (x2 : Int32), f_X9_planAway_b107 (f_X9_planAway_b13 n13) σ0 x1 x2 = some o → Bd D cy ad σ0 s.heap H locs → lv_has ls 5 [(0, .ref (ad 0)), (1, .int x1), (2, .int x2)] → W p l e rm_X9_planAway s m ([.ref (ad 0)] : List Value).toArray below meth c H locs 0 0 (MQ below (CQv D cy ad o) ([.ref (ad 0)] : List Value).toArray s 0 0 (AA ad)) (F0 m 107 ls []) := by
        intro σ0 H locs ls x1 x2 h hB hl
        unfold f_X9_planAway_b107 at h
        refine lv_iinc (v := (x2 + (1 : Int32))) (lv' := [(2, .int (x2 + (1 : Int32))), (0, .ref (ad 0)), (1, .int x1)]) F.1 F.2.1 dX9_planAway_107 hl (k := 2) rfl rfl (by decide) rfl (fun ls hl => ?_)
        refine lv_goto (tgt := 13) F.1 F.2.1 dX9_planAway_110 (by decide) ?_
        exact ih13 σ0 _ _ _ x1 (x2 + (1 : Int32)) h hB (lv_sub hl [1, 2, 0] rfl)
      have B95 : ∀ (σ0 : Mem) (H : Heap) (locs : List Loc) (ls : Array Slot) (x2 : Int32) (x3 : Int32) (x4 : Int32), f_X9_planAway_b95 (f_X9_planAway_b13 n13) σ0 x2 x3 x4 = some o → Bd D cy ad σ0 s.heap H locs → lv_has ls 5 [(0, .ref (ad 0)), (2, .int x2), (3, .int x3), (4, .int x4)] → W p l e rm_X9_planAway s m ([.ref (ad 0)] : List Value).toArray below meth c H locs 0 0 (MQ below (CQv D cy ad o) ([.ref (ad 0)] : List Value).toArray s 0 0 (AA ad)) (F0 m 95 ls []) := by
        intro σ0 H locs ls x2 x3 x4 h hB hl
        unfold f_X9_planAway_b95 at h
        refine lv_aload_n F.1 F.2.1 dX9_planAway_95 rfl (lv_at hl 0 rfl) ?_
        refine gf_RX9_69 F hE hB po_0 rfl dX9_planAway_96 ?_
        refine lv_iload_n F.1 F.2.1 dX9_planAway_99 rfl (lv_at hl 1 rfl) ?_
        refine lv_iload_n F.1 F.2.1 dX9_planAway_100 rfl (lv_at hl 2 rfl) ?_
        obtain ⟨σ16, hc15, h⟩ := bv_e h
        refine q_cv hB (q_goV F hE hB (k_X3_setBest hI σ0 x2 x3 hc15) (ca_RX9_395 F.2.2.2.2 ⟨Nat.le_of_ble_eq_true rfl, Nat.le_of_ble_eq_true rfl⟩) rfl po_61 rfl hl.1 rfl (Nat.le_of_ble_eq_true rfl) dX9_planAway_101 ⟨Nat.le_of_ble_eq_true rfl, Nat.le_of_ble_eq_true rfl⟩) (fun H locs hB => ?_)
        refine lv_iload F.1 F.2.1 dX9_planAway_104 (lv_at hl 3 rfl) ?_
        refine lv_istore_n (lv' := [(1, .int x4), (0, .ref (ad 0)), (2, .int x2), (3, .int x3), (4, .int x4)]) F.1 F.2.1 dX9_planAway_106 rfl hl (by decide) rfl (fun ls hl => ?_)
        exact B107 σ16 _ _ _ x4 x2 h hB (lv_sub hl [1, 0, 2] rfl)
      intro σ0 H locs ls x1 x2 h hB hl
      rw [f_X9_planAway_b13] at h
      refine lv_iload_n F.1 F.2.1 dX9_planAway_13 rfl (lv_at hl 2 rfl) ?_
      refine lv_aload_n F.1 F.2.1 dX9_planAway_14 rfl (lv_at hl 0 rfl) ?_
      refine gf_RX9_18 F hE hB po_0 rfl dX9_planAway_15 ?_
      refine gf_RX9_279 F hE hB po_6 rfl dX9_planAway_18 ?_
      refine lv_icmp_ge (tgt := 113) F.1 F.2.1 dX9_planAway_21 (by decide) (fun c3 => ?_) (fun c3 => ?_)
      · replace h := it_e c3 h
        exact q_vret F hlocks hr hB (Option.some.inj h) dX9_planAway_113
      · replace h := ie_e c3 h
        refine lv_aload_n F.1 F.2.1 dX9_planAway_24 rfl (lv_at hl 0 rfl) ?_
        refine gf_RX9_56 F hE hB po_0 rfl dX9_planAway_25 ?_
        refine lv_aload_n F.1 F.2.1 dX9_planAway_28 rfl (lv_at hl 0 rfl) ?_
        refine gf_RX9_52 F hE hB po_0 rfl dX9_planAway_29 ?_
        obtain ⟨σ5, hc4, h⟩ := bv_e h
        refine q_cv hB (q_goV F hE hB (k_X8_takeOver hI σ0 52 (Or.inr rfl) 46 (Or.inl rfl) hc4) (ca_RX9_375 F.2.2.2.2 ⟨Nat.le_of_ble_eq_true rfl, Nat.le_of_ble_eq_true rfl⟩) rfl po_52 rfl hl.1 rfl (Nat.le_of_ble_eq_true rfl) dX9_planAway_32 ⟨Nat.le_of_ble_eq_true rfl, Nat.le_of_ble_eq_true rfl⟩) (fun H locs hB => ?_)
        refine lv_aload_n F.1 F.2.1 dX9_planAway_35 rfl (lv_at hl 0 rfl) ?_
        refine gf_RX9_56 F hE hB po_0 rfl dX9_planAway_36 ?_
        refine lv_iload_n F.1 F.2.1 dX9_planAway_39 rfl (lv_at hl 2 rfl) ?_
        obtain ⟨σ7, hc6, h⟩ := bv_e h
        refine q_cv hB (q_goV F hE hB (k_X8_takeAway hI σ5 52 (Or.inr rfl) x2 hc6) (ca_RX9_398 F.2.2.2.2 ⟨Nat.le_of_ble_eq_true rfl, Nat.le_of_ble_eq_true rfl⟩) rfl po_52 rfl hl.1 rfl (Nat.le_of_ble_eq_true rfl) dX9_planAway_40 ⟨Nat.le_of_ble_eq_true rfl, Nat.le_of_ble_eq_true rfl⟩) (fun H locs hB => ?_)
        refine lv_aload_n F.1 F.2.1 dX9_planAway_43 rfl (lv_at hl 0 rfl) ?_
        refine gf_RX9_56 F hE hB po_0 rfl dX9_planAway_44 ?_
        obtain ⟨σ9, hc8, h⟩ := bv_e h
        refine q_cv hB (q_goV F hE hB (k_X8_run hI σ7 52 (Or.inr rfl) hc8) (ca_RX9_364 F.2.2.2.2 ⟨Nat.le_of_ble_eq_true rfl, Nat.le_of_ble_eq_true rfl⟩) rfl po_52 rfl hl.1 rfl (Nat.le_of_ble_eq_true rfl) dX9_planAway_47 ⟨Nat.le_of_ble_eq_true rfl, Nat.le_of_ble_eq_true rfl⟩) (fun H locs hB => ?_)
        refine lv_aload_n F.1 F.2.1 dX9_planAway_50 rfl (lv_at hl 0 rfl) ?_
        refine gf_RX9_56 F hE hB po_0 rfl dX9_planAway_51 ?_
        obtain ⟨v11, hc10, h⟩ := bp_e h
        refine q_ci hB (q_goV F hE hB (k_X8_throughCount hI σ9 52 (Or.inr rfl) hc10) (ca_RX9_280 F.2.2.2.2 ⟨Nat.le_of_ble_eq_true rfl, Nat.le_of_ble_eq_true rfl⟩) rfl po_52 rfl hl.1 rfl (Nat.le_of_ble_eq_true rfl) dX9_planAway_54 ⟨Nat.le_of_ble_eq_true rfl, Nat.le_of_ble_eq_true rfl⟩) (fun H locs hB => ?_)
        refine lv_istore_n (lv' := [(3, .int v11), (0, .ref (ad 0)), (1, .int x1), (2, .int x2)]) F.1 F.2.1 dX9_planAway_57 rfl hl (by decide) rfl (fun ls hl => ?_)
        refine lv_aload_n F.1 F.2.1 dX9_planAway_58 rfl (lv_at hl 1 rfl) ?_
        refine gf_RX9_56 F hE hB po_0 rfl dX9_planAway_59 ?_
        obtain ⟨v13, hc12, h⟩ := bp_e h
        refine q_ci hB (q_goV F hE hB (k_X8_allWait hI σ9 52 (Or.inr rfl) hc12) (ca_RX9_284 F.2.2.2.2 ⟨Nat.le_of_ble_eq_true rfl, Nat.le_of_ble_eq_true rfl⟩) rfl po_52 rfl hl.1 rfl (Nat.le_of_ble_eq_true rfl) dX9_planAway_62 ⟨Nat.le_of_ble_eq_true rfl, Nat.le_of_ble_eq_true rfl⟩) (fun H locs hB => ?_)
        refine lv_istore (lv' := [(4, .int v13), (3, .int v11), (0, .ref (ad 0)), (1, .int x1), (2, .int x2)]) F.1 F.2.1 dX9_planAway_65 hl (by decide) rfl (fun ls hl => ?_)
        refine lv_iload_n F.1 F.2.1 dX9_planAway_67 rfl (lv_at hl 1 rfl) ?_
        refine lv_aload_n F.1 F.2.1 dX9_planAway_68 rfl (lv_at hl 2 rfl) ?_
        refine gf_RX9_69 F hE hB po_0 rfl dX9_planAway_69 ?_
        refine gf_RX9_184 F hE hB po_61 rfl dX9_planAway_72 ?_
        refine lv_icmp_gt (tgt := 95) F.1 F.2.1 dX9_planAway_75 (by decide) (fun c14 => ?_) (fun c14 => ?_)
        · replace h := it_e c14 h
          exact B95 σ9 _ _ _ x2 v11 v13 h hB (lv_sub hl [2, 4, 1, 0] rfl)
        · replace h := ie_e c14 h
          refine lv_iload_n F.1 F.2.1 dX9_planAway_78 rfl (lv_at hl 1 rfl) ?_
          refine lv_aload_n F.1 F.2.1 dX9_planAway_79 rfl (lv_at hl 2 rfl) ?_
          refine gf_RX9_69 F hE hB po_0 rfl dX9_planAway_80 ?_
          refine gf_RX9_184 F hE hB po_61 rfl dX9_planAway_83 ?_
          refine lv_icmp_ne (tgt := 107) F.1 F.2.1 dX9_planAway_86 (by decide) (fun c17 => ?_) (fun c17 => ?_)
          · replace h := ie_e c17 h
            exact B107 σ9 _ _ _ x1 x2 h hB (lv_sub hl [2, 3, 4] rfl)
          · replace h := it_e c17 h
            refine lv_iload F.1 F.2.1 dX9_planAway_89 (lv_at hl 0 rfl) ?_
            refine lv_iload_n F.1 F.2.1 dX9_planAway_91 rfl (lv_at hl 3 rfl) ?_
            refine lv_icmp_ge (tgt := 107) F.1 F.2.1 dX9_planAway_92 (by decide) (fun c18 => ?_) (fun c18 => ?_)
            · replace h := it_e c18 h
              exact B107 σ9 _ _ _ x1 x2 h hB (lv_sub hl [2, 3, 4] rfl)
            · replace h := ie_e c18 h
              exact B95 σ9 _ _ _ x2 v11 v13 h hB (lv_sub hl [2, 4, 1, 0] rfl)
  unfold f_X9_planAway at h
  refine lv_aload_n F.1 F.2.1 dX9_planAway_0 rfl (lv_at hl 0 rfl) ?_
  refine gf_RX9_69 F hE hB po_0 rfl dX9_planAway_1 ?_
  refine lv_iconst (v := (-1)) F.1 F.2.1 dX9_planAway_4 (by decide) ?_
  refine lv_iconst (v := (-1)) F.1 F.2.1 dX9_planAway_5 (by decide) ?_
  obtain ⟨σ2, hc1, h⟩ := bv_e h
  refine q_cv hB (q_goV F hE hB (k_X3_setBest hI σ0 (-1 : Int32) (-1 : Int32) hc1) (ca_RX9_395 F.2.2.2.2 ⟨Nat.le_of_ble_eq_true rfl, Nat.le_of_ble_eq_true rfl⟩) rfl po_61 rfl hl.1 rfl (Nat.le_of_ble_eq_true rfl) dX9_planAway_6 ⟨Nat.le_of_ble_eq_true rfl, Nat.le_of_ble_eq_true rfl⟩) (fun H locs hB => ?_)
  refine lv_iconst (v := 0) F.1 F.2.1 dX9_planAway_9 (by decide) ?_
  refine lv_istore_n (lv' := [(1, .int (0 : Int32)), (0, .ref (ad 0))]) F.1 F.2.1 dX9_planAway_10 rfl hl (by decide) rfl (fun ls hl => ?_)
  refine lv_iconst (v := 0) F.1 F.2.1 dX9_planAway_11 (by decide) ?_
  refine lv_istore_n (lv' := [(2, .int (0 : Int32)), (1, .int (0 : Int32)), (0, .ref (ad 0))]) F.1 F.2.1 dX9_planAway_12 rfl hl (by decide) rfl (fun ls hl => ?_)
  exact B13 300 σ2 _ _ _ (0 : Int32) (0 : Int32) h hB (lv_sub hl [2, 1, 0] rfl)
def f_X9_away (σ0 : Mem) (a1 : Int32) : Option (Int32 × Mem) := (bp (f_X9_isWithin σ0 a1 (2 : Int32)) (fun v2 => (if v2 = (0 : Int32) then (some ((-2 : Int32), σ0)) else (bv (f_X9_planAway σ0) (fun σ5 => (if a1 = (0 : Int32) then (some ((σ5.1 61 3), σ5)) else (some ((σ5.1 61 4), σ5))))))))
set_option maxHeartbeats 4000000 in
set_option maxRecDepth 100000 in
theorem k_X9_away {l : Launch} {D : va_G} {cy : Nat → ClassId} {ad : Nat → Nat} {ta tb : Nat} (hI : AdI ad) (σ0 : Mem) (a1 : Int32) {o : Int32 × Mem} (h : f_X9_away σ0 a1 = some o) : Met l yX9_away (Cond.code yX9_away cX9_away 2 (some .int) :: wG) rm_X9_away (CP D cy ad ta tb σ0 [.ref (ad 0), .int a1]) (CQi D cy ad o.1 o.2) 0 0 (AA ad) := by
  refine Met.ofW (cc := cX9_away) (maxL := 2) (ret := (some .int)) (by decide) rfl ?_
  intro p e s m args below meth c s₁ B hml hv
  obtain ⟨rfl, hE, hP⟩ := hv
  have hts := atoms_spec (ws := Cond.code yX9_away cX9_away 2 (some .int) :: wG) B.pre
  have F : CallFix p m c cX9_away 2 s _ wG RX9 := ⟨B.exec, B.bytes, hml, findClass_of_methodNamed B.named, fun w hw => hts w (List.mem_cons_of_mem _ hw)⟩
  have hr := B.returns
  have hlocks := B.notSynchronized
  have hB : Bd D cy ad σ0 s.heap s.heap [] := ⟨hP, va_S.rf⟩
  have hl := lv_entry ([.ref (ad 0), .int a1] : List Value) (n := 2) (Nat.le_of_ble_eq_true rfl)
  rw [lg_entry_eq]
  generalize (lg_sl ([.ref (ad 0), .int a1] : List Value) ++ List.replicate (2 - (lg_sl ([.ref (ad 0), .int a1] : List Value)).length) Slot.unset).toArray = ls at hl ⊢
  have hl : lv_has ls 2 [(0, .ref (ad 0)), (1, .int a1)] := hl
  unfold f_X9_away at h
  refine lv_iload_n F.1 F.2.1 dX9_away_0 rfl (lv_at hl 1 rfl) ?_
  refine lv_iconst (v := 2) F.1 F.2.1 dX9_away_1 (by decide) ?_
  obtain ⟨v2, hc1, h⟩ := bp_e h
  refine q_ci hB (q_goS F hE hB (k_X9_isWithin hI σ0 a1 (2 : Int32) hc1) (ca_RX9_84 F.2.2.2.2 ⟨Nat.le_of_ble_eq_true rfl, Nat.le_of_ble_eq_true rfl⟩) rfl hl.1 rfl (Nat.le_of_ble_eq_true rfl) dX9_away_2 ⟨Nat.le_of_ble_eq_true rfl, Nat.le_of_ble_eq_true rfl⟩) (fun H locs hB => ?_)
  refine lv_if_ne (tgt := 11) F.1 F.2.1 dX9_away_5 (by decide) (fun c3 => ?_) (fun c3 => ?_)
  · replace h := ie_e c3 h
    refine lv_aload_n F.1 F.2.1 dX9_away_11 rfl (lv_at hl 0 rfl) ?_
    obtain ⟨σ5, hc4, h⟩ := bv_e h
    refine q_cv hB (q_goV F hE hB (k_X9_planAway hI σ0 hc4) (ca_RX9_187 F.2.2.2.2 ⟨Nat.le_of_ble_eq_true rfl, Nat.le_of_ble_eq_true rfl⟩) rfl po_0 rfl hl.1 rfl (Nat.le_of_ble_eq_true rfl) dX9_away_12 ⟨Nat.le_of_ble_eq_true rfl, Nat.le_of_ble_eq_true rfl⟩) (fun H locs hB => ?_)
    refine lv_iload_n F.1 F.2.1 dX9_away_15 rfl (lv_at hl 1 rfl) ?_
    refine lv_if_ne (tgt := 29) F.1 F.2.1 dX9_away_16 (by decide) (fun c6 => ?_) (fun c6 => ?_)
    · replace h := ie_e c6 h
      refine lv_aload_n F.1 F.2.1 dX9_away_29 rfl (lv_at hl 0 rfl) ?_
      refine gf_RX9_69 F hE hB po_0 rfl dX9_away_30 ?_
      refine gf_RX9_184 F hE hB po_61 rfl dX9_away_33 ?_
      exact q_iret F hlocks hr hB (so1 h) (so2 h) dX9_away_36
    · replace h := it_e c6 h
      refine lv_aload_n F.1 F.2.1 dX9_away_19 rfl (lv_at hl 0 rfl) ?_
      refine gf_RX9_69 F hE hB po_0 rfl dX9_away_20 ?_
      refine gf_RX9_181 F hE hB po_61 rfl dX9_away_23 ?_
      refine lv_goto (tgt := 36) F.1 F.2.1 dX9_away_26 (by decide) ?_
      exact q_iret F hlocks hr hB (so1 h) (so2 h) dX9_away_36
  · replace h := it_e c3 h
    refine lv_bipush (v := (-2)) F.1 F.2.1 dX9_away_8 (by decide) ?_
    exact q_iret F hlocks hr hB (so1 h) (so2 h) dX9_away_10
def f_X9_seen (σ0 : Mem) (a1 : Int32) (a2 : Int32) (a3 : Int32) : Option (Int32 × Mem) := (bp (f_X9_isWithin σ0 a1 (100 : Int32)) (fun v2 => (if v2 = (0 : Int32) then (some ((-2 : Int32), σ0)) else (bp (f_X9_isWithin σ0 a2 (8 : Int32)) (fun v5 => (if v5 = (0 : Int32) then (some ((-2 : Int32), σ0)) else (bp (f_X9_isWithin σ0 a3 (9 : Int32)) (fun v8 => (if v8 = (0 : Int32) then (some ((-2 : Int32), σ0)) else (bp (f_X6_isFull σ0) (fun v11 => (if v11 = (0 : Int32) then (bv (f_X6_append σ0 a1 a2 a3) (fun σ14 => (some ((σ14.1 33 3), σ14)))) else (some ((-4 : Int32), σ0))))))))))))))
set_option maxHeartbeats 4000000 in
set_option maxRecDepth 100000 in
theorem k_X9_seen {l : Launch} {D : va_G} {cy : Nat → ClassId} {ad : Nat → Nat} {ta tb : Nat} (hI : AdI ad) (σ0 : Mem) (a1 : Int32) (a2 : Int32) (a3 : Int32) {o : Int32 × Mem} (h : f_X9_seen σ0 a1 a2 a3 = some o) : Met l yX9_seen (Cond.code yX9_seen cX9_seen 4 (some .int) :: wG) rm_X9_seen (CP D cy ad ta tb σ0 [.ref (ad 0), .int a1, .int a2, .int a3]) (CQi D cy ad o.1 o.2) 0 0 (AA ad) := by
  refine Met.ofW (cc := cX9_seen) (maxL := 4) (ret := (some .int)) (by decide) rfl ?_
  intro p e s m args below meth c s₁ B hml hv
  obtain ⟨rfl, hE, hP⟩ := hv
  have hts := atoms_spec (ws := Cond.code yX9_seen cX9_seen 4 (some .int) :: wG) B.pre
  have F : CallFix p m c cX9_seen 4 s _ wG RX9 := ⟨B.exec, B.bytes, hml, findClass_of_methodNamed B.named, fun w hw => hts w (List.mem_cons_of_mem _ hw)⟩
  have hr := B.returns
  have hlocks := B.notSynchronized
  have hB : Bd D cy ad σ0 s.heap s.heap [] := ⟨hP, va_S.rf⟩
  have hl := lv_entry ([.ref (ad 0), .int a1, .int a2, .int a3] : List Value) (n := 4) (Nat.le_of_ble_eq_true rfl)
  rw [lg_entry_eq]
  generalize (lg_sl ([.ref (ad 0), .int a1, .int a2, .int a3] : List Value) ++ List.replicate (4 - (lg_sl ([.ref (ad 0), .int a1, .int a2, .int a3] : List Value)).length) Slot.unset).toArray = ls at hl ⊢
  have hl : lv_has ls 4 [(0, .ref (ad 0)), (1, .int a1), (2, .int a2), (3, .int a3)] := hl
  unfold f_X9_seen at h
  refine lv_iload_n F.1 F.2.1 dX9_seen_0 rfl (lv_at hl 1 rfl) ?_
  refine lv_bipush (v := 100) F.1 F.2.1 dX9_seen_1 (by decide) ?_
  obtain ⟨v2, hc1, h⟩ := bp_e h
  refine q_ci hB (q_goS F hE hB (k_X9_isWithin hI σ0 a1 (100 : Int32) hc1) (ca_RX9_84 F.2.2.2.2 ⟨Nat.le_of_ble_eq_true rfl, Nat.le_of_ble_eq_true rfl⟩) rfl hl.1 rfl (Nat.le_of_ble_eq_true rfl) dX9_seen_3 ⟨Nat.le_of_ble_eq_true rfl, Nat.le_of_ble_eq_true rfl⟩) (fun H locs hB => ?_)
  refine lv_if_eq (tgt := 27) F.1 F.2.1 dX9_seen_6 (by decide) (fun c3 => ?_) (fun c3 => ?_)
  · replace h := it_e c3 h
    refine lv_bipush (v := (-2)) F.1 F.2.1 dX9_seen_27 (by decide) ?_
    exact q_iret F hlocks hr hB (so1 h) (so2 h) dX9_seen_29
  · replace h := ie_e c3 h
    refine lv_iload_n F.1 F.2.1 dX9_seen_9 rfl (lv_at hl 2 rfl) ?_
    refine lv_bipush (v := 8) F.1 F.2.1 dX9_seen_10 (by decide) ?_
    obtain ⟨v5, hc4, h⟩ := bp_e h
    refine q_ci hB (q_goS F hE hB (k_X9_isWithin hI σ0 a2 (8 : Int32) hc4) (ca_RX9_84 F.2.2.2.2 ⟨Nat.le_of_ble_eq_true rfl, Nat.le_of_ble_eq_true rfl⟩) rfl hl.1 rfl (Nat.le_of_ble_eq_true rfl) dX9_seen_12 ⟨Nat.le_of_ble_eq_true rfl, Nat.le_of_ble_eq_true rfl⟩) (fun H locs hB => ?_)
    refine lv_if_eq (tgt := 27) F.1 F.2.1 dX9_seen_15 (by decide) (fun c6 => ?_) (fun c6 => ?_)
    · replace h := it_e c6 h
      refine lv_bipush (v := (-2)) F.1 F.2.1 dX9_seen_27 (by decide) ?_
      exact q_iret F hlocks hr hB (so1 h) (so2 h) dX9_seen_29
    · replace h := ie_e c6 h
      refine lv_iload_n F.1 F.2.1 dX9_seen_18 rfl (lv_at hl 3 rfl) ?_
      refine lv_bipush (v := 9) F.1 F.2.1 dX9_seen_19 (by decide) ?_
      obtain ⟨v8, hc7, h⟩ := bp_e h
      refine q_ci hB (q_goS F hE hB (k_X9_isWithin hI σ0 a3 (9 : Int32) hc7) (ca_RX9_84 F.2.2.2.2 ⟨Nat.le_of_ble_eq_true rfl, Nat.le_of_ble_eq_true rfl⟩) rfl hl.1 rfl (Nat.le_of_ble_eq_true rfl) dX9_seen_21 ⟨Nat.le_of_ble_eq_true rfl, Nat.le_of_ble_eq_true rfl⟩) (fun H locs hB => ?_)
      refine lv_if_ne (tgt := 30) F.1 F.2.1 dX9_seen_24 (by decide) (fun c9 => ?_) (fun c9 => ?_)
      · replace h := ie_e c9 h
        refine lv_aload_n F.1 F.2.1 dX9_seen_30 rfl (lv_at hl 0 rfl) ?_
        refine gf_RX9_39 F hE hB po_0 rfl dX9_seen_31 ?_
        obtain ⟨v11, hc10, h⟩ := bp_e h
        refine q_ci hB (q_goV F hE hB (k_X6_isFull hI σ0 hc10) (ca_RX9_190 F.2.2.2.2 ⟨Nat.le_of_ble_eq_true rfl, Nat.le_of_ble_eq_true rfl⟩) rfl po_33 rfl hl.1 rfl (Nat.le_of_ble_eq_true rfl) dX9_seen_34 ⟨Nat.le_of_ble_eq_true rfl, Nat.le_of_ble_eq_true rfl⟩) (fun H locs hB => ?_)
        refine lv_if_eq (tgt := 43) F.1 F.2.1 dX9_seen_37 (by decide) (fun c12 => ?_) (fun c12 => ?_)
        · replace h := it_e c12 h
          refine lv_aload_n F.1 F.2.1 dX9_seen_43 rfl (lv_at hl 0 rfl) ?_
          refine gf_RX9_39 F hE hB po_0 rfl dX9_seen_44 ?_
          refine lv_iload_n F.1 F.2.1 dX9_seen_47 rfl (lv_at hl 1 rfl) ?_
          refine lv_iload_n F.1 F.2.1 dX9_seen_48 rfl (lv_at hl 2 rfl) ?_
          refine lv_iload_n F.1 F.2.1 dX9_seen_49 rfl (lv_at hl 3 rfl) ?_
          obtain ⟨σ14, hc13, h⟩ := bv_e h
          refine q_cv hB (q_goV F hE hB (k_X6_append hI σ0 a1 a2 a3 hc13) (ca_RX9_191 F.2.2.2.2 ⟨Nat.le_of_ble_eq_true rfl, Nat.le_of_ble_eq_true rfl⟩) rfl po_33 rfl hl.1 rfl (Nat.le_of_ble_eq_true rfl) dX9_seen_50 ⟨Nat.le_of_ble_eq_true rfl, Nat.le_of_ble_eq_true rfl⟩) (fun H locs hB => ?_)
          refine lv_aload_n F.1 F.2.1 dX9_seen_53 rfl (lv_at hl 0 rfl) ?_
          refine gf_RX9_39 F hE hB po_0 rfl dX9_seen_54 ?_
          refine gf_RX9_194 F hE hB po_33 rfl dX9_seen_57 ?_
          exact q_iret F hlocks hr hB (so1 h) (so2 h) dX9_seen_60
        · replace h := ie_e c12 h
          refine lv_bipush (v := (-4)) F.1 F.2.1 dX9_seen_40 (by decide) ?_
          exact q_iret F hlocks hr hB (so1 h) (so2 h) dX9_seen_42
      · replace h := it_e c9 h
        refine lv_bipush (v := (-2)) F.1 F.2.1 dX9_seen_27 (by decide) ?_
        exact q_iret F hlocks hr hB (so1 h) (so2 h) dX9_seen_29
def f_X9_forget (σ0 : Mem) : Option (Int32 × Mem) := (lt (ms σ0 33 3 (0 : Int32)) (fun σ1 => (some ((σ0.1 33 3), σ1))))
set_option maxHeartbeats 4000000 in
set_option maxRecDepth 100000 in
theorem k_X9_forget {l : Launch} {D : va_G} {cy : Nat → ClassId} {ad : Nat → Nat} {ta tb : Nat} (hI : AdI ad) (σ0 : Mem) {o : Int32 × Mem} (h : f_X9_forget σ0 = some o) : Met l yX9_forget (Cond.code yX9_forget cX9_forget 2 (some .int) :: wG) rm_X9_forget (CP D cy ad ta tb σ0 [.ref (ad 0)]) (CQi D cy ad o.1 o.2) 0 0 (AA ad) := by
  refine Met.ofW (cc := cX9_forget) (maxL := 2) (ret := (some .int)) (by decide) rfl ?_
  intro p e s m args below meth c s₁ B hml hv
  obtain ⟨rfl, hE, hP⟩ := hv
  have hts := atoms_spec (ws := Cond.code yX9_forget cX9_forget 2 (some .int) :: wG) B.pre
  have F : CallFix p m c cX9_forget 2 s _ wG RX9 := ⟨B.exec, B.bytes, hml, findClass_of_methodNamed B.named, fun w hw => hts w (List.mem_cons_of_mem _ hw)⟩
  have hr := B.returns
  have hlocks := B.notSynchronized
  have hB : Bd D cy ad σ0 s.heap s.heap [] := ⟨hP, va_S.rf⟩
  have hl := lv_entry ([.ref (ad 0)] : List Value) (n := 2) (Nat.le_of_ble_eq_true rfl)
  rw [lg_entry_eq]
  generalize (lg_sl ([.ref (ad 0)] : List Value) ++ List.replicate (2 - (lg_sl ([.ref (ad 0)] : List Value)).length) Slot.unset).toArray = ls at hl ⊢
  have hl : lv_has ls 2 [(0, .ref (ad 0))] := hl
  unfold f_X9_forget at h
  refine lv_aload_n F.1 F.2.1 dX9_forget_0 rfl (lv_at hl 0 rfl) ?_
  refine gf_RX9_39 F hE hB po_0 rfl dX9_forget_1 ?_
  refine gf_RX9_194 F hE hB po_33 rfl dX9_forget_4 ?_
  refine lv_istore_n (lv' := [(1, .int (σ0.1 33 3)), (0, .ref (ad 0))]) F.1 F.2.1 dX9_forget_7 rfl hl (by decide) rfl (fun ls hl => ?_)
  refine lv_aload_n F.1 F.2.1 dX9_forget_8 rfl (lv_at hl 1 rfl) ?_
  refine gf_RX9_39 F hE hB po_0 rfl dX9_forget_9 ?_
  refine lv_iconst (v := 0) F.1 F.2.1 dX9_forget_12 (by decide) ?_
  obtain ⟨σ1, e2, h⟩ := lt_e h
  refine pf_RX9_194 F hE hI hB po_33 rfl rfl (Nat.le_of_ble_eq_true rfl) rfl dX9_forget_13 e2 (fun H locs hB => ?_)
  refine lv_iload_n F.1 F.2.1 dX9_forget_16 rfl (lv_at hl 0 rfl) ?_
  exact q_iret F hlocks hr hB (so1 h) (so2 h) dX9_forget_17
def f_X9_couldHaveBeen (σ0 : Mem) (a1 : Int32) (a2 : Int32) (a3 : Int32) : Option (Int32 × Mem) := (bv (f_X8_takeOver σ0 52 46) (fun σ2 => (bp (f_X9_liftBits σ2 a1 a2 a3) (fun v4 => (ck a1 8 (lt (ms σ2 53 a1.toNatClampNeg v4) (fun σ6 => (bv (f_X8_run σ6 52) (fun σ9 => (bp (f_X6_allHold σ9 52) (fun v11 => (cb v11 (some (v11, σ9))))))))))))))
set_option maxHeartbeats 4000000 in
set_option maxRecDepth 100000 in
theorem k_X9_couldHaveBeen {l : Launch} {D : va_G} {cy : Nat → ClassId} {ad : Nat → Nat} {ta tb : Nat} (hI : AdI ad) (σ0 : Mem) (a1 : Int32) (a2 : Int32) (a3 : Int32) {o : Int32 × Mem} (h : f_X9_couldHaveBeen σ0 a1 a2 a3 = some o) : Met l yX9_couldHaveBeen (Cond.code yX9_couldHaveBeen cX9_couldHaveBeen 4 (some .boolean) :: wG) rm_X9_couldHaveBeen (CP D cy ad ta tb σ0 [.ref (ad 0), .int a1, .int a2, .int a3]) (CQi D cy ad o.1 o.2) 0 0 (AA ad) := by
  refine Met.ofW (cc := cX9_couldHaveBeen) (maxL := 4) (ret := (some .boolean)) (by decide) rfl ?_
  intro p e s m args below meth c s₁ B hml hv
  obtain ⟨rfl, hE, hP⟩ := hv
  have hts := atoms_spec (ws := Cond.code yX9_couldHaveBeen cX9_couldHaveBeen 4 (some .boolean) :: wG) B.pre
  have F : CallFix p m c cX9_couldHaveBeen 4 s _ wG RX9 := ⟨B.exec, B.bytes, hml, findClass_of_methodNamed B.named, fun w hw => hts w (List.mem_cons_of_mem _ hw)⟩
  have hr := B.returns
  have hlocks := B.notSynchronized
  have hB : Bd D cy ad σ0 s.heap s.heap [] := ⟨hP, va_S.rf⟩
  have hl := lv_entry ([.ref (ad 0), .int a1, .int a2, .int a3] : List Value) (n := 4) (Nat.le_of_ble_eq_true rfl)
  rw [lg_entry_eq]
  generalize (lg_sl ([.ref (ad 0), .int a1, .int a2, .int a3] : List Value) ++ List.replicate (4 - (lg_sl ([.ref (ad 0), .int a1, .int a2, .int a3] : List Value)).length) Slot.unset).toArray = ls at hl ⊢
  have hl : lv_has ls 4 [(0, .ref (ad 0)), (1, .int a1), (2, .int a2), (3, .int a3)] := hl
  unfold f_X9_couldHaveBeen at h
  refine lv_aload_n F.1 F.2.1 dX9_couldHaveBeen_0 rfl (lv_at hl 0 rfl) ?_
  refine gf_RX9_56 F hE hB po_0 rfl dX9_couldHaveBeen_1 ?_
  refine lv_aload_n F.1 F.2.1 dX9_couldHaveBeen_4 rfl (lv_at hl 0 rfl) ?_
  refine gf_RX9_52 F hE hB po_0 rfl dX9_couldHaveBeen_5 ?_
  obtain ⟨σ2, hc1, h⟩ := bv_e h
  refine q_cv hB (q_goV F hE hB (k_X8_takeOver hI σ0 52 (Or.inr rfl) 46 (Or.inl rfl) hc1) (ca_RX9_375 F.2.2.2.2 ⟨Nat.le_of_ble_eq_true rfl, Nat.le_of_ble_eq_true rfl⟩) rfl po_52 rfl hl.1 rfl (Nat.le_of_ble_eq_true rfl) dX9_couldHaveBeen_8 ⟨Nat.le_of_ble_eq_true rfl, Nat.le_of_ble_eq_true rfl⟩) (fun H locs hB => ?_)
  refine lv_aload_n F.1 F.2.1 dX9_couldHaveBeen_11 rfl (lv_at hl 0 rfl) ?_
  refine gf_RX9_56 F hE hB po_0 rfl dX9_couldHaveBeen_12 ?_
  refine gf_RX9_355 F hE hB po_52 rfl dX9_couldHaveBeen_15 ?_
  refine lv_iload_n F.1 F.2.1 dX9_couldHaveBeen_18 rfl (lv_at hl 1 rfl) ?_
  refine lv_aload_n F.1 F.2.1 dX9_couldHaveBeen_19 rfl (lv_at hl 0 rfl) ?_
  refine lv_iload_n F.1 F.2.1 dX9_couldHaveBeen_20 rfl (lv_at hl 1 rfl) ?_
  refine lv_iload_n F.1 F.2.1 dX9_couldHaveBeen_21 rfl (lv_at hl 2 rfl) ?_
  refine lv_iload_n F.1 F.2.1 dX9_couldHaveBeen_22 rfl (lv_at hl 3 rfl) ?_
  obtain ⟨v4, hc3, h⟩ := bp_e h
  refine q_ci hB (q_goV F hE hB (k_X9_liftBits hI σ2 a1 a2 a3 hc3) (ca_RX9_361 F.2.2.2.2 ⟨Nat.le_of_ble_eq_true rfl, Nat.le_of_ble_eq_true rfl⟩) rfl po_0 rfl hl.1 rfl (Nat.le_of_ble_eq_true rfl) dX9_couldHaveBeen_23 ⟨Nat.le_of_ble_eq_true rfl, Nat.le_of_ble_eq_true rfl⟩) (fun H locs hB => ?_)
  obtain ⟨hi5, h⟩ := ck_e h
  obtain ⟨σ6, e7, h⟩ := lt_e h
  refine q_iast F hE hI hB row_53 hi5 dX9_couldHaveBeen_26 e7 (fun H locs hB => ?_)
  refine lv_aload_n F.1 F.2.1 dX9_couldHaveBeen_27 rfl (lv_at hl 0 rfl) ?_
  refine gf_RX9_56 F hE hB po_0 rfl dX9_couldHaveBeen_28 ?_
  obtain ⟨σ9, hc8, h⟩ := bv_e h
  refine q_cv hB (q_goV F hE hB (k_X8_run hI σ6 52 (Or.inr rfl) hc8) (ca_RX9_364 F.2.2.2.2 ⟨Nat.le_of_ble_eq_true rfl, Nat.le_of_ble_eq_true rfl⟩) rfl po_52 rfl hl.1 rfl (Nat.le_of_ble_eq_true rfl) dX9_couldHaveBeen_31 ⟨Nat.le_of_ble_eq_true rfl, Nat.le_of_ble_eq_true rfl⟩) (fun H locs hB => ?_)
  refine lv_aload_n F.1 F.2.1 dX9_couldHaveBeen_34 rfl (lv_at hl 0 rfl) ?_
  refine gf_RX9_39 F hE hB po_0 rfl dX9_couldHaveBeen_35 ?_
  refine lv_aload_n F.1 F.2.1 dX9_couldHaveBeen_38 rfl (lv_at hl 0 rfl) ?_
  refine gf_RX9_56 F hE hB po_0 rfl dX9_couldHaveBeen_39 ?_
  obtain ⟨v11, hc10, h⟩ := bp_e h
  refine q_ci hB (q_goV F hE hB (k_X6_allHold hI σ9 52 (Or.inr rfl) hc10) (ca_RX9_201 F.2.2.2.2 ⟨Nat.le_of_ble_eq_true rfl, Nat.le_of_ble_eq_true rfl⟩) rfl po_33 rfl hl.1 rfl (Nat.le_of_ble_eq_true rfl) dX9_couldHaveBeen_42 ⟨Nat.le_of_ble_eq_true rfl, Nat.le_of_ble_eq_true rfl⟩) (fun H locs hB => ?_)
  obtain ⟨hn12, h⟩ := cb_e h
  exact q_zret F hlocks hr hn12 hB (so1 h) (so2 h) dX9_couldHaveBeen_45
