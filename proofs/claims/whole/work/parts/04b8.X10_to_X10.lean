def f_X10_passesOf (σ0 : Mem) (a1 : Int32) (a2 : Int32) (a3 : Int32) : Option (Int32 × Mem) := (bv (f_X10_lives σ0 (99 : Int32)) (fun σ2 => (if a3 = (0 : Int32) then (ck (((8 : Int32) * a1) + a2) 64 (some ((σ2.1 75 (((8 : Int32) * a1) + a2).toNatClampNeg), σ2))) else (ck (((8 : Int32) * a1) + a2) 64 (some ((σ2.1 76 (((8 : Int32) * a1) + a2).toNatClampNeg), σ2))))))
set_option maxHeartbeats 4000000 in
set_option maxRecDepth 100000 in
theorem k_X10_passesOf {l : Launch} {D : va_G} {cy : Nat → ClassId} {ad : Nat → Nat} {ta tb : Nat} (hI : AdI ad) (σ0 : Mem) (a1 : Int32) (a2 : Int32) (a3 : Int32) {o : Int32 × Mem} (h : f_X10_passesOf σ0 a1 a2 a3 = some o) : Met l yX10_passesOf (Cond.code yX10_passesOf cX10_passesOf 4 (some .int) :: wG) rm_X10_passesOf (CP D cy ad ta tb σ0 [.ref (ad 64), .int a1, .int a2, .int a3]) (CQi D cy ad o.1 o.2) 0 0 (AA ad) := by
  refine Met.ofW (cc := cX10_passesOf) (maxL := 4) (ret := (some .int)) (by decide) rfl ?_
  intro p e s m args below meth c s₁ B hml hv
  obtain ⟨rfl, hE, hP⟩ := hv
  have hts := atoms_spec (ws := Cond.code yX10_passesOf cX10_passesOf 4 (some .int) :: wG) B.pre
  have F : CallFix p m c cX10_passesOf 4 s _ wG RX10 := ⟨B.exec, B.bytes, hml, findClass_of_methodNamed B.named, fun w hw => hts w (List.mem_cons_of_mem _ hw)⟩
  have hr := B.returns
  have hlocks := B.notSynchronized
  have hB : Bd D cy ad σ0 s.heap s.heap [] := ⟨hP, va_S.rf⟩
  have hl := lv_entry ([.ref (ad 64), .int a1, .int a2, .int a3] : List Value) (n := 4) (Nat.le_of_ble_eq_true rfl)
  rw [lg_entry_eq]
  generalize (lg_sl ([.ref (ad 64), .int a1, .int a2, .int a3] : List Value) ++ List.replicate (4 - (lg_sl ([.ref (ad 64), .int a1, .int a2, .int a3] : List Value)).length) Slot.unset).toArray = ls at hl ⊢
  have hl : lv_has ls 4 [(0, .ref (ad 64)), (1, .int a1), (2, .int a2), (3, .int a3)] := hl
  unfold f_X10_passesOf at h
  refine lv_aload_n F.1 F.2.1 dX10_passesOf_0 rfl (lv_at hl 0 rfl) ?_
  refine lv_bipush (v := 99) F.1 F.2.1 dX10_passesOf_1 (by decide) ?_
  obtain ⟨σ2, hc1, h⟩ := bv_e h
  refine q_cv hB (q_goV F hE hB (k_X10_lives hI σ0 (99 : Int32) hc1) (ca_RX10_185 F.2.2.2.2 ⟨Nat.le_of_ble_eq_true rfl, Nat.le_of_ble_eq_true rfl⟩) rfl po_64 rfl hl.1 rfl (Nat.le_of_ble_eq_true rfl) dX10_passesOf_3 ⟨Nat.le_of_ble_eq_true rfl, Nat.le_of_ble_eq_true rfl⟩) (fun H locs hB => ?_)
  refine lv_iload_n F.1 F.2.1 dX10_passesOf_6 rfl (lv_at hl 3 rfl) ?_
  refine lv_if_ne (tgt := 24) F.1 F.2.1 dX10_passesOf_7 (by decide) (fun c3 => ?_) (fun c3 => ?_)
  · replace h := ie_e c3 h
    refine lv_aload_n F.1 F.2.1 dX10_passesOf_24 rfl (lv_at hl 0 rfl) ?_
    refine gf_RX10_43 F hE hB po_64 rfl dX10_passesOf_25 ?_
    refine lv_bipush (v := 8) F.1 F.2.1 dX10_passesOf_28 (by decide) ?_
    refine lv_iload_n F.1 F.2.1 dX10_passesOf_30 rfl (lv_at hl 1 rfl) ?_
    refine lv_imul F.1 F.2.1 dX10_passesOf_31 ?_
    refine lv_iload_n F.1 F.2.1 dX10_passesOf_32 rfl (lv_at hl 2 rfl) ?_
    refine lv_iadd F.1 F.2.1 dX10_passesOf_33 ?_
    obtain ⟨hi4, h⟩ := ck_e h
    refine q_iald F hE hB po_76 hi4 dX10_passesOf_34 ?_
    exact q_iret F hlocks hr hB (so1 h) (so2 h) dX10_passesOf_35
  · replace h := it_e c3 h
    refine lv_aload_n F.1 F.2.1 dX10_passesOf_10 rfl (lv_at hl 0 rfl) ?_
    refine gf_RX10_40 F hE hB po_64 rfl dX10_passesOf_11 ?_
    refine lv_bipush (v := 8) F.1 F.2.1 dX10_passesOf_14 (by decide) ?_
    refine lv_iload_n F.1 F.2.1 dX10_passesOf_16 rfl (lv_at hl 1 rfl) ?_
    refine lv_imul F.1 F.2.1 dX10_passesOf_17 ?_
    refine lv_iload_n F.1 F.2.1 dX10_passesOf_18 rfl (lv_at hl 2 rfl) ?_
    refine lv_iadd F.1 F.2.1 dX10_passesOf_19 ?_
    obtain ⟨hi5, h⟩ := ck_e h
    refine q_iald F hE hB po_75 hi5 dX10_passesOf_20 ?_
    refine lv_goto (tgt := 35) F.1 F.2.1 dX10_passesOf_21 (by decide) ?_
    exact q_iret F hlocks hr hB (so1 h) (so2 h) dX10_passesOf_35
def f_X10_passes (σ0 : Mem) (a1 : Int32) (a2 : Int32) (a3 : Int32) : Option (Int32 × Mem) := (bv (f_X10_find σ0) (fun σ2 => (bp (f_X10_isBridge σ2 a1) (fun v4 => (if v4 = (0 : Int32) then (some ((-2 : Int32), σ2)) else (bp (f_X10_isBoat σ2 a2) (fun v7 => (if v7 = (0 : Int32) then (some ((-2 : Int32), σ2)) else (bp (f_X10_isTwo σ2 a3) (fun v10 => (if v10 = (0 : Int32) then (some ((-2 : Int32), σ2)) else (bi (f_X10_passesOf σ2 a1 a2 a3) (fun v14 σ13 => (some (v14, σ13)))))))))))))))
set_option maxHeartbeats 4000000 in
set_option maxRecDepth 100000 in
theorem k_X10_passes {l : Launch} {D : va_G} {cy : Nat → ClassId} {ad : Nat → Nat} {ta tb : Nat} (hI : AdI ad) (σ0 : Mem) (a1 : Int32) (a2 : Int32) (a3 : Int32) {o : Int32 × Mem} (h : f_X10_passes σ0 a1 a2 a3 = some o) : Met l yX10_passes (Cond.code yX10_passes cX10_passes 4 (some .int) :: wG) rm_X10_passes (CP D cy ad ta tb σ0 [.ref (ad 64), .int a1, .int a2, .int a3]) (CQi D cy ad o.1 o.2) 0 0 (AA ad) := by
  refine Met.ofW (cc := cX10_passes) (maxL := 4) (ret := (some .int)) (by decide) rfl ?_
  intro p e s m args below meth c s₁ B hml hv
  obtain ⟨rfl, hE, hP⟩ := hv
  have hts := atoms_spec (ws := Cond.code yX10_passes cX10_passes 4 (some .int) :: wG) B.pre
  have F : CallFix p m c cX10_passes 4 s _ wG RX10 := ⟨B.exec, B.bytes, hml, findClass_of_methodNamed B.named, fun w hw => hts w (List.mem_cons_of_mem _ hw)⟩
  have hr := B.returns
  have hlocks := B.notSynchronized
  have hB : Bd D cy ad σ0 s.heap s.heap [] := ⟨hP, va_S.rf⟩
  have hl := lv_entry ([.ref (ad 64), .int a1, .int a2, .int a3] : List Value) (n := 4) (Nat.le_of_ble_eq_true rfl)
  rw [lg_entry_eq]
  generalize (lg_sl ([.ref (ad 64), .int a1, .int a2, .int a3] : List Value) ++ List.replicate (4 - (lg_sl ([.ref (ad 64), .int a1, .int a2, .int a3] : List Value)).length) Slot.unset).toArray = ls at hl ⊢
  have hl : lv_has ls 4 [(0, .ref (ad 64)), (1, .int a1), (2, .int a2), (3, .int a3)] := hl
  unfold f_X10_passes at h
  refine lv_aload_n F.1 F.2.1 dX10_passes_0 rfl (lv_at hl 0 rfl) ?_
  obtain ⟨σ2, hc1, h⟩ := bv_e h
  refine q_cv hB (q_goV F hE hB (k_X10_find hI σ0 hc1) (ca_RX10_129 F.2.2.2.2 ⟨Nat.le_of_ble_eq_true rfl, Nat.le_of_ble_eq_true rfl⟩) rfl po_64 rfl hl.1 rfl (Nat.le_of_ble_eq_true rfl) dX10_passes_1 ⟨Nat.le_of_ble_eq_true rfl, Nat.le_of_ble_eq_true rfl⟩) (fun H locs hB => ?_)
  refine lv_aload_n F.1 F.2.1 dX10_passes_4 rfl (lv_at hl 0 rfl) ?_
  refine lv_iload_n F.1 F.2.1 dX10_passes_5 rfl (lv_at hl 1 rfl) ?_
  obtain ⟨v4, hc3, h⟩ := bp_e h
  refine q_ci hB (q_goV F hE hB (k_X10_isBridge hI σ2 a1 hc3) (ca_RX10_132 F.2.2.2.2 ⟨Nat.le_of_ble_eq_true rfl, Nat.le_of_ble_eq_true rfl⟩) rfl po_64 rfl hl.1 rfl (Nat.le_of_ble_eq_true rfl) dX10_passes_6 ⟨Nat.le_of_ble_eq_true rfl, Nat.le_of_ble_eq_true rfl⟩) (fun H locs hB => ?_)
  refine lv_if_eq (tgt := 37) F.1 F.2.1 dX10_passes_9 (by decide) (fun c5 => ?_) (fun c5 => ?_)
  · replace h := it_e c5 h
    refine lv_bipush (v := (-2)) F.1 F.2.1 dX10_passes_37 (by decide) ?_
    exact q_iret F hlocks hr hB (so1 h) (so2 h) dX10_passes_39
  · replace h := ie_e c5 h
    refine lv_aload_n F.1 F.2.1 dX10_passes_12 rfl (lv_at hl 0 rfl) ?_
    refine lv_iload_n F.1 F.2.1 dX10_passes_13 rfl (lv_at hl 2 rfl) ?_
    obtain ⟨v7, hc6, h⟩ := bp_e h
    refine q_ci hB (q_goV F hE hB (k_X10_isBoat hI σ2 a2 hc6) (ca_RX10_135 F.2.2.2.2 ⟨Nat.le_of_ble_eq_true rfl, Nat.le_of_ble_eq_true rfl⟩) rfl po_64 rfl hl.1 rfl (Nat.le_of_ble_eq_true rfl) dX10_passes_14 ⟨Nat.le_of_ble_eq_true rfl, Nat.le_of_ble_eq_true rfl⟩) (fun H locs hB => ?_)
    refine lv_if_eq (tgt := 37) F.1 F.2.1 dX10_passes_17 (by decide) (fun c8 => ?_) (fun c8 => ?_)
    · replace h := it_e c8 h
      refine lv_bipush (v := (-2)) F.1 F.2.1 dX10_passes_37 (by decide) ?_
      exact q_iret F hlocks hr hB (so1 h) (so2 h) dX10_passes_39
    · replace h := ie_e c8 h
      refine lv_iload_n F.1 F.2.1 dX10_passes_20 rfl (lv_at hl 3 rfl) ?_
      obtain ⟨v10, hc9, h⟩ := bp_e h
      refine q_ci hB (q_goS F hE hB (k_X10_isTwo hI σ2 a3 hc9) (ca_RX10_92 F.2.2.2.2 ⟨Nat.le_of_ble_eq_true rfl, Nat.le_of_ble_eq_true rfl⟩) rfl hl.1 rfl (Nat.le_of_ble_eq_true rfl) dX10_passes_21 ⟨Nat.le_of_ble_eq_true rfl, Nat.le_of_ble_eq_true rfl⟩) (fun H locs hB => ?_)
      refine lv_if_eq (tgt := 37) F.1 F.2.1 dX10_passes_24 (by decide) (fun c11 => ?_) (fun c11 => ?_)
      · replace h := it_e c11 h
        refine lv_bipush (v := (-2)) F.1 F.2.1 dX10_passes_37 (by decide) ?_
        exact q_iret F hlocks hr hB (so1 h) (so2 h) dX10_passes_39
      · replace h := ie_e c11 h
        refine lv_aload_n F.1 F.2.1 dX10_passes_27 rfl (lv_at hl 0 rfl) ?_
        refine lv_iload_n F.1 F.2.1 dX10_passes_28 rfl (lv_at hl 1 rfl) ?_
        refine lv_iload_n F.1 F.2.1 dX10_passes_29 rfl (lv_at hl 2 rfl) ?_
        refine lv_iload_n F.1 F.2.1 dX10_passes_30 rfl (lv_at hl 3 rfl) ?_
        obtain ⟨v14, σ13, hc12, h⟩ := bi_e h
        refine q_ci hB (q_goV F hE hB (k_X10_passesOf hI σ2 a1 a2 a3 hc12) (ca_RX10_194 F.2.2.2.2 ⟨Nat.le_of_ble_eq_true rfl, Nat.le_of_ble_eq_true rfl⟩) rfl po_64 rfl hl.1 rfl (Nat.le_of_ble_eq_true rfl) dX10_passes_31 ⟨Nat.le_of_ble_eq_true rfl, Nat.le_of_ble_eq_true rfl⟩) (fun H locs hB => ?_)
        refine lv_goto (tgt := 39) F.1 F.2.1 dX10_passes_34 (by decide) ?_
        exact q_iret F hlocks hr hB (so1 h) (so2 h) dX10_passes_39
def f_X10_waitsOf (σ0 : Mem) (a1 : Int32) : Option (Int32 × Mem) := (bv (f_X10_lives σ0 (99 : Int32)) (fun σ2 => (ck a1 8 (some ((σ2.1 77 a1.toNatClampNeg), σ2)))))
set_option maxHeartbeats 4000000 in
set_option maxRecDepth 100000 in
theorem k_X10_waitsOf {l : Launch} {D : va_G} {cy : Nat → ClassId} {ad : Nat → Nat} {ta tb : Nat} (hI : AdI ad) (σ0 : Mem) (a1 : Int32) {o : Int32 × Mem} (h : f_X10_waitsOf σ0 a1 = some o) : Met l yX10_waitsOf (Cond.code yX10_waitsOf cX10_waitsOf 2 (some .int) :: wG) rm_X10_waitsOf (CP D cy ad ta tb σ0 [.ref (ad 64), .int a1]) (CQi D cy ad o.1 o.2) 0 0 (AA ad) := by
  refine Met.ofW (cc := cX10_waitsOf) (maxL := 2) (ret := (some .int)) (by decide) rfl ?_
  intro p e s m args below meth c s₁ B hml hv
  obtain ⟨rfl, hE, hP⟩ := hv
  have hts := atoms_spec (ws := Cond.code yX10_waitsOf cX10_waitsOf 2 (some .int) :: wG) B.pre
  have F : CallFix p m c cX10_waitsOf 2 s _ wG RX10 := ⟨B.exec, B.bytes, hml, findClass_of_methodNamed B.named, fun w hw => hts w (List.mem_cons_of_mem _ hw)⟩
  have hr := B.returns
  have hlocks := B.notSynchronized
  have hB : Bd D cy ad σ0 s.heap s.heap [] := ⟨hP, va_S.rf⟩
  have hl := lv_entry ([.ref (ad 64), .int a1] : List Value) (n := 2) (Nat.le_of_ble_eq_true rfl)
  rw [lg_entry_eq]
  generalize (lg_sl ([.ref (ad 64), .int a1] : List Value) ++ List.replicate (2 - (lg_sl ([.ref (ad 64), .int a1] : List Value)).length) Slot.unset).toArray = ls at hl ⊢
  have hl : lv_has ls 2 [(0, .ref (ad 64)), (1, .int a1)] := hl
  unfold f_X10_waitsOf at h
  refine lv_aload_n F.1 F.2.1 dX10_waitsOf_0 rfl (lv_at hl 0 rfl) ?_
  refine lv_bipush (v := 99) F.1 F.2.1 dX10_waitsOf_1 (by decide) ?_
  obtain ⟨σ2, hc1, h⟩ := bv_e h
  refine q_cv hB (q_goV F hE hB (k_X10_lives hI σ0 (99 : Int32) hc1) (ca_RX10_185 F.2.2.2.2 ⟨Nat.le_of_ble_eq_true rfl, Nat.le_of_ble_eq_true rfl⟩) rfl po_64 rfl hl.1 rfl (Nat.le_of_ble_eq_true rfl) dX10_waitsOf_3 ⟨Nat.le_of_ble_eq_true rfl, Nat.le_of_ble_eq_true rfl⟩) (fun H locs hB => ?_)
  refine lv_aload_n F.1 F.2.1 dX10_waitsOf_6 rfl (lv_at hl 0 rfl) ?_
  refine gf_RX10_46 F hE hB po_64 rfl dX10_waitsOf_7 ?_
  refine lv_iload_n F.1 F.2.1 dX10_waitsOf_10 rfl (lv_at hl 1 rfl) ?_
  obtain ⟨hi3, h⟩ := ck_e h
  refine q_iald F hE hB po_77 hi3 dX10_waitsOf_11 ?_
  exact q_iret F hlocks hr hB (so1 h) (so2 h) dX10_waitsOf_12
def f_X10_waits (σ0 : Mem) (a1 : Int32) : Option (Int32 × Mem) := (bv (f_X10_find σ0) (fun σ2 => (bp (f_X10_isBoat σ2 a1) (fun v4 => (if v4 = (0 : Int32) then (some ((-2 : Int32), σ2)) else (bi (f_X10_waitsOf σ2 a1) (fun v8 σ7 => (some (v8, σ7)))))))))
set_option maxHeartbeats 4000000 in
set_option maxRecDepth 100000 in
theorem k_X10_waits {l : Launch} {D : va_G} {cy : Nat → ClassId} {ad : Nat → Nat} {ta tb : Nat} (hI : AdI ad) (σ0 : Mem) (a1 : Int32) {o : Int32 × Mem} (h : f_X10_waits σ0 a1 = some o) : Met l yX10_waits (Cond.code yX10_waits cX10_waits 2 (some .int) :: wG) rm_X10_waits (CP D cy ad ta tb σ0 [.ref (ad 64), .int a1]) (CQi D cy ad o.1 o.2) 0 0 (AA ad) := by
  refine Met.ofW (cc := cX10_waits) (maxL := 2) (ret := (some .int)) (by decide) rfl ?_
  intro p e s m args below meth c s₁ B hml hv
  obtain ⟨rfl, hE, hP⟩ := hv
  have hts := atoms_spec (ws := Cond.code yX10_waits cX10_waits 2 (some .int) :: wG) B.pre
  have F : CallFix p m c cX10_waits 2 s _ wG RX10 := ⟨B.exec, B.bytes, hml, findClass_of_methodNamed B.named, fun w hw => hts w (List.mem_cons_of_mem _ hw)⟩
  have hr := B.returns
  have hlocks := B.notSynchronized
  have hB : Bd D cy ad σ0 s.heap s.heap [] := ⟨hP, va_S.rf⟩
  have hl := lv_entry ([.ref (ad 64), .int a1] : List Value) (n := 2) (Nat.le_of_ble_eq_true rfl)
  rw [lg_entry_eq]
  generalize (lg_sl ([.ref (ad 64), .int a1] : List Value) ++ List.replicate (2 - (lg_sl ([.ref (ad 64), .int a1] : List Value)).length) Slot.unset).toArray = ls at hl ⊢
  have hl : lv_has ls 2 [(0, .ref (ad 64)), (1, .int a1)] := hl
  unfold f_X10_waits at h
  refine lv_aload_n F.1 F.2.1 dX10_waits_0 rfl (lv_at hl 0 rfl) ?_
  obtain ⟨σ2, hc1, h⟩ := bv_e h
  refine q_cv hB (q_goV F hE hB (k_X10_find hI σ0 hc1) (ca_RX10_129 F.2.2.2.2 ⟨Nat.le_of_ble_eq_true rfl, Nat.le_of_ble_eq_true rfl⟩) rfl po_64 rfl hl.1 rfl (Nat.le_of_ble_eq_true rfl) dX10_waits_1 ⟨Nat.le_of_ble_eq_true rfl, Nat.le_of_ble_eq_true rfl⟩) (fun H locs hB => ?_)
  refine lv_aload_n F.1 F.2.1 dX10_waits_4 rfl (lv_at hl 0 rfl) ?_
  refine lv_iload_n F.1 F.2.1 dX10_waits_5 rfl (lv_at hl 1 rfl) ?_
  obtain ⟨v4, hc3, h⟩ := bp_e h
  refine q_ci hB (q_goV F hE hB (k_X10_isBoat hI σ2 a1 hc3) (ca_RX10_135 F.2.2.2.2 ⟨Nat.le_of_ble_eq_true rfl, Nat.le_of_ble_eq_true rfl⟩) rfl po_64 rfl hl.1 rfl (Nat.le_of_ble_eq_true rfl) dX10_waits_6 ⟨Nat.le_of_ble_eq_true rfl, Nat.le_of_ble_eq_true rfl⟩) (fun H locs hB => ?_)
  refine lv_if_eq (tgt := 20) F.1 F.2.1 dX10_waits_9 (by decide) (fun c5 => ?_) (fun c5 => ?_)
  · replace h := it_e c5 h
    refine lv_bipush (v := (-2)) F.1 F.2.1 dX10_waits_20 (by decide) ?_
    exact q_iret F hlocks hr hB (so1 h) (so2 h) dX10_waits_22
  · replace h := ie_e c5 h
    refine lv_aload_n F.1 F.2.1 dX10_waits_12 rfl (lv_at hl 0 rfl) ?_
    refine lv_iload_n F.1 F.2.1 dX10_waits_13 rfl (lv_at hl 1 rfl) ?_
    obtain ⟨v8, σ7, hc6, h⟩ := bi_e h
    refine q_ci hB (q_goV F hE hB (k_X10_waitsOf hI σ2 a1 hc6) (ca_RX10_197 F.2.2.2.2 ⟨Nat.le_of_ble_eq_true rfl, Nat.le_of_ble_eq_true rfl⟩) rfl po_64 rfl hl.1 rfl (Nat.le_of_ble_eq_true rfl) dX10_waits_14 ⟨Nat.le_of_ble_eq_true rfl, Nat.le_of_ble_eq_true rfl⟩) (fun H locs hB => ?_)
    refine lv_goto (tgt := 22) F.1 F.2.1 dX10_waits_17 (by decide) ?_
    exact q_iret F hlocks hr hB (so1 h) (so2 h) dX10_waits_22
def f_X10_throughNow_b33 (σ0 : Mem) (k4 : Int32 → Int32 → Option (Int32)) (x2 : Int32) (y0 : Int32) (y1 : Int32) : Option (Int32) := (k4 (y1 ||| y0) (x2 + (1 : Int32)))
def f_X10_throughNow_b4 (σ0 : Mem) : Nat → Int32 → Int32 → Option (Int32)
  | 0, _, _ => none
  | n4 + 1, x1, x2 => (if (σ0.1 64 9) ≤ x2 then (some x1) else (ck x2 8 (bp (f_X10_places σ0) (fun v4 => (if (σ0.1 74 x2.toNatClampNeg) = v4 then (f_X10_throughNow_b33 σ0 (f_X10_throughNow_b4 σ0 n4) x2 ((1 : Int32) <<< (x2 &&& 31)) x1) else (f_X10_throughNow_b33 σ0 (f_X10_throughNow_b4 σ0 n4) x2 (0 : Int32) x1))))))
def f_X10_throughNow (σ0 : Mem) : Option (Int32) := (f_X10_throughNow_b4 σ0 300 (0 : Int32) (0 : Int32))
set_option maxHeartbeats 4000000 in
set_option maxRecDepth 100000 in
theorem k_X10_throughNow {l : Launch} {D : va_G} {cy : Nat → ClassId} {ad : Nat → Nat} {ta tb : Nat} (hI : AdI ad) (σ0 : Mem) {o : Int32} (h : f_X10_throughNow σ0 = some o) : Met l yX10_throughNow (Cond.code yX10_throughNow cX10_throughNow 3 (some .int) :: wG) rm_X10_throughNow (CP D cy ad ta tb σ0 [.ref (ad 64)]) (CQi D cy ad o σ0) 0 0 (AA ad) := by
  refine Met.ofW (cc := cX10_throughNow) (maxL := 3) (ret := (some .int)) (by decide) rfl ?_
  intro p e s m args below meth c s₁ B hml hv
  obtain ⟨rfl, hE, hP⟩ := hv
  have hts := atoms_spec (ws := Cond.code yX10_throughNow cX10_throughNow 3 (some .int) :: wG) B.pre
  have F : CallFix p m c cX10_throughNow 3 s _ wG RX10 := ⟨B.exec, B.bytes, hml, findClass_of_methodNamed B.named, fun w hw => hts w (List.mem_cons_of_mem _ hw)⟩
  have hr := B.returns
  have hlocks := B.notSynchronized
  have hB : Bd D cy ad σ0 s.heap s.heap [] := ⟨hP, va_S.rf⟩
  have hl := lv_entry ([.ref (ad 64)] : List Value) (n := 3) (Nat.le_of_ble_eq_true rfl)
  rw [lg_entry_eq]
  generalize (lg_sl ([.ref (ad 64)] : List Value) ++ List.replicate (3 - (lg_sl ([.ref (ad 64)] : List Value)).length) Slot.unset).toArray = ls at hl ⊢
  have hl : lv_has ls 3 [(0, .ref (ad 64))] := hl
  have B4 : ∀ (n4 : Nat) (H : Heap) (locs : List Loc) (ls : Array Slot) (x1 : Int32) (x2 : Int32), f_X10_throughNow_b4 σ0 n4 x1 x2 = some o → Bd D cy ad σ0 s.heap H locs → lv_has ls 3 [(0, .ref (ad 64)), (1, .int x1), (2, .int x2)] → W p l e rm_X10_throughNow s m ([.ref (ad 64)] : List Value).toArray below meth c H locs 0 0 (MQ below (CQi D cy ad o σ0) ([.ref (ad 64)] : List Value).toArray s 0 0 (AA ad)) (F0 m 4 ls []) := by
    intro n4
    induction n4 with
    | zero => intro H locs ls x1 x2 h hB hl; cases h
    | succ n4 ih4 =>
      have B33 : ∀ (H : Heap) (locs : List Loc) (ls : Array Slot) (x2 : Int32) (y0 : Int32) (y1 : Int32), f_X10_throughNow_b33 σ0 (f_X10_throughNow_b4 σ0 n4) x2 y0 y1 = some o → Bd D cy ad σ0 s.heap H locs → lv_has ls 3 [(0, .ref (ad 64)), (2, .int x2)] → W p l e rm_X10_throughNow s m ([.ref (ad 64)] : List Value).toArray below meth c H locs 0 0 (MQ below (CQi D cy ad o σ0) ([.ref (ad 64)] : List Value).toArray s 0 0 (AA ad)) (F0 m 33 ls [.int y0, .int y1]) := by
        intro H locs ls x2 y0 y1 h hB hl
        unfold f_X10_throughNow_b33 at h
        refine lv_ior F.1 F.2.1 dX10_throughNow_33 ?_
        refine lv_istore_n (lv' := [(1, .int (y1 ||| y0)), (0, .ref (ad 64)), (2, .int x2)]) F.1 F.2.1 dX10_throughNow_34 rfl hl (by decide) rfl (fun ls hl => ?_)
        refine lv_iinc (v := (x2 + (1 : Int32))) (lv' := [(2, .int (x2 + (1 : Int32))), (1, .int (y1 ||| y0)), (0, .ref (ad 64))]) F.1 F.2.1 dX10_throughNow_35 hl (k := 2) rfl rfl (by decide) rfl (fun ls hl => ?_)
        refine lv_goto (tgt := 4) F.1 F.2.1 dX10_throughNow_38 (by decide) ?_
        exact ih4 _ _ _ (y1 ||| y0) (x2 + (1 : Int32)) h hB (lv_sub hl [2, 1, 0] rfl)
      intro H locs ls x1 x2 h hB hl
      rw [f_X10_throughNow_b4] at h
      refine lv_iload_n F.1 F.2.1 dX10_throughNow_4 rfl (lv_at hl 2 rfl) ?_
      refine lv_aload_n F.1 F.2.1 dX10_throughNow_5 rfl (lv_at hl 0 rfl) ?_
      refine gf_RX10_111 F hE hB po_64 rfl dX10_throughNow_6 ?_
      refine lv_icmp_ge (tgt := 41) F.1 F.2.1 dX10_throughNow_9 (by decide) (fun c1 => ?_) (fun c1 => ?_)
      · replace h := it_e c1 h
        refine lv_iload_n F.1 F.2.1 dX10_throughNow_41 rfl (lv_at hl 1 rfl) ?_
        exact q_iret F hlocks hr hB (Option.some.inj h) rfl dX10_throughNow_42
      · replace h := ie_e c1 h
        refine lv_iload_n F.1 F.2.1 dX10_throughNow_12 rfl (lv_at hl 1 rfl) ?_
        refine lv_aload_n F.1 F.2.1 dX10_throughNow_13 rfl (lv_at hl 0 rfl) ?_
        refine gf_RX10_37 F hE hB po_64 rfl dX10_throughNow_14 ?_
        refine lv_iload_n F.1 F.2.1 dX10_throughNow_17 rfl (lv_at hl 2 rfl) ?_
        obtain ⟨hi2, h⟩ := ck_e h
        refine q_iald F hE hB po_74 hi2 dX10_throughNow_18 ?_
        refine lv_aload_n F.1 F.2.1 dX10_throughNow_19 rfl (lv_at hl 0 rfl) ?_
        obtain ⟨v4, hc3, h⟩ := bp_e h
        refine q_ci hB (q_goV F hE hB (k_X10_places hI σ0 hc3) (ca_RX10_169 F.2.2.2.2 ⟨Nat.le_of_ble_eq_true rfl, Nat.le_of_ble_eq_true rfl⟩) rfl po_64 rfl hl.1 rfl (Nat.le_of_ble_eq_true rfl) dX10_throughNow_20 ⟨Nat.le_of_ble_eq_true rfl, Nat.le_of_ble_eq_true rfl⟩) (fun H locs hB => ?_)
        refine lv_icmp_ne (tgt := 32) F.1 F.2.1 dX10_throughNow_23 (by decide) (fun c5 => ?_) (fun c5 => ?_)
        · replace h := ie_e c5 h
          refine lv_iconst (v := 0) F.1 F.2.1 dX10_throughNow_32 (by decide) ?_
          exact B33 _ _ _ x2 (0 : Int32) x1 h hB (lv_sub hl [0, 2] rfl)
        · replace h := it_e c5 h
          refine lv_iconst (v := 1) F.1 F.2.1 dX10_throughNow_26 (by decide) ?_
          refine lv_iload_n F.1 F.2.1 dX10_throughNow_27 rfl (lv_at hl 2 rfl) ?_
          refine lv_ishl F.1 F.2.1 dX10_throughNow_28 ?_
          refine lv_goto (tgt := 33) F.1 F.2.1 dX10_throughNow_29 (by decide) ?_
          exact B33 _ _ _ x2 ((1 : Int32) <<< (x2 &&& 31)) x1 h hB (lv_sub hl [0, 2] rfl)
  unfold f_X10_throughNow at h
  refine lv_iconst (v := 0) F.1 F.2.1 dX10_throughNow_0 (by decide) ?_
  refine lv_istore_n (lv' := [(1, .int (0 : Int32)), (0, .ref (ad 64))]) F.1 F.2.1 dX10_throughNow_1 rfl hl (by decide) rfl (fun ls hl => ?_)
  refine lv_iconst (v := 0) F.1 F.2.1 dX10_throughNow_2 (by decide) ?_
  refine lv_istore_n (lv' := [(2, .int (0 : Int32)), (1, .int (0 : Int32)), (0, .ref (ad 64))]) F.1 F.2.1 dX10_throughNow_3 rfl hl (by decide) rfl (fun ls hl => ?_)
  exact B4 300 _ _ _ (0 : Int32) (0 : Int32) h hB (lv_sub hl [2, 1, 0] rfl)
def f_X10_throughOf (σ0 : Mem) (a1 : Int32) : Option (Int32 × Mem) := (bv (f_X10_lives σ0 a1) (fun σ2 => (bp (f_X10_throughNow σ2) (fun v4 => (some (v4, σ2))))))
set_option maxHeartbeats 4000000 in
set_option maxRecDepth 100000 in
theorem k_X10_throughOf {l : Launch} {D : va_G} {cy : Nat → ClassId} {ad : Nat → Nat} {ta tb : Nat} (hI : AdI ad) (σ0 : Mem) (a1 : Int32) {o : Int32 × Mem} (h : f_X10_throughOf σ0 a1 = some o) : Met l yX10_throughOf (Cond.code yX10_throughOf cX10_throughOf 2 (some .int) :: wG) rm_X10_throughOf (CP D cy ad ta tb σ0 [.ref (ad 64), .int a1]) (CQi D cy ad o.1 o.2) 0 0 (AA ad) := by
  refine Met.ofW (cc := cX10_throughOf) (maxL := 2) (ret := (some .int)) (by decide) rfl ?_
  intro p e s m args below meth c s₁ B hml hv
  obtain ⟨rfl, hE, hP⟩ := hv
  have hts := atoms_spec (ws := Cond.code yX10_throughOf cX10_throughOf 2 (some .int) :: wG) B.pre
  have F : CallFix p m c cX10_throughOf 2 s _ wG RX10 := ⟨B.exec, B.bytes, hml, findClass_of_methodNamed B.named, fun w hw => hts w (List.mem_cons_of_mem _ hw)⟩
  have hr := B.returns
  have hlocks := B.notSynchronized
  have hB : Bd D cy ad σ0 s.heap s.heap [] := ⟨hP, va_S.rf⟩
  have hl := lv_entry ([.ref (ad 64), .int a1] : List Value) (n := 2) (Nat.le_of_ble_eq_true rfl)
  rw [lg_entry_eq]
  generalize (lg_sl ([.ref (ad 64), .int a1] : List Value) ++ List.replicate (2 - (lg_sl ([.ref (ad 64), .int a1] : List Value)).length) Slot.unset).toArray = ls at hl ⊢
  have hl : lv_has ls 2 [(0, .ref (ad 64)), (1, .int a1)] := hl
  unfold f_X10_throughOf at h
  refine lv_aload_n F.1 F.2.1 dX10_throughOf_0 rfl (lv_at hl 0 rfl) ?_
  refine lv_iload_n F.1 F.2.1 dX10_throughOf_1 rfl (lv_at hl 1 rfl) ?_
  obtain ⟨σ2, hc1, h⟩ := bv_e h
  refine q_cv hB (q_goV F hE hB (k_X10_lives hI σ0 a1 hc1) (ca_RX10_185 F.2.2.2.2 ⟨Nat.le_of_ble_eq_true rfl, Nat.le_of_ble_eq_true rfl⟩) rfl po_64 rfl hl.1 rfl (Nat.le_of_ble_eq_true rfl) dX10_throughOf_2 ⟨Nat.le_of_ble_eq_true rfl, Nat.le_of_ble_eq_true rfl⟩) (fun H locs hB => ?_)
  refine lv_aload_n F.1 F.2.1 dX10_throughOf_5 rfl (lv_at hl 0 rfl) ?_
  obtain ⟨v4, hc3, h⟩ := bp_e h
  refine q_ci hB (q_goV F hE hB (k_X10_throughNow hI σ2 hc3) (ca_RX10_200 F.2.2.2.2 ⟨Nat.le_of_ble_eq_true rfl, Nat.le_of_ble_eq_true rfl⟩) rfl po_64 rfl hl.1 rfl (Nat.le_of_ble_eq_true rfl) dX10_throughOf_6 ⟨Nat.le_of_ble_eq_true rfl, Nat.le_of_ble_eq_true rfl⟩) (fun H locs hB => ?_)
  exact q_iret F hlocks hr hB (so1 h) (so2 h) dX10_throughOf_9
def f_X10_through (σ0 : Mem) (a1 : Int32) : Option (Int32 × Mem) := (bv (f_X10_find σ0) (fun σ2 => (bp (f_X10_isStep σ2 a1) (fun v4 => (if v4 = (0 : Int32) then (some ((-2 : Int32), σ2)) else (bi (f_X10_throughOf σ2 a1) (fun v8 σ7 => (some (v8, σ7)))))))))
set_option maxHeartbeats 4000000 in
set_option maxRecDepth 100000 in
theorem k_X10_through {l : Launch} {D : va_G} {cy : Nat → ClassId} {ad : Nat → Nat} {ta tb : Nat} (hI : AdI ad) (σ0 : Mem) (a1 : Int32) {o : Int32 × Mem} (h : f_X10_through σ0 a1 = some o) : Met l yX10_through (Cond.code yX10_through cX10_through 2 (some .int) :: wG) rm_X10_through (CP D cy ad ta tb σ0 [.ref (ad 64), .int a1]) (CQi D cy ad o.1 o.2) 0 0 (AA ad) := by
  refine Met.ofW (cc := cX10_through) (maxL := 2) (ret := (some .int)) (by decide) rfl ?_
  intro p e s m args below meth c s₁ B hml hv
  obtain ⟨rfl, hE, hP⟩ := hv
  have hts := atoms_spec (ws := Cond.code yX10_through cX10_through 2 (some .int) :: wG) B.pre
  have F : CallFix p m c cX10_through 2 s _ wG RX10 := ⟨B.exec, B.bytes, hml, findClass_of_methodNamed B.named, fun w hw => hts w (List.mem_cons_of_mem _ hw)⟩
  have hr := B.returns
  have hlocks := B.notSynchronized
  have hB : Bd D cy ad σ0 s.heap s.heap [] := ⟨hP, va_S.rf⟩
  have hl := lv_entry ([.ref (ad 64), .int a1] : List Value) (n := 2) (Nat.le_of_ble_eq_true rfl)
  rw [lg_entry_eq]
  generalize (lg_sl ([.ref (ad 64), .int a1] : List Value) ++ List.replicate (2 - (lg_sl ([.ref (ad 64), .int a1] : List Value)).length) Slot.unset).toArray = ls at hl ⊢
  have hl : lv_has ls 2 [(0, .ref (ad 64)), (1, .int a1)] := hl
  unfold f_X10_through at h
  refine lv_aload_n F.1 F.2.1 dX10_through_0 rfl (lv_at hl 0 rfl) ?_
  obtain ⟨σ2, hc1, h⟩ := bv_e h
  refine q_cv hB (q_goV F hE hB (k_X10_find hI σ0 hc1) (ca_RX10_129 F.2.2.2.2 ⟨Nat.le_of_ble_eq_true rfl, Nat.le_of_ble_eq_true rfl⟩) rfl po_64 rfl hl.1 rfl (Nat.le_of_ble_eq_true rfl) dX10_through_1 ⟨Nat.le_of_ble_eq_true rfl, Nat.le_of_ble_eq_true rfl⟩) (fun H locs hB => ?_)
  refine lv_iload_n F.1 F.2.1 dX10_through_4 rfl (lv_at hl 1 rfl) ?_
  obtain ⟨v4, hc3, h⟩ := bp_e h
  refine q_ci hB (q_goS F hE hB (k_X10_isStep hI σ2 a1 hc3) (ca_RX10_188 F.2.2.2.2 ⟨Nat.le_of_ble_eq_true rfl, Nat.le_of_ble_eq_true rfl⟩) rfl hl.1 rfl (Nat.le_of_ble_eq_true rfl) dX10_through_5 ⟨Nat.le_of_ble_eq_true rfl, Nat.le_of_ble_eq_true rfl⟩) (fun H locs hB => ?_)
  refine lv_if_eq (tgt := 19) F.1 F.2.1 dX10_through_8 (by decide) (fun c5 => ?_) (fun c5 => ?_)
  · replace h := it_e c5 h
    refine lv_bipush (v := (-2)) F.1 F.2.1 dX10_through_19 (by decide) ?_
    exact q_iret F hlocks hr hB (so1 h) (so2 h) dX10_through_21
  · replace h := ie_e c5 h
    refine lv_aload_n F.1 F.2.1 dX10_through_11 rfl (lv_at hl 0 rfl) ?_
    refine lv_iload_n F.1 F.2.1 dX10_through_12 rfl (lv_at hl 1 rfl) ?_
    obtain ⟨v8, σ7, hc6, h⟩ := bi_e h
    refine q_ci hB (q_goV F hE hB (k_X10_throughOf hI σ2 a1 hc6) (ca_RX10_203 F.2.2.2.2 ⟨Nat.le_of_ble_eq_true rfl, Nat.le_of_ble_eq_true rfl⟩) rfl po_64 rfl hl.1 rfl (Nat.le_of_ble_eq_true rfl) dX10_through_13 ⟨Nat.le_of_ble_eq_true rfl, Nat.le_of_ble_eq_true rfl⟩) (fun H locs hB => ?_)
    refine lv_goto (tgt := 21) F.1 F.2.1 dX10_through_16 (by decide) ?_
    exact q_iret F hlocks hr hB (so1 h) (so2 h) dX10_through_21
def f_X10_firstOf (σ0 : Mem) (a1 : Int32) : Option (Int32 × Mem) := (bv (f_X10_lives σ0 (99 : Int32)) (fun σ2 => (if a1 = (0 : Int32) then (some ((σ2.1 64 19), σ2)) else (some ((σ2.1 64 20), σ2)))))
set_option maxHeartbeats 4000000 in
set_option maxRecDepth 100000 in
theorem k_X10_firstOf {l : Launch} {D : va_G} {cy : Nat → ClassId} {ad : Nat → Nat} {ta tb : Nat} (hI : AdI ad) (σ0 : Mem) (a1 : Int32) {o : Int32 × Mem} (h : f_X10_firstOf σ0 a1 = some o) : Met l yX10_firstOf (Cond.code yX10_firstOf cX10_firstOf 2 (some .int) :: wG) rm_X10_firstOf (CP D cy ad ta tb σ0 [.ref (ad 64), .int a1]) (CQi D cy ad o.1 o.2) 0 0 (AA ad) := by
  refine Met.ofW (cc := cX10_firstOf) (maxL := 2) (ret := (some .int)) (by decide) rfl ?_
  intro p e s m args below meth c s₁ B hml hv
  obtain ⟨rfl, hE, hP⟩ := hv
  have hts := atoms_spec (ws := Cond.code yX10_firstOf cX10_firstOf 2 (some .int) :: wG) B.pre
  have F : CallFix p m c cX10_firstOf 2 s _ wG RX10 := ⟨B.exec, B.bytes, hml, findClass_of_methodNamed B.named, fun w hw => hts w (List.mem_cons_of_mem _ hw)⟩
  have hr := B.returns
  have hlocks := B.notSynchronized
  have hB : Bd D cy ad σ0 s.heap s.heap [] := ⟨hP, va_S.rf⟩
  have hl := lv_entry ([.ref (ad 64), .int a1] : List Value) (n := 2) (Nat.le_of_ble_eq_true rfl)
  rw [lg_entry_eq]
  generalize (lg_sl ([.ref (ad 64), .int a1] : List Value) ++ List.replicate (2 - (lg_sl ([.ref (ad 64), .int a1] : List Value)).length) Slot.unset).toArray = ls at hl ⊢
  have hl : lv_has ls 2 [(0, .ref (ad 64)), (1, .int a1)] := hl
  unfold f_X10_firstOf at h
  refine lv_aload_n F.1 F.2.1 dX10_firstOf_0 rfl (lv_at hl 0 rfl) ?_
  refine lv_bipush (v := 99) F.1 F.2.1 dX10_firstOf_1 (by decide) ?_
  obtain ⟨σ2, hc1, h⟩ := bv_e h
  refine q_cv hB (q_goV F hE hB (k_X10_lives hI σ0 (99 : Int32) hc1) (ca_RX10_185 F.2.2.2.2 ⟨Nat.le_of_ble_eq_true rfl, Nat.le_of_ble_eq_true rfl⟩) rfl po_64 rfl hl.1 rfl (Nat.le_of_ble_eq_true rfl) dX10_firstOf_3 ⟨Nat.le_of_ble_eq_true rfl, Nat.le_of_ble_eq_true rfl⟩) (fun H locs hB => ?_)
  refine lv_iload_n F.1 F.2.1 dX10_firstOf_6 rfl (lv_at hl 1 rfl) ?_
  refine lv_if_ne (tgt := 17) F.1 F.2.1 dX10_firstOf_7 (by decide) (fun c3 => ?_) (fun c3 => ?_)
  · replace h := ie_e c3 h
    refine lv_aload_n F.1 F.2.1 dX10_firstOf_17 rfl (lv_at hl 0 rfl) ?_
    refine gf_RX10_179 F hE hB po_64 rfl dX10_firstOf_18 ?_
    exact q_iret F hlocks hr hB (so1 h) (so2 h) dX10_firstOf_21
  · replace h := it_e c3 h
    refine lv_aload_n F.1 F.2.1 dX10_firstOf_10 rfl (lv_at hl 0 rfl) ?_
    refine gf_RX10_176 F hE hB po_64 rfl dX10_firstOf_11 ?_
    refine lv_goto (tgt := 21) F.1 F.2.1 dX10_firstOf_14 (by decide) ?_
    exact q_iret F hlocks hr hB (so1 h) (so2 h) dX10_firstOf_21
def f_X10_first (σ0 : Mem) (a1 : Int32) : Option (Int32 × Mem) := (bv (f_X10_find σ0) (fun σ2 => (bp (f_X10_isTwo σ2 a1) (fun v4 => (if v4 = (0 : Int32) then (some ((-2 : Int32), σ2)) else (bi (f_X10_firstOf σ2 a1) (fun v8 σ7 => (some (v8, σ7)))))))))
set_option maxHeartbeats 4000000 in
set_option maxRecDepth 100000 in
theorem k_X10_first {l : Launch} {D : va_G} {cy : Nat → ClassId} {ad : Nat → Nat} {ta tb : Nat} (hI : AdI ad) (σ0 : Mem) (a1 : Int32) {o : Int32 × Mem} (h : f_X10_first σ0 a1 = some o) : Met l yX10_first (Cond.code yX10_first cX10_first 2 (some .int) :: wG) rm_X10_first (CP D cy ad ta tb σ0 [.ref (ad 64), .int a1]) (CQi D cy ad o.1 o.2) 0 0 (AA ad) := by
  refine Met.ofW (cc := cX10_first) (maxL := 2) (ret := (some .int)) (by decide) rfl ?_
  intro p e s m args below meth c s₁ B hml hv
  obtain ⟨rfl, hE, hP⟩ := hv
  have hts := atoms_spec (ws := Cond.code yX10_first cX10_first 2 (some .int) :: wG) B.pre
  have F : CallFix p m c cX10_first 2 s _ wG RX10 := ⟨B.exec, B.bytes, hml, findClass_of_methodNamed B.named, fun w hw => hts w (List.mem_cons_of_mem _ hw)⟩
  have hr := B.returns
  have hlocks := B.notSynchronized
  have hB : Bd D cy ad σ0 s.heap s.heap [] := ⟨hP, va_S.rf⟩
  have hl := lv_entry ([.ref (ad 64), .int a1] : List Value) (n := 2) (Nat.le_of_ble_eq_true rfl)
  rw [lg_entry_eq]
  generalize (lg_sl ([.ref (ad 64), .int a1] : List Value) ++ List.replicate (2 - (lg_sl ([.ref (ad 64), .int a1] : List Value)).length) Slot.unset).toArray = ls at hl ⊢
  have hl : lv_has ls 2 [(0, .ref (ad 64)), (1, .int a1)] := hl
  unfold f_X10_first at h
  refine lv_aload_n F.1 F.2.1 dX10_first_0 rfl (lv_at hl 0 rfl) ?_
  obtain ⟨σ2, hc1, h⟩ := bv_e h
  refine q_cv hB (q_goV F hE hB (k_X10_find hI σ0 hc1) (ca_RX10_129 F.2.2.2.2 ⟨Nat.le_of_ble_eq_true rfl, Nat.le_of_ble_eq_true rfl⟩) rfl po_64 rfl hl.1 rfl (Nat.le_of_ble_eq_true rfl) dX10_first_1 ⟨Nat.le_of_ble_eq_true rfl, Nat.le_of_ble_eq_true rfl⟩) (fun H locs hB => ?_)
  refine lv_iload_n F.1 F.2.1 dX10_first_4 rfl (lv_at hl 1 rfl) ?_
  obtain ⟨v4, hc3, h⟩ := bp_e h
  refine q_ci hB (q_goS F hE hB (k_X10_isTwo hI σ2 a1 hc3) (ca_RX10_92 F.2.2.2.2 ⟨Nat.le_of_ble_eq_true rfl, Nat.le_of_ble_eq_true rfl⟩) rfl hl.1 rfl (Nat.le_of_ble_eq_true rfl) dX10_first_5 ⟨Nat.le_of_ble_eq_true rfl, Nat.le_of_ble_eq_true rfl⟩) (fun H locs hB => ?_)
  refine lv_if_eq (tgt := 19) F.1 F.2.1 dX10_first_8 (by decide) (fun c5 => ?_) (fun c5 => ?_)
  · replace h := it_e c5 h
    refine lv_bipush (v := (-2)) F.1 F.2.1 dX10_first_19 (by decide) ?_
    exact q_iret F hlocks hr hB (so1 h) (so2 h) dX10_first_21
  · replace h := ie_e c5 h
    refine lv_aload_n F.1 F.2.1 dX10_first_11 rfl (lv_at hl 0 rfl) ?_
    refine lv_iload_n F.1 F.2.1 dX10_first_12 rfl (lv_at hl 1 rfl) ?_
    obtain ⟨v8, σ7, hc6, h⟩ := bi_e h
    refine q_ci hB (q_goV F hE hB (k_X10_firstOf hI σ2 a1 hc6) (ca_RX10_206 F.2.2.2.2 ⟨Nat.le_of_ble_eq_true rfl, Nat.le_of_ble_eq_true rfl⟩) rfl po_64 rfl hl.1 rfl (Nat.le_of_ble_eq_true rfl) dX10_first_13 ⟨Nat.le_of_ble_eq_true rfl, Nat.le_of_ble_eq_true rfl⟩) (fun H locs hB => ?_)
    refine lv_goto (tgt := 21) F.1 F.2.1 dX10_first_16 (by decide) ?_
    exact q_iret F hlocks hr hB (so1 h) (so2 h) dX10_first_21
def f_X10_allWait_b4 (σ0 : Mem) : Nat → Int32 → Int32 → Option (Int32)
  | 0, _, _ => none
  | n4 + 1, x1, x2 => (if (σ0.1 64 9) ≤ x2 then (some x1) else (ck x2 8 (f_X10_allWait_b4 σ0 n4 (x1 + (σ0.1 77 x2.toNatClampNeg)) (x2 + (1 : Int32)))))
def f_X10_allWait (σ0 : Mem) : Option (Int32) := (f_X10_allWait_b4 σ0 300 (0 : Int32) (0 : Int32))
set_option maxHeartbeats 4000000 in
set_option maxRecDepth 100000 in
theorem k_X10_allWait {l : Launch} {D : va_G} {cy : Nat → ClassId} {ad : Nat → Nat} {ta tb : Nat} (hI : AdI ad) (σ0 : Mem) {o : Int32} (h : f_X10_allWait σ0 = some o) : Met l yX10_allWait (Cond.code yX10_allWait cX10_allWait 3 (some .int) :: wG) rm_X10_allWait (CP D cy ad ta tb σ0 [.ref (ad 64)]) (CQi D cy ad o σ0) 0 0 (AA ad) := by
  refine Met.ofW (cc := cX10_allWait) (maxL := 3) (ret := (some .int)) (by decide) rfl ?_
  intro p e s m args below meth c s₁ B hml hv
  obtain ⟨rfl, hE, hP⟩ := hv
  have hts := atoms_spec (ws := Cond.code yX10_allWait cX10_allWait 3 (some .int) :: wG) B.pre
  have F : CallFix p m c cX10_allWait 3 s _ wG RX10 := ⟨B.exec, B.bytes, hml, findClass_of_methodNamed B.named, fun w hw => hts w (List.mem_cons_of_mem _ hw)⟩
  have hr := B.returns
  have hlocks := B.notSynchronized
  have hB : Bd D cy ad σ0 s.heap s.heap [] := ⟨hP, va_S.rf⟩
  have hl := lv_entry ([.ref (ad 64)] : List Value) (n := 3) (Nat.le_of_ble_eq_true rfl)
  rw [lg_entry_eq]
  generalize (lg_sl ([.ref (ad 64)] : List Value) ++ List.replicate (3 - (lg_sl ([.ref (ad 64)] : List Value)).length) Slot.unset).toArray = ls at hl ⊢
  have hl : lv_has ls 3 [(0, .ref (ad 64))] := hl
  have B4 : ∀ (n4 : Nat) (H : Heap) (locs : List Loc) (ls : Array Slot) (x1 : Int32) (x2 : Int32), f_X10_allWait_b4 σ0 n4 x1 x2 = some o → Bd D cy ad σ0 s.heap H locs → lv_has ls 3 [(0, .ref (ad 64)), (1, .int x1), (2, .int x2)] → W p l e rm_X10_allWait s m ([.ref (ad 64)] : List Value).toArray below meth c H locs 0 0 (MQ below (CQi D cy ad o σ0) ([.ref (ad 64)] : List Value).toArray s 0 0 (AA ad)) (F0 m 4 ls []) := by
    intro n4
    induction n4 with
    | zero => intro H locs ls x1 x2 h hB hl; cases h
    | succ n4 ih4 =>
      intro H locs ls x1 x2 h hB hl
      rw [f_X10_allWait_b4] at h
      refine lv_iload_n F.1 F.2.1 dX10_allWait_4 rfl (lv_at hl 2 rfl) ?_
      refine lv_aload_n F.1 F.2.1 dX10_allWait_5 rfl (lv_at hl 0 rfl) ?_
      refine gf_RX10_111 F hE hB po_64 rfl dX10_allWait_6 ?_
      refine lv_icmp_ge (tgt := 27) F.1 F.2.1 dX10_allWait_9 (by decide) (fun c1 => ?_) (fun c1 => ?_)
      · replace h := it_e c1 h
        refine lv_iload_n F.1 F.2.1 dX10_allWait_27 rfl (lv_at hl 1 rfl) ?_
        exact q_iret F hlocks hr hB (Option.some.inj h) rfl dX10_allWait_28
      · replace h := ie_e c1 h
        refine lv_iload_n F.1 F.2.1 dX10_allWait_12 rfl (lv_at hl 1 rfl) ?_
        refine lv_aload_n F.1 F.2.1 dX10_allWait_13 rfl (lv_at hl 0 rfl) ?_
        refine gf_RX10_46 F hE hB po_64 rfl dX10_allWait_14 ?_
        refine lv_iload_n F.1 F.2.1 dX10_allWait_17 rfl (lv_at hl 2 rfl) ?_
        obtain ⟨hi2, h⟩ := ck_e h
        refine q_iald F hE hB po_77 hi2 dX10_allWait_18 ?_
        refine lv_iadd F.1 F.2.1 dX10_allWait_19 ?_
        refine lv_istore_n (lv' := [(1, .int (x1 + (σ0.1 77 x2.toNatClampNeg))), (0, .ref (ad 64)), (2, .int x2)]) F.1 F.2.1 dX10_allWait_20 rfl hl (by decide) rfl (fun ls hl => ?_)
        refine lv_iinc (v := (x2 + (1 : Int32))) (lv' := [(2, .int (x2 + (1 : Int32))), (1, .int (x1 + (σ0.1 77 x2.toNatClampNeg))), (0, .ref (ad 64))]) F.1 F.2.1 dX10_allWait_21 hl (k := 2) rfl rfl (by decide) rfl (fun ls hl => ?_)
        refine lv_goto (tgt := 4) F.1 F.2.1 dX10_allWait_24 (by decide) ?_
        exact ih4 _ _ _ (x1 + (σ0.1 77 x2.toNatClampNeg)) (x2 + (1 : Int32)) h hB (lv_sub hl [2, 1, 0] rfl)
  unfold f_X10_allWait at h
  refine lv_iconst (v := 0) F.1 F.2.1 dX10_allWait_0 (by decide) ?_
  refine lv_istore_n (lv' := [(1, .int (0 : Int32)), (0, .ref (ad 64))]) F.1 F.2.1 dX10_allWait_1 rfl hl (by decide) rfl (fun ls hl => ?_)
  refine lv_iconst (v := 0) F.1 F.2.1 dX10_allWait_2 (by decide) ?_
  refine lv_istore_n (lv' := [(2, .int (0 : Int32)), (1, .int (0 : Int32)), (0, .ref (ad 64))]) F.1 F.2.1 dX10_allWait_3 rfl hl (by decide) rfl (fun ls hl => ?_)
  exact B4 300 _ _ _ (0 : Int32) (0 : Int32) h hB (lv_sub hl [2, 1, 0] rfl)
def f_X10_isThrough (σ0 : Mem) (a1 : Int32) : Option (Int32 × Mem) := (bi (f_X10_throughOf σ0 (99 : Int32)) (fun v3 σ2 => (bp (f_X10_isIn σ2 v3 a1) (fun v5 => (cb v5 (some (v5, σ2)))))))
set_option maxHeartbeats 4000000 in
set_option maxRecDepth 100000 in
theorem k_X10_isThrough {l : Launch} {D : va_G} {cy : Nat → ClassId} {ad : Nat → Nat} {ta tb : Nat} (hI : AdI ad) (σ0 : Mem) (a1 : Int32) {o : Int32 × Mem} (h : f_X10_isThrough σ0 a1 = some o) : Met l yX10_isThrough (Cond.code yX10_isThrough cX10_isThrough 2 (some .boolean) :: wG) rm_X10_isThrough (CP D cy ad ta tb σ0 [.ref (ad 64), .int a1]) (CQi D cy ad o.1 o.2) 0 0 (AA ad) := by
  refine Met.ofW (cc := cX10_isThrough) (maxL := 2) (ret := (some .boolean)) (by decide) rfl ?_
  intro p e s m args below meth c s₁ B hml hv
  obtain ⟨rfl, hE, hP⟩ := hv
  have hts := atoms_spec (ws := Cond.code yX10_isThrough cX10_isThrough 2 (some .boolean) :: wG) B.pre
  have F : CallFix p m c cX10_isThrough 2 s _ wG RX10 := ⟨B.exec, B.bytes, hml, findClass_of_methodNamed B.named, fun w hw => hts w (List.mem_cons_of_mem _ hw)⟩
  have hr := B.returns
  have hlocks := B.notSynchronized
  have hB : Bd D cy ad σ0 s.heap s.heap [] := ⟨hP, va_S.rf⟩
  have hl := lv_entry ([.ref (ad 64), .int a1] : List Value) (n := 2) (Nat.le_of_ble_eq_true rfl)
  rw [lg_entry_eq]
  generalize (lg_sl ([.ref (ad 64), .int a1] : List Value) ++ List.replicate (2 - (lg_sl ([.ref (ad 64), .int a1] : List Value)).length) Slot.unset).toArray = ls at hl ⊢
  have hl : lv_has ls 2 [(0, .ref (ad 64)), (1, .int a1)] := hl
  unfold f_X10_isThrough at h
  refine lv_aload_n F.1 F.2.1 dX10_isThrough_0 rfl (lv_at hl 0 rfl) ?_
  refine lv_bipush (v := 99) F.1 F.2.1 dX10_isThrough_1 (by decide) ?_
  obtain ⟨v3, σ2, hc1, h⟩ := bi_e h
  refine q_ci hB (q_goV F hE hB (k_X10_throughOf hI σ0 (99 : Int32) hc1) (ca_RX10_203 F.2.2.2.2 ⟨Nat.le_of_ble_eq_true rfl, Nat.le_of_ble_eq_true rfl⟩) rfl po_64 rfl hl.1 rfl (Nat.le_of_ble_eq_true rfl) dX10_isThrough_3 ⟨Nat.le_of_ble_eq_true rfl, Nat.le_of_ble_eq_true rfl⟩) (fun H locs hB => ?_)
  refine lv_iload_n F.1 F.2.1 dX10_isThrough_6 rfl (lv_at hl 1 rfl) ?_
  obtain ⟨v5, hc4, h⟩ := bp_e h
  refine q_ci hB (q_goS F hE hB (k_X10_isIn hI σ2 v3 a1 hc4) (ca_RX10_149 F.2.2.2.2 ⟨Nat.le_of_ble_eq_true rfl, Nat.le_of_ble_eq_true rfl⟩) rfl hl.1 rfl (Nat.le_of_ble_eq_true rfl) dX10_isThrough_7 ⟨Nat.le_of_ble_eq_true rfl, Nat.le_of_ble_eq_true rfl⟩) (fun H locs hB => ?_)
  obtain ⟨hn6, h⟩ := cb_e h
  exact q_zret F hlocks hr hn6 hB (so1 h) (so2 h) dX10_isThrough_10
