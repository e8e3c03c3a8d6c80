def f_X3_setCargo (σ0 : Mem) (a1 : Int32) (a2 : Int32) (a3 : Int32) : Option (Mem) := (lt (ms σ0 61 0 a1) (fun σ1 => (lt (ms σ1 61 1 a2) (fun σ3 => (lt (ms σ3 61 2 a3) (fun σ5 => (some σ5)))))))
set_option maxHeartbeats 4000000 in
set_option maxRecDepth 100000 in
theorem k_X3_setCargo {l : Launch} {D : va_G} {cy : Nat → ClassId} {ad : Nat → Nat} {ta tb : Nat} (hI : AdI ad) (σ0 : Mem) (a1 : Int32) (a2 : Int32) (a3 : Int32) {o : Mem} (h : f_X3_setCargo σ0 a1 a2 a3 = some o) : Met l yX3_setCargo (Cond.code yX3_setCargo cX3_setCargo 4 none :: wG) rm_X3_setCargo (CP D cy ad ta tb σ0 [.ref (ad 61), .int a1, .int a2, .int a3]) (CQv D cy ad o) 0 0 (AA ad) := by
  refine Met.ofW (cc := cX3_setCargo) (maxL := 4) (ret := none) (by decide) rfl ?_
  intro p e s m args below meth c s₁ B hml hv
  obtain ⟨rfl, hE, hP⟩ := hv
  have hts := atoms_spec (ws := Cond.code yX3_setCargo cX3_setCargo 4 none :: wG) B.pre
  have F : CallFix p m c cX3_setCargo 4 s _ wG RX3 := ⟨B.exec, B.bytes, hml, findClass_of_methodNamed B.named, fun w hw => hts w (List.mem_cons_of_mem _ hw)⟩
  have hr := B.returns
  have hlocks := B.notSynchronized
  have hB : Bd D cy ad σ0 s.heap s.heap [] := ⟨hP, va_S.rf⟩
  have hl := lv_entry ([.ref (ad 61), .int a1, .int a2, .int a3] : List Value) (n := 4) (Nat.le_of_ble_eq_true rfl)
  rw [lg_entry_eq]
  generalize (lg_sl ([.ref (ad 61), .int a1, .int a2, .int a3] : List Value) ++ List.replicate (4 - (lg_sl ([.ref (ad 61), .int a1, .int a2, .int a3] : List Value)).length) Slot.unset).toArray = ls at hl ⊢
  have hl : lv_has ls 4 [(0, .ref (ad 61)), (1, .int a1), (2, .int a2), (3, .int a3)] := hl
  unfold f_X3_setCargo at h
  refine lv_aload_n F.1 F.2.1 dX3_setCargo_0 rfl (lv_at hl 0 rfl) ?_
  refine lv_iload_n F.1 F.2.1 dX3_setCargo_1 rfl (lv_at hl 1 rfl) ?_
  obtain ⟨σ1, e2, h⟩ := lt_e h
  refine pf_RX3_9 F hE hI hB po_61 rfl rfl (Nat.le_of_ble_eq_true rfl) rfl dX3_setCargo_2 e2 (fun H locs hB => ?_)
  refine lv_aload_n F.1 F.2.1 dX3_setCargo_5 rfl (lv_at hl 0 rfl) ?_
  refine lv_iload_n F.1 F.2.1 dX3_setCargo_6 rfl (lv_at hl 2 rfl) ?_
  obtain ⟨σ3, e4, h⟩ := lt_e h
  refine pf_RX3_15 F hE hI hB po_61 rfl rfl (Nat.le_of_ble_eq_true rfl) rfl dX3_setCargo_7 e4 (fun H locs hB => ?_)
  refine lv_aload_n F.1 F.2.1 dX3_setCargo_10 rfl (lv_at hl 0 rfl) ?_
  refine lv_iload_n F.1 F.2.1 dX3_setCargo_11 rfl (lv_at hl 3 rfl) ?_
  obtain ⟨σ5, e6, h⟩ := lt_e h
  refine pf_RX3_18 F hE hI hB po_61 rfl rfl (Nat.le_of_ble_eq_true rfl) rfl dX3_setCargo_12 e6 (fun H locs hB => ?_)
  exact q_vret F hlocks hr hB (Option.some.inj h) dX3_setCargo_15
def f_X3_cargoAnswer (σ0 : Mem) (a1 : Int32) : Option (Int32) := (if a1 = (-1 : Int32) then (some (σ0.1 61 0)) else (if a1 = (0 : Int32) then (some (σ0.1 61 1)) else (some (σ0.1 61 2))))
set_option maxHeartbeats 4000000 in
set_option maxRecDepth 100000 in
theorem k_X3_cargoAnswer {l : Launch} {D : va_G} {cy : Nat → ClassId} {ad : Nat → Nat} {ta tb : Nat} (hI : AdI ad) (σ0 : Mem) (a1 : Int32) {o : Int32} (h : f_X3_cargoAnswer σ0 a1 = some o) : Met l yX3_cargoAnswer (Cond.code yX3_cargoAnswer cX3_cargoAnswer 2 (some .int) :: wG) rm_X3_cargoAnswer (CP D cy ad ta tb σ0 [.ref (ad 61), .int a1]) (CQi D cy ad o σ0) 0 0 (AA ad) := by
  refine Met.ofW (cc := cX3_cargoAnswer) (maxL := 2) (ret := (some .int)) (by decide) rfl ?_
  intro p e s m args below meth c s₁ B hml hv
  obtain ⟨rfl, hE, hP⟩ := hv
  have hts := atoms_spec (ws := Cond.code yX3_cargoAnswer cX3_cargoAnswer 2 (some .int) :: wG) B.pre
  have F : CallFix p m c cX3_cargoAnswer 2 s _ wG RX3 := ⟨B.exec, B.bytes, hml, findClass_of_methodNamed B.named, fun w hw => hts w (List.mem_cons_of_mem _ hw)⟩
  have hr := B.returns
  have hlocks := B.notSynchronized
  have hB : Bd D cy ad σ0 s.heap s.heap [] := ⟨hP, va_S.rf⟩
  have hl := lv_entry ([.ref (ad 61), .int a1] : List Value) (n := 2) (Nat.le_of_ble_eq_true rfl)
  rw [lg_entry_eq]
  generalize (lg_sl ([.ref (ad 61), .int a1] : List Value) ++ List.replicate (2 - (lg_sl ([.ref (ad 61), .int a1] : List Value)).length) Slot.unset).toArray = ls at hl ⊢
  have hl : lv_has ls 2 [(0, .ref (ad 61)), (1, .int a1)] := hl
  unfold f_X3_cargoAnswer at h
  refine lv_iload_n F.1 F.2.1 dX3_cargoAnswer_0 rfl (lv_at hl 1 rfl) ?_
  refine lv_iconst (v := (-1)) F.1 F.2.1 dX3_cargoAnswer_1 (by decide) ?_
  refine lv_icmp_ne (tgt := 10) F.1 F.2.1 dX3_cargoAnswer_2 (by decide) (fun c1 => ?_) (fun c1 => ?_)
  · replace h := ie_e c1 h
    refine lv_iload_n F.1 F.2.1 dX3_cargoAnswer_10 rfl (lv_at hl 1 rfl) ?_
    refine lv_if_ne (tgt := 21) F.1 F.2.1 dX3_cargoAnswer_11 (by decide) (fun c2 => ?_) (fun c2 => ?_)
    · replace h := ie_e c2 h
      refine lv_aload_n F.1 F.2.1 dX3_cargoAnswer_21 rfl (lv_at hl 0 rfl) ?_
      refine gf_RX3_18 F hE hB po_61 rfl dX3_cargoAnswer_22 ?_
      exact q_iret F hlocks hr hB (Option.some.inj h) rfl dX3_cargoAnswer_25
    · replace h := it_e c2 h
      refine lv_aload_n F.1 F.2.1 dX3_cargoAnswer_14 rfl (lv_at hl 0 rfl) ?_
      refine gf_RX3_15 F hE hB po_61 rfl dX3_cargoAnswer_15 ?_
      refine lv_goto (tgt := 25) F.1 F.2.1 dX3_cargoAnswer_18 (by decide) ?_
      exact q_iret F hlocks hr hB (Option.some.inj h) rfl dX3_cargoAnswer_25
  · replace h := it_e c1 h
    refine lv_aload_n F.1 F.2.1 dX3_cargoAnswer_5 rfl (lv_at hl 0 rfl) ?_
    refine gf_RX3_9 F hE hB po_61 rfl dX3_cargoAnswer_6 ?_
    exact q_iret F hlocks hr hB (Option.some.inj h) rfl dX3_cargoAnswer_9
def f_X3_setBest (σ0 : Mem) (a1 : Int32) (a2 : Int32) : Option (Mem) := (lt (ms σ0 61 3 a1) (fun σ1 => (lt (ms σ1 61 4 a2) (fun σ3 => (some σ3)))))
set_option maxHeartbeats 4000000 in
set_option maxRecDepth 100000 in
theorem k_X3_setBest {l : Launch} {D : va_G} {cy : Nat → ClassId} {ad : Nat → Nat} {ta tb : Nat} (hI : AdI ad) (σ0 : Mem) (a1 : Int32) (a2 : Int32) {o : Mem} (h : f_X3_setBest σ0 a1 a2 = some o) : Met l yX3_setBest (Cond.code yX3_setBest cX3_setBest 3 none :: wG) rm_X3_setBest (CP D cy ad ta tb σ0 [.ref (ad 61), .int a1, .int a2]) (CQv D cy ad o) 0 0 (AA ad) := by
  refine Met.ofW (cc := cX3_setBest) (maxL := 3) (ret := none) (by decide) rfl ?_
  intro p e s m args below meth c s₁ B hml hv
  obtain ⟨rfl, hE, hP⟩ := hv
  have hts := atoms_spec (ws := Cond.code yX3_setBest cX3_setBest 3 none :: wG) B.pre
  have F : CallFix p m c cX3_setBest 3 s _ wG RX3 := ⟨B.exec, B.bytes, hml, findClass_of_methodNamed B.named, fun w hw => hts w (List.mem_cons_of_mem _ hw)⟩
  have hr := B.returns
  have hlocks := B.notSynchronized
  have hB : Bd D cy ad σ0 s.heap s.heap [] := ⟨hP, va_S.rf⟩
  have hl := lv_entry ([.ref (ad 61), .int a1, .int a2] : List Value) (n := 3) (Nat.le_of_ble_eq_true rfl)
  rw [lg_entry_eq]
  generalize (lg_sl ([.ref (ad 61), .int a1, .int a2] : List Value) ++ List.replicate (3 - (lg_sl ([.ref (ad 61), .int a1, .int a2] : List Value)).length) Slot.unset).toArray = ls at hl ⊢
  have hl : lv_has ls 3 [(0, .ref (ad 61)), (1, .int a1), (2, .int a2)] := hl
  unfold f_X3_setBest at h
  refine lv_aload_n F.1 F.2.1 dX3_setBest_0 rfl (lv_at hl 0 rfl) ?_
  refine lv_iload_n F.1 F.2.1 dX3_setBest_1 rfl (lv_at hl 1 rfl) ?_
  obtain ⟨σ1, e2, h⟩ := lt_e h
  refine pf_RX3_21 F hE hI hB po_61 rfl rfl (Nat.le_of_ble_eq_true rfl) rfl dX3_setBest_2 e2 (fun H locs hB => ?_)
  refine lv_aload_n F.1 F.2.1 dX3_setBest_5 rfl (lv_at hl 0 rfl) ?_
  refine lv_iload_n F.1 F.2.1 dX3_setBest_6 rfl (lv_at hl 2 rfl) ?_
  obtain ⟨σ3, e4, h⟩ := lt_e h
  refine pf_RX3_24 F hE hI hB po_61 rfl rfl (Nat.le_of_ble_eq_true rfl) rfl dX3_setBest_7 e4 (fun H locs hB => ?_)
  exact q_vret F hlocks hr hB (Option.some.inj h) dX3_setBest_10
def f_X5_renew (σ0 : Mem) (q0 : Nat) (a1 : Int32) (a2 : Int32) : Option (Mem) := (bv (f_J7_fill_53178 σ0 (q0 + 1) 60 (0 : Int32)) (fun σ2 => (lt (ms σ2 q0 1 a1) (fun σ3 => (lt (ms σ3 q0 2 a2) (fun σ5 => (lt (ms σ5 q0 3 (0 : Int32)) (fun σ7 => (some σ7)))))))))
set_option maxHeartbeats 4000000 in
set_option maxRecDepth 100000 in
theorem k_X5_renew {l : Launch} {D : va_G} {cy : Nat → ClassId} {ad : Nat → Nat} {ta tb : Nat} (hI : AdI ad) (σ0 : Mem) (q0 : Nat) (hq0 : isSheet q0) (a1 : Int32) (a2 : Int32) {o : Mem} (h : f_X5_renew σ0 q0 a1 a2 = some o) : Met l yX5_renew (Cond.code yX5_renew cX5_renew 3 none :: wG) rm_X5_renew (CP D cy ad ta tb σ0 [.ref (ad q0), .int a1, .int a2]) (CQv D cy ad o) 0 0 (AA ad) := by
  refine Met.ofW (cc := cX5_renew) (maxL := 3) (ret := none) (by decide) rfl ?_
  intro p e s m args below meth c s₁ B hml hv
  obtain ⟨rfl, hE, hP⟩ := hv
  have hts := atoms_spec (ws := Cond.code yX5_renew cX5_renew 3 none :: wG) B.pre
  have F : CallFix p m c cX5_renew 3 s _ wG RX5 := ⟨B.exec, B.bytes, hml, findClass_of_methodNamed B.named, fun w hw => hts w (List.mem_cons_of_mem _ hw)⟩
  have hr := B.returns
  have hlocks := B.notSynchronized
  have hB : Bd D cy ad σ0 s.heap s.heap [] := ⟨hP, va_S.rf⟩
  have hl := lv_entry ([.ref (ad q0), .int a1, .int a2] : List Value) (n := 3) (Nat.le_of_ble_eq_true rfl)
  rw [lg_entry_eq]
  generalize (lg_sl ([.ref (ad q0), .int a1, .int a2] : List Value) ++ List.replicate (3 - (lg_sl ([.ref (ad q0), .int a1, .int a2] : List Value)).length) Slot.unset).toArray = ls at hl ⊢
  have hl : lv_has ls 3 [(0, .ref (ad q0)), (1, .int a1), (2, .int a2)] := hl
  unfold f_X5_renew at h
  refine lv_aload_n F.1 F.2.1 dX5_renew_0 rfl (lv_at hl 0 rfl) ?_
  refine gf_RX5_9 F hE hB (po_Sheet hq0) rfl dX5_renew_1 ?_
  refine lv_iconst (v := 0) F.1 F.2.1 dX5_renew_4 (by decide) ?_
  obtain ⟨σ2, hc1, h⟩ := bv_e h
  refine q_cv hB (q_goS F hE hB (k_J7_fill_53178 hI σ0 (q0 + 1) 60 (row_Sheet_1 hq0) (0 : Int32) hc1) (ca_RX5_19 F.2.2.2.2 ⟨Nat.le_of_ble_eq_true rfl, Nat.le_of_ble_eq_true rfl⟩) rfl hl.1 rfl (Nat.le_of_ble_eq_true rfl) dX5_renew_5 ⟨Nat.le_of_ble_eq_true rfl, Nat.le_of_ble_eq_true rfl⟩) (fun H locs hB => ?_)
  refine lv_aload_n F.1 F.2.1 dX5_renew_8 rfl (lv_at hl 0 rfl) ?_
  refine lv_iload_n F.1 F.2.1 dX5_renew_9 rfl (lv_at hl 1 rfl) ?_
  obtain ⟨σ3, e4, h⟩ := lt_e h
  refine pf_RX5_25 F hE hI hB (po_Sheet hq0) rfl rfl (Nat.le_of_ble_eq_true rfl) (ph_Sheet_1 hq0) dX5_renew_10 e4 (fun H locs hB => ?_)
  refine lv_aload_n F.1 F.2.1 dX5_renew_13 rfl (lv_at hl 0 rfl) ?_
  refine lv_iload_n F.1 F.2.1 dX5_renew_14 rfl (lv_at hl 2 rfl) ?_
  obtain ⟨σ5, e6, h⟩ := lt_e h
  refine pf_RX5_29 F hE hI hB (po_Sheet hq0) rfl rfl (Nat.le_of_ble_eq_true rfl) (ph_Sheet_2 hq0) dX5_renew_15 e6 (fun H locs hB => ?_)
  refine lv_aload_n F.1 F.2.1 dX5_renew_18 rfl (lv_at hl 0 rfl) ?_
  refine lv_iconst (v := 0) F.1 F.2.1 dX5_renew_19 (by decide) ?_
  obtain ⟨σ7, e8, h⟩ := lt_e h
  refine pf_RX5_15 F hE hI hB (po_Sheet hq0) rfl rfl (Nat.le_of_ble_eq_true rfl) (ph_Sheet_3 hq0) dX5_renew_20 e8 (fun H locs hB => ?_)
  exact q_vret F hlocks hr hB (Option.some.inj h) dX5_renew_23
def f_X5_put (σ0 : Mem) (q0 : Nat) (a1 : Int32) (a2 : Int32) : Option (Mem) := (if (σ0.1 q0 1) = (0 : Int32) then (ck a1 60 (lt (ms σ0 (q0 + 1) a1.toNatClampNeg a2.toInt8.toInt32) (fun σ10 => (some σ10)))) else (if (σ0.1 q0 1) = (1 : Int32) then (ck a1 60 (lt (ms σ0 (q0 + 1) a1.toNatClampNeg a2.toInt16.toInt32) (fun σ7 => (some σ7)))) else (ck a1 60 (lt (ms σ0 (q0 + 1) a1.toNatClampNeg a2) (fun σ4 => (some σ4))))))
set_option maxHeartbeats 4000000 in
set_option maxRecDepth 100000 in
theorem k_X5_put {l : Launch} {D : va_G} {cy : Nat → ClassId} {ad : Nat → Nat} {ta tb : Nat} (hI : AdI ad) (σ0 : Mem) (q0 : Nat) (hq0 : isSheet q0) (a1 : Int32) (a2 : Int32) {o : Mem} (h : f_X5_put σ0 q0 a1 a2 = some o) : Met l yX5_put (Cond.code yX5_put cX5_put 3 none :: wG) rm_X5_put (CP D cy ad ta tb σ0 [.ref (ad q0), .int a1, .int a2]) (CQv D cy ad o) 0 0 (AA ad) := by
  refine Met.ofW (cc := cX5_put) (maxL := 3) (ret := none) (by decide) rfl ?_
  intro p e s m args below meth c s₁ B hml hv
  obtain ⟨rfl, hE, hP⟩ := hv
  have hts := atoms_spec (ws := Cond.code yX5_put cX5_put 3 none :: wG) B.pre
  have F : CallFix p m c cX5_put 3 s _ wG RX5 := ⟨B.exec, B.bytes, hml, findClass_of_methodNamed B.named, fun w hw => hts w (List.mem_cons_of_mem _ hw)⟩
  have hr := B.returns
  have hlocks := B.notSynchronized
  have hB : Bd D cy ad σ0 s.heap s.heap [] := ⟨hP, va_S.rf⟩
  have hl := lv_entry ([.ref (ad q0), .int a1, .int a2] : List Value) (n := 3) (Nat.le_of_ble_eq_true rfl)
  rw [lg_entry_eq]
  generalize (lg_sl ([.ref (ad q0), .int a1, .int a2] : List Value) ++ List.replicate (3 - (lg_sl ([.ref (ad q0), .int a1, .int a2] : List Value)).length) Slot.unset).toArray = ls at hl ⊢
  have hl : lv_has ls 3 [(0, .ref (ad q0)), (1, .int a1), (2, .int a2)] := hl
  unfold f_X5_put at h
  refine lv_aload_n F.1 F.2.1 dX5_put_0 rfl (lv_at hl 0 rfl) ?_
  refine gf_RX5_25 F hE hB (po_Sheet hq0) rfl dX5_put_1 ?_
  refine lv_if_ne (tgt := 18) F.1 F.2.1 dX5_put_4 (by decide) (fun c1 => ?_) (fun c1 => ?_)
  · replace h := ie_e c1 h
    refine lv_aload_n F.1 F.2.1 dX5_put_18 rfl (lv_at hl 0 rfl) ?_
    refine gf_RX5_25 F hE hB (po_Sheet hq0) rfl dX5_put_19 ?_
    refine lv_iconst (v := 1) F.1 F.2.1 dX5_put_22 (by decide) ?_
    refine lv_icmp_ne (tgt := 37) F.1 F.2.1 dX5_put_23 (by decide) (fun c2 => ?_) (fun c2 => ?_)
    · replace h := ie_e c2 h
      refine lv_aload_n F.1 F.2.1 dX5_put_37 rfl (lv_at hl 0 rfl) ?_
      refine gf_RX5_9 F hE hB (po_Sheet hq0) rfl dX5_put_38 ?_
      refine lv_iload_n F.1 F.2.1 dX5_put_41 rfl (lv_at hl 1 rfl) ?_
      refine lv_iload_n F.1 F.2.1 dX5_put_42 rfl (lv_at hl 2 rfl) ?_
      obtain ⟨hi3, h⟩ := ck_e h
      obtain ⟨σ4, e5, h⟩ := lt_e h
      refine q_iast F hE hI hB (row_Sheet_1 hq0) hi3 dX5_put_43 e5 (fun H locs hB => ?_)
      exact q_vret F hlocks hr hB (Option.some.inj h) dX5_put_44
    · replace h := it_e c2 h
      refine lv_aload_n F.1 F.2.1 dX5_put_26 rfl (lv_at hl 0 rfl) ?_
      refine gf_RX5_9 F hE hB (po_Sheet hq0) rfl dX5_put_27 ?_
      refine lv_iload_n F.1 F.2.1 dX5_put_30 rfl (lv_at hl 1 rfl) ?_
      refine lv_iload_n F.1 F.2.1 dX5_put_31 rfl (lv_at hl 2 rfl) ?_
      refine lv_i2s F.1 F.2.1 dX5_put_32 rfl ?_
      obtain ⟨hi6, h⟩ := ck_e h
      obtain ⟨σ7, e8, h⟩ := lt_e h
      refine q_iast F hE hI hB (row_Sheet_1 hq0) hi6 dX5_put_33 e8 (fun H locs hB => ?_)
      refine lv_goto (tgt := 44) F.1 F.2.1 dX5_put_34 (by decide) ?_
      exact q_vret F hlocks hr hB (Option.some.inj h) dX5_put_44
  · replace h := it_e c1 h
    refine lv_aload_n F.1 F.2.1 dX5_put_7 rfl (lv_at hl 0 rfl) ?_
    refine gf_RX5_9 F hE hB (po_Sheet hq0) rfl dX5_put_8 ?_
    refine lv_iload_n F.1 F.2.1 dX5_put_11 rfl (lv_at hl 1 rfl) ?_
    refine lv_iload_n F.1 F.2.1 dX5_put_12 rfl (lv_at hl 2 rfl) ?_
    refine lv_i2b F.1 F.2.1 dX5_put_13 rfl ?_
    obtain ⟨hi9, h⟩ := ck_e h
    obtain ⟨σ10, e11, h⟩ := lt_e h
    refine q_iast F hE hI hB (row_Sheet_1 hq0) hi9 dX5_put_14 e11 (fun H locs hB => ?_)
    refine lv_goto (tgt := 44) F.1 F.2.1 dX5_put_15 (by decide) ?_
    exact q_vret F hlocks hr hB (Option.some.inj h) dX5_put_44
def f_X5_hasItems (σ0 : Mem) (q0 : Nat) (a1 : Int32) (a2 : Int32) : Option (Int32) := (if a1 < (0 : Int32) then (some (0 : Int32)) else (if a2 < (0 : Int32) then (some (0 : Int32)) else (if (σ0.1 q0 2) < a2 then (some (0 : Int32)) else (if ((σ0.1 q0 2) - a2) < a1 then (some (0 : Int32)) else (some (1 : Int32))))))
set_option maxHeartbeats 4000000 in
set_option maxRecDepth 100000 in
theorem k_X5_hasItems {l : Launch} {D : va_G} {cy : Nat → ClassId} {ad : Nat → Nat} {ta tb : Nat} (hI : AdI ad) (σ0 : Mem) (q0 : Nat) (hq0 : isSheet q0) (a1 : Int32) (a2 : Int32) {o : Int32} (h : f_X5_hasItems σ0 q0 a1 a2 = some o) : Met l yX5_hasItems (Cond.code yX5_hasItems cX5_hasItems 3 (some .boolean) :: wG) rm_X5_hasItems (CP D cy ad ta tb σ0 [.ref (ad q0), .int a1, .int a2]) (CQi D cy ad o σ0) 0 0 (AA ad) := by
  refine Met.ofW (cc := cX5_hasItems) (maxL := 3) (ret := (some .boolean)) (by decide) rfl ?_
  intro p e s m args below meth c s₁ B hml hv
  obtain ⟨rfl, hE, hP⟩ := hv
  have hts := atoms_spec (ws := Cond.code yX5_hasItems cX5_hasItems 3 (some .boolean) :: wG) B.pre
  have F : CallFix p m c cX5_hasItems 3 s _ wG RX5 := ⟨B.exec, B.bytes, hml, findClass_of_methodNamed B.named, fun w hw => hts w (List.mem_cons_of_mem _ hw)⟩
  have hr := B.returns
  have hlocks := B.notSynchronized
  have hB : Bd D cy ad σ0 s.heap s.heap [] := ⟨hP, va_S.rf⟩
  have hl := lv_entry ([.ref (ad q0), .int a1, .int a2] : List Value) (n := 3) (Nat.le_of_ble_eq_true rfl)
  rw [lg_entry_eq]
  generalize (lg_sl ([.ref (ad q0), .int a1, .int a2] : List Value) ++ List.replicate (3 - (lg_sl ([.ref (ad q0), .int a1, .int a2] : List Value)).length) Slot.unset).toArray = ls at hl ⊢
  have hl : lv_has ls 3 [(0, .ref (ad q0)), (1, .int a1), (2, .int a2)] := hl
  unfold f_X5_hasItems at h
  refine lv_iload_n F.1 F.2.1 dX5_hasItems_0 rfl (lv_at hl 1 rfl) ?_
  refine lv_if_lt (tgt := 30) F.1 F.2.1 dX5_hasItems_1 (by decide) (fun c1 => ?_) (fun c1 => ?_)
  · replace h := it_e c1 h
    refine lv_iconst (v := 0) F.1 F.2.1 dX5_hasItems_30 (by decide) ?_
    exact q_zret F hlocks hr rfl hB (Option.some.inj h) rfl dX5_hasItems_31
  · replace h := ie_e c1 h
    refine lv_iload_n F.1 F.2.1 dX5_hasItems_4 rfl (lv_at hl 2 rfl) ?_
    refine lv_if_lt (tgt := 30) F.1 F.2.1 dX5_hasItems_5 (by decide) (fun c2 => ?_) (fun c2 => ?_)
    · replace h := it_e c2 h
      refine lv_iconst (v := 0) F.1 F.2.1 dX5_hasItems_30 (by decide) ?_
      exact q_zret F hlocks hr rfl hB (Option.some.inj h) rfl dX5_hasItems_31
    · replace h := ie_e c2 h
      refine lv_iload_n F.1 F.2.1 dX5_hasItems_8 rfl (lv_at hl 2 rfl) ?_
      refine lv_aload_n F.1 F.2.1 dX5_hasItems_9 rfl (lv_at hl 0 rfl) ?_
      refine gf_RX5_29 F hE hB (po_Sheet hq0) rfl dX5_hasItems_10 ?_
      refine lv_icmp_gt (tgt := 30) F.1 F.2.1 dX5_hasItems_13 (by decide) (fun c3 => ?_) (fun c3 => ?_)
      · replace h := it_e c3 h
        refine lv_iconst (v := 0) F.1 F.2.1 dX5_hasItems_30 (by decide) ?_
        exact q_zret F hlocks hr rfl hB (Option.some.inj h) rfl dX5_hasItems_31
      · replace h := ie_e c3 h
        refine lv_iload_n F.1 F.2.1 dX5_hasItems_16 rfl (lv_at hl 1 rfl) ?_
        refine lv_aload_n F.1 F.2.1 dX5_hasItems_17 rfl (lv_at hl 0 rfl) ?_
        refine gf_RX5_29 F hE hB (po_Sheet hq0) rfl dX5_hasItems_18 ?_
        refine lv_iload_n F.1 F.2.1 dX5_hasItems_21 rfl (lv_at hl 2 rfl) ?_
        refine lv_isub F.1 F.2.1 dX5_hasItems_22 ?_
        refine lv_icmp_gt (tgt := 30) F.1 F.2.1 dX5_hasItems_23 (by decide) (fun c4 => ?_) (fun c4 => ?_)
        · replace h := it_e c4 h
          refine lv_iconst (v := 0) F.1 F.2.1 dX5_hasItems_30 (by decide) ?_
          exact q_zret F hlocks hr rfl hB (Option.some.inj h) rfl dX5_hasItems_31
        · replace h := ie_e c4 h
          refine lv_iconst (v := 1) F.1 F.2.1 dX5_hasItems_26 (by decide) ?_
          refine lv_goto (tgt := 31) F.1 F.2.1 dX5_hasItems_27 (by decide) ?_
          exact q_zret F hlocks hr rfl hB (Option.some.inj h) rfl dX5_hasItems_31
def f_X8_takeOver (σ0 : Mem) (q0 : Nat) (q1 : Nat) : Option (Mem) := (lt (ms σ0 q0 5 (σ0.1 q1 5)) (fun σ1 => (lt (ms σ1 q0 6 (σ1.1 q1 6)) (fun σ3 => (cp (0 : Int32) (0 : Int32) (8 : Int32) 8 8 (lt (mw σ3 (q0 + 1) (va_cpy (σ3.1 (q1 + 1)) (σ3.1 (q0 + 1)) (0 : Int32).toNatClampNeg (0 : Int32).toNatClampNeg (8 : Int32).toNatClampNeg)) (fun σ6 => (cp (0 : Int32) (0 : Int32) (8 : Int32) 8 8 (lt (mw σ6 (q0 + 2) (va_cpy (σ6.1 (q1 + 2)) (σ6.1 (q0 + 2)) (0 : Int32).toNatClampNeg (0 : Int32).toNatClampNeg (8 : Int32).toNatClampNeg)) (fun σ9 => (some σ9)))))))))))
set_option maxHeartbeats 4000000 in
set_option maxRecDepth 100000 in
theorem k_X8_takeOver {l : Launch} {D : va_G} {cy : Nat → ClassId} {ad : Nat → Nat} {ta tb : Nat} (hI : AdI ad) (σ0 : Mem) (q0 : Nat) (hq0 : isVoy q0) (q1 : Nat) (hq1 : isVoy q1) {o : Mem} (h : f_X8_takeOver σ0 q0 q1 = some o) : Met l yX8_takeOver (Cond.code yX8_takeOver cX8_takeOver 2 none :: wG) rm_X8_takeOver (CP D cy ad ta tb σ0 [.ref (ad q0), .ref (ad q1)]) (CQv D cy ad o) 0 0 (AA ad) := by
  refine Met.ofW (cc := cX8_takeOver) (maxL := 2) (ret := none) (by decide) rfl ?_
  intro p e s m args below meth c s₁ B hml hv
  obtain ⟨rfl, hE, hP⟩ := hv
  have hts := atoms_spec (ws := Cond.code yX8_takeOver cX8_takeOver 2 none :: wG) B.pre
  have F : CallFix p m c cX8_takeOver 2 s _ wG RX8 := ⟨B.exec, B.bytes, hml, findClass_of_methodNamed B.named, fun w hw => hts w (List.mem_cons_of_mem _ hw)⟩
  have hr := B.returns
  have hlocks := B.notSynchronized
  have hB : Bd D cy ad σ0 s.heap s.heap [] := ⟨hP, va_S.rf⟩
  have hl := lv_entry ([.ref (ad q0), .ref (ad q1)] : List Value) (n := 2) (Nat.le_of_ble_eq_true rfl)
  rw [lg_entry_eq]
  generalize (lg_sl ([.ref (ad q0), .ref (ad q1)] : List Value) ++ List.replicate (2 - (lg_sl ([.ref (ad q0), .ref (ad q1)] : List Value)).length) Slot.unset).toArray = ls at hl ⊢
  have hl : lv_has ls 2 [(0, .ref (ad q0)), (1, .ref (ad q1))] := hl
  unfold f_X8_takeOver at h
  refine lv_aload_n F.1 F.2.1 dX8_takeOver_0 rfl (lv_at hl 0 rfl) ?_
  refine lv_aload_n F.1 F.2.1 dX8_takeOver_1 rfl (lv_at hl 1 rfl) ?_
  refine gf_RX8_27 F hE hB (po_Voy hq1) rfl dX8_takeOver_2 ?_
  obtain ⟨σ1, e2, h⟩ := lt_e h
  refine pf_RX8_27 F hE hI hB (po_Voy hq0) rfl rfl (Nat.le_of_ble_eq_true rfl) (ph_Voy_5 hq0) dX8_takeOver_5 e2 (fun H locs hB => ?_)
  refine lv_aload_n F.1 F.2.1 dX8_takeOver_8 rfl (lv_at hl 0 rfl) ?_
  refine lv_aload_n F.1 F.2.1 dX8_takeOver_9 rfl (lv_at hl 1 rfl) ?_
  refine gf_RX8_31 F hE hB (po_Voy hq1) rfl dX8_takeOver_10 ?_
  obtain ⟨σ3, e4, h⟩ := lt_e h
  refine pf_RX8_31 F hE hI hB (po_Voy hq0) rfl rfl (Nat.le_of_ble_eq_true rfl) (ph_Voy_6 hq0) dX8_takeOver_13 e4 (fun H locs hB => ?_)
  refine lv_aload_n F.1 F.2.1 dX8_takeOver_16 rfl (lv_at hl 1 rfl) ?_
  refine gf_RX8_9 F hE hB (po_Voy hq1) rfl dX8_takeOver_17 ?_
  refine lv_iconst (v := 0) F.1 F.2.1 dX8_takeOver_20 (by decide) ?_
  refine lv_aload_n F.1 F.2.1 dX8_takeOver_21 rfl (lv_at hl 0 rfl) ?_
  refine gf_RX8_9 F hE hB (po_Voy hq0) rfl dX8_takeOver_22 ?_
  refine lv_iconst (v := 0) F.1 F.2.1 dX8_takeOver_25 (by decide) ?_
  refine lv_bipush (v := 8) F.1 F.2.1 dX8_takeOver_26 (by decide) ?_
  obtain ⟨hp5, h⟩ := cp_e h
  obtain ⟨σ6, e7, h⟩ := lt_e h
  refine q_copy F hE hI hl.1 hB (row_Voy_1 hq1) (row_Voy_1 hq0) wm_l_RX8_34 wm_ac_n wm_ac_s wm_ac_i hp5 (Nat.le_of_ble_eq_true rfl) (Nat.le_of_ble_eq_true rfl) dX8_takeOver_28 e7 (fun H locs hB => ?_)
  refine lv_aload_n F.1 F.2.1 dX8_takeOver_31 rfl (lv_at hl 1 rfl) ?_
  refine gf_RX8_15 F hE hB (po_Voy hq1) rfl dX8_takeOver_32 ?_
  refine lv_iconst (v := 0) F.1 F.2.1 dX8_takeOver_35 (by decide) ?_
  refine lv_aload_n F.1 F.2.1 dX8_takeOver_36 rfl (lv_at hl 0 rfl) ?_
  refine gf_RX8_15 F hE hB (po_Voy hq0) rfl dX8_takeOver_37 ?_
  refine lv_iconst (v := 0) F.1 F.2.1 dX8_takeOver_40 (by decide) ?_
  refine lv_bipush (v := 8) F.1 F.2.1 dX8_takeOver_41 (by decide) ?_
  obtain ⟨hp8, h⟩ := cp_e h
  obtain ⟨σ9, e10, h⟩ := lt_e h
  refine q_copy F hE hI hl.1 hB (row_Voy_2 hq1) (row_Voy_2 hq0) wm_l_RX8_34 wm_ac_n wm_ac_s wm_ac_i hp8 (Nat.le_of_ble_eq_true rfl) (Nat.le_of_ble_eq_true rfl) dX8_takeOver_43 e10 (fun H locs hB => ?_)
  exact q_vret F hlocks hr hB (Option.some.inj h) dX8_takeOver_46
def f_X8_takeAway (σ0 : Mem) (q0 : Nat) (a1 : Int32) : Option (Mem) := (bp (f_X9_isWithin σ0 a1 (σ0.1 q0 5)) (fun v2 => (if v2 = (0 : Int32) then (some σ0) else (lt (ms σ0 q0 5 ((σ0.1 q0 5) - (1 : Int32))) (fun σ4 => (cp (a1 + (1 : Int32)) a1 ((σ4.1 q0 5) - a1) 8 8 (lt (mw σ4 (q0 + 1) (va_cpy (σ4.1 (q0 + 1)) (σ4.1 (q0 + 1)) (a1 + (1 : Int32)).toNatClampNeg a1.toNatClampNeg ((σ4.1 q0 5) - a1).toNatClampNeg)) (fun σ7 => (some σ7)))))))))
set_option maxHeartbeats 4000000 in
set_option maxRecDepth 100000 in
theorem k_X8_takeAway {l : Launch} {D : va_G} {cy : Nat → ClassId} {ad : Nat → Nat} {ta tb : Nat} (hI : AdI ad) (σ0 : Mem) (q0 : Nat) (hq0 : isVoy q0) (a1 : Int32) {o : Mem} (h : f_X8_takeAway σ0 q0 a1 = some o) : Met l yX8_takeAway (Cond.code yX8_takeAway cX8_takeAway 2 none :: wG) rm_X8_takeAway (CP D cy ad ta tb σ0 [.ref (ad q0), .int a1]) (CQv D cy ad o) 0 0 (AA ad) := by
  refine Met.ofW (cc := cX8_takeAway) (maxL := 2) (ret := none) (by decide) rfl ?_
  intro p e s m args below meth c s₁ B hml hv
  obtain ⟨rfl, hE, hP⟩ := hv
  have hts := atoms_spec (ws := Cond.code yX8_takeAway cX8_takeAway 2 none :: wG) B.pre
  have F : CallFix p m c cX8_takeAway 2 s _ wG RX8 := ⟨B.exec, B.bytes, hml, findClass_of_methodNamed B.named, fun w hw => hts w (List.mem_cons_of_mem _ hw)⟩
  have hr := B.returns
  have hlocks := B.notSynchronized
  have hB : Bd D cy ad σ0 s.heap s.heap [] := ⟨hP, va_S.rf⟩
  have hl := lv_entry ([.ref (ad q0), .int a1] : List Value) (n := 2) (Nat.le_of_ble_eq_true rfl)
  rw [lg_entry_eq]
  generalize (lg_sl ([.ref (ad q0), .int a1] : List Value) ++ List.replicate (2 - (lg_sl ([.ref (ad q0), .int a1] : List Value)).length) Slot.unset).toArray = ls at hl ⊢
  have hl : lv_has ls 2 [(0, .ref (ad q0)), (1, .int a1)] := hl
  unfold f_X8_takeAway at h
  refine lv_iload_n F.1 F.2.1 dX8_takeAway_0 rfl (lv_at hl 1 rfl) ?_
  refine lv_aload_n F.1 F.2.1 dX8_takeAway_1 rfl (lv_at hl 0 rfl) ?_
  refine gf_RX8_27 F hE hB (po_Voy hq0) rfl dX8_takeAway_2 ?_
  obtain ⟨v2, hc1, h⟩ := bp_e h
  refine q_ci hB (q_goSN F hE hB (k_X9_isWithin hI σ0 a1 (σ0.1 q0 5) hc1) (ca_RX8_40 F.2.2.2.2 (hE.2.2.1 _ (List.mem_of_getElem? (i := 11) rfl)) ⟨Nat.le_of_ble_eq_true rfl, Nat.le_of_ble_eq_true rfl⟩) rfl hl.1 rfl (Nat.le_of_ble_eq_true rfl) dX8_takeAway_5 ⟨Nat.le_of_ble_eq_true rfl, Nat.le_of_ble_eq_true rfl⟩) (fun H locs hB => ?_)
  refine lv_if_eq (tgt := 42) F.1 F.2.1 dX8_takeAway_8 (by decide) (fun c3 => ?_) (fun c3 => ?_)
  · replace h := it_e c3 h
    exact q_vret F hlocks hr hB (Option.some.inj h) dX8_takeAway_42
  · replace h := ie_e c3 h
    refine lv_aload_n F.1 F.2.1 dX8_takeAway_11 rfl (lv_at hl 0 rfl) ?_
    refine lv_dup F.1 F.2.1 dX8_takeAway_12 rfl ?_
    refine gf_RX8_27 F hE hB (po_Voy hq0) rfl dX8_takeAway_13 ?_
    refine lv_iconst (v := 1) F.1 F.2.1 dX8_takeAway_16 (by decide) ?_
    refine lv_isub F.1 F.2.1 dX8_takeAway_17 ?_
    obtain ⟨σ4, e5, h⟩ := lt_e h
    refine pf_RX8_27 F hE hI hB (po_Voy hq0) rfl rfl (Nat.le_of_ble_eq_true rfl) (ph_Voy_5 hq0) dX8_takeAway_18 e5 (fun H locs hB => ?_)
    refine lv_aload_n F.1 F.2.1 dX8_takeAway_21 rfl (lv_at hl 0 rfl) ?_
    refine gf_RX8_9 F hE hB (po_Voy hq0) rfl dX8_takeAway_22 ?_
    refine lv_iload_n F.1 F.2.1 dX8_takeAway_25 rfl (lv_at hl 1 rfl) ?_
    refine lv_iconst (v := 1) F.1 F.2.1 dX8_takeAway_26 (by decide) ?_
    refine lv_iadd F.1 F.2.1 dX8_takeAway_27 ?_
    refine lv_aload_n F.1 F.2.1 dX8_takeAway_28 rfl (lv_at hl 0 rfl) ?_
    refine gf_RX8_9 F hE hB (po_Voy hq0) rfl dX8_takeAway_29 ?_
    refine lv_iload_n F.1 F.2.1 dX8_takeAway_32 rfl (lv_at hl 1 rfl) ?_
    refine lv_aload_n F.1 F.2.1 dX8_takeAway_33 rfl (lv_at hl 0 rfl) ?_
    refine gf_RX8_27 F hE hB (po_Voy hq0) rfl dX8_takeAway_34 ?_
    refine lv_iload_n F.1 F.2.1 dX8_takeAway_37 rfl (lv_at hl 1 rfl) ?_
    refine lv_isub F.1 F.2.1 dX8_takeAway_38 ?_
    obtain ⟨hp6, h⟩ := cp_e h
    obtain ⟨σ7, e8, h⟩ := lt_e h
    refine q_copy F hE hI hl.1 hB (row_Voy_1 hq0) (row_Voy_1 hq0) wm_l_RX8_34 wm_ac_n wm_ac_s wm_ac_i hp6 (Nat.le_of_ble_eq_true rfl) (Nat.le_of_ble_eq_true rfl) dX8_takeAway_39 e8 (fun H locs hB => ?_)
    exact q_vret F hlocks hr hB (Option.some.inj h) dX8_takeAway_42
def f_X8_setLifted_b37 (σ0 : Mem) (y0 : Int32) (y1 : Int32) (s2 : Nat) : Option (Mem) := (ck y1 8 (lt (ms σ0 s2 y1.toNatClampNeg y0) (fun σ4 => (some σ4))))
def f_X8_setLifted (σ0 : Mem) (q0 : Nat) (a1 : Int32) (a2 : Int32) (a3 : Int32) : Option (Mem) := (if a3 = (0 : Int32) then (ck a1 8 (f_X8_setLifted_b37 σ0 ((σ0.1 (q0 + 1) a1.toNatClampNeg) &&& (((1 : Int32) <<< (a2 &&& 31)) ^^^ (-1 : Int32))) a1 (q0 + 1))) else (ck a1 8 (f_X8_setLifted_b37 σ0 ((σ0.1 (q0 + 1) a1.toNatClampNeg) ||| ((1 : Int32) <<< (a2 &&& 31))) a1 (q0 + 1))))
set_option maxHeartbeats 4000000 in
set_option maxRecDepth 100000 in
theorem k_X8_setLifted {l : Launch} {D : va_G} {cy : Nat → ClassId} {ad : Nat → Nat} {ta tb : Nat} (hI : AdI ad) (σ0 : Mem) (q0 : Nat) (hq0 : isVoy q0) (a1 : Int32) (a2 : Int32) (a3 : Int32) {o : Mem} (h : f_X8_setLifted σ0 q0 a1 a2 a3 = some o) : Met l yX8_setLifted (Cond.code yX8_setLifted cX8_setLifted 5 none :: wG) rm_X8_setLifted (CP D cy ad ta tb σ0 [.ref (ad q0), .int a1, .int a2, .int a3]) (CQv D cy ad o) 0 0 (AA ad) := by
  refine Met.ofW (cc := cX8_setLifted) (maxL := 5) (ret := none) (by decide) rfl ?_
  intro p e s m args below meth c s₁ B hml hv
  obtain ⟨rfl, hE, hP⟩ := hv
  have hts := atoms_spec (ws := Cond.code yX8_setLifted cX8_setLifted 5 none :: wG) B.pre
  have F : CallFix p m c cX8_setLifted 5 s _ wG RX8 := ⟨B.exec, B.bytes, hml, findClass_of_methodNamed B.named, fun w hw => hts w (List.mem_cons_of_mem _ hw)⟩
  have hr := B.returns
  have hlocks := B.notSynchronized
  have hB : Bd D cy ad σ0 s.heap s.heap [] := ⟨hP, va_S.rf⟩
  have hl := lv_entry ([.ref (ad q0), .int a1, .int a2, .int a3] : List Value) (n := 5) (Nat.le_of_ble_eq_true rfl)
  rw [lg_entry_eq]
  generalize (lg_sl ([.ref (ad q0), .int a1, .int a2, .int a3] : List Value) ++ List.replicate (5 - (lg_sl ([.ref (ad q0), .int a1, .int a2, .int a3] : List Value)).length) Slot.unset).toArray = ls at hl ⊢
  have hl : lv_has ls 5 [(0, .ref (ad q0)), (1, .int a1), (2, .int a2), (3, .int a3)] := hl
  have B37 : ∀ (σ0 : Mem) (H : Heap) (locs : List Loc) (ls : Array Slot) (y0 : Int32) (y1 : Int32) (s2 : Nat) (hs2 : isRow s2 8), f_X8_setLifted_b37 σ0 y0 y1 s2 = some o → Bd D cy ad σ0 s.heap H locs → lv_has ls 5 [] → W p l e rm_X8_setLifted s m ([.ref (ad q0), .int a1, .int a2, .int a3] : List Value).toArray below meth c H locs 0 0 (MQ below (CQv D cy ad o) ([.ref (ad q0), .int a1, .int a2, .int a3] : List Value).toArray s 0 0 (AA ad)) (F0 m 37 ls [.int y0, .int y1, .ref (ad s2)]) := by
    intro σ0 H locs ls y0 y1 s2 hs2 h hB hl
    unfold f_X8_setLifted_b37 at h
    obtain ⟨hi3, h⟩ := ck_e h
    obtain ⟨σ4, e5, h⟩ := lt_e h
    refine q_iast F hE hI hB hs2 hi3 dX8_setLifted_37 e5 (fun H locs hB => ?_)
    exact q_vret F hlocks hr hB (Option.some.inj h) dX8_setLifted_38
  unfold f_X8_setLifted at h
  refine lv_iconst (v := 1) F.1 F.2.1 dX8_setLifted_0 (by decide) ?_
  refine lv_iload_n F.1 F.2.1 dX8_setLifted_1 rfl (lv_at hl 2 rfl) ?_
  refine lv_ishl F.1 F.2.1 dX8_setLifted_2 ?_
  refine lv_istore (lv' := [(4, .int ((1 : Int32) <<< (a2 &&& 31))), (0, .ref (ad q0)), (1, .int a1), (2, .int a2), (3, .int a3)]) F.1 F.2.1 dX8_setLifted_3 hl (by decide) rfl (fun ls hl => ?_)
  refine lv_aload_n F.1 F.2.1 dX8_setLifted_5 rfl (lv_at hl 1 rfl) ?_
  refine gf_RX8_9 F hE hB (po_Voy hq0) rfl dX8_setLifted_6 ?_
  refine lv_iload_n F.1 F.2.1 dX8_setLifted_9 rfl (lv_at hl 2 rfl) ?_
  refine lv_iload_n F.1 F.2.1 dX8_setLifted_10 rfl (lv_at hl 4 rfl) ?_
  refine lv_if_eq (tgt := 26) F.1 F.2.1 dX8_setLifted_11 (by decide) (fun c1 => ?_) (fun c1 => ?_)
  · replace h := it_e c1 h
    refine lv_aload_n F.1 F.2.1 dX8_setLifted_26 rfl (lv_at hl 1 rfl) ?_
    refine gf_RX8_9 F hE hB (po_Voy hq0) rfl dX8_setLifted_27 ?_
    refine lv_iload_n F.1 F.2.1 dX8_setLifted_30 rfl (lv_at hl 2 rfl) ?_
    obtain ⟨hi2, h⟩ := ck_e h
    refine q_iald F hE hB (po_row (row_Voy_1 hq0)) hi2 dX8_setLifted_31 ?_
    refine lv_iload F.1 F.2.1 dX8_setLifted_32 (lv_at hl 0 rfl) ?_
    refine lv_iconst (v := (-1)) F.1 F.2.1 dX8_setLifted_34 (by decide) ?_
    refine lv_ixor F.1 F.2.1 dX8_setLifted_35 ?_
    refine lv_iand F.1 F.2.1 dX8_setLifted_36 ?_
    exact B37 σ0 _ _ _ ((σ0.1 (q0 + 1) a1.toNatClampNeg) &&& (((1 : Int32) <<< (a2 &&& 31)) ^^^ (-1 : Int32))) a1 (q0 + 1) (row_Voy_1 hq0) h hB (lv_sub hl [] rfl)
  · replace h := ie_e c1 h
    refine lv_aload_n F.1 F.2.1 dX8_setLifted_14 rfl (lv_at hl 1 rfl) ?_
    refine gf_RX8_9 F hE hB (po_Voy hq0) rfl dX8_setLifted_15 ?_
    refine lv_iload_n F.1 F.2.1 dX8_setLifted_18 rfl (lv_at hl 2 rfl) ?_
    obtain ⟨hi6, h⟩ := ck_e h
    refine q_iald F hE hB (po_row (row_Voy_1 hq0)) hi6 dX8_setLifted_19 ?_
    refine lv_iload F.1 F.2.1 dX8_setLifted_20 (lv_at hl 0 rfl) ?_
    refine lv_ior F.1 F.2.1 dX8_setLifted_22 ?_
    refine lv_goto (tgt := 37) F.1 F.2.1 dX8_setLifted_23 (by decide) ?_
    exact B37 σ0 _ _ _ ((σ0.1 (q0 + 1) a1.toNatClampNeg) ||| ((1 : Int32) <<< (a2 &&& 31))) a1 (q0 + 1) (row_Voy_1 hq0) h hB (lv_sub hl [] rfl)
def f_X8_letStart_b32 (k2 : Mem → Nat → Int32 → Int32 → Option (Mem)) (σ0 : Mem) (r0 : Nat) (x1 : Int32) (x2 : Int32) : Option (Mem) := (k2 σ0 r0 x1 (x2 + (1 : Int32)))
def f_X8_letStart_b2 : Nat → Mem → Nat → Int32 → Int32 → Option (Mem)
  | 0, _, _, _, _ => none
  | n2 + 1, σ0, r0, x1, x2 => (if (σ0.1 r0 6) ≤ x2 then (some σ0) else (ck x2 8 (if (σ0.1 (r0 + 2) x2.toNatClampNeg) = x1 then (ck (0 : Int32) 9 (ck (0 : Int32) 9 (lt (ms σ0 (r0 + 3) (0 : Int32).toNatClampNeg ((σ0.1 (r0 + 3) (0 : Int32).toNatClampNeg) ||| ((1 : Int32) <<< (x2 &&& 31)))) (fun σ6 => (f_X8_letStart_b32 (f_X8_letStart_b2 n2) σ6 r0 x1 x2))))) else (f_X8_letStart_b32 (f_X8_letStart_b2 n2) σ0 r0 x1 x2))))
def f_X8_letStart (σ0 : Mem) (q0 : Nat) (a1 : Int32) : Option (Mem) := (f_X8_letStart_b2 300 σ0 q0 a1 (0 : Int32))
set_option maxHeartbeats 4000000 in
set_option maxRecDepth 100000 in
theorem k_X8_letStart {l : Launch} {D : va_G} {cy : Nat → ClassId} {ad : Nat → Nat} {ta tb : Nat} (hI : AdI ad) (σ0 : Mem) (q0 : Nat) (hq0 : isVoy q0) (a1 : Int32) {o : Mem} (h : f_X8_letStart σ0 q0 a1 = some o) : Met l yX8_letStart (Cond.code yX8_letStart cX8_letStart 3 none :: wG) rm_X8_letStart (CP D cy ad ta tb σ0 [.ref (ad q0), .int a1]) (CQv D cy ad o) 0 0 (AA ad) := by
  refine Met.ofW (cc := cX8_letStart) (maxL := 3) (ret := none) (by decide) rfl ?_
  intro p e s m args below meth c s₁ B hml hv
  obtain ⟨rfl, hE, hP⟩ := hv
  have hts := atoms_spec (ws := Cond.code yX8_letStart cX8_letStart 3 none :: wG) B.pre
  have F : CallFix p m c cX8_letStart 3 s _ wG RX8 := ⟨B.exec, B.bytes, hml, findClass_of_methodNamed B.named, fun w hw => hts w (List.mem_cons_of_mem _ hw)⟩
  have hr := B.returns
  have hlocks := B.notSynchronized
  have hB : Bd D cy ad σ0 s.heap s.heap [] := ⟨hP, va_S.rf⟩
  have hl := lv_entry ([.ref (ad q0), .int a1] : List Value) (n := 3) (Nat.le_of_ble_eq_true rfl)
  rw [lg_entry_eq]
  generalize (lg_sl ([.ref (ad q0), .int a1] : List Value) ++ List.replicate (3 - (lg_sl ([.ref (ad q0), .int a1] : List Value)).length) Slot.unset).toArray = ls at hl ⊢
  have hl : lv_has ls 3 [(0, .ref (ad q0)), (1, .int a1)] := hl
  have B2 : ∀ (n2 : Nat) (σ0 : Mem) (H : Heap) (locs : List Loc) (ls : Array Slot) (r0 : Nat) (x1 : Int32) (x2 : Int32) (hr0 : isVoy r0), f_X8_letStart_b2 n2 σ0 r0 x1 x2 = some o → Bd D cy ad σ0 s.heap H locs → lv_has ls 3 [(0, .ref (ad r0)), (1, .int x1), (2, .int x2)] → W p l e rm_X8_letStart s m ([.ref (ad q0), .int a1] : List Value).toArray below meth c H locs 0 0 (MQ below (CQv D cy ad o) ([.ref (ad q0), .int a1] : List Value).toArray s 0 0 (AA ad)) (F0 m 2 ls []) := by
    intro n2
    induction n2 with
    | zero => intro σ0 H locs ls r0 x1 x2 hr0 h hB hl; cases h
    | succ n2 ih2 =>
      have B32 : ∀ (σ0 : Mem) (H : Heap) (locs : List Loc) (ls : Array Slot) (r0 : Nat) (x1 : Int32) (x2 : Int32) (hr0 : isVoy r0), f_X8_letStart_b32 (f_X8_letStart_b2 n2) σ0 r0 x1 x2 = some o → Bd D cy ad σ0 s.heap H locs → lv_has ls 3 [(0, .ref (ad r0)), (1, .int x1), (2, .int x2)] → W p l e rm_X8_letStart s m ([.ref (ad q0), .int a1] : List Value).toArray below meth c H locs 0 0 (MQ below (CQv D cy ad o) ([.ref (ad q0), .int a1] : List Value).toArray s 0 0 (AA ad)) (F0 m 32 ls []) := by
        intro σ0 H locs ls r0 x1 x2 hr0 h hB hl
        unfold f_X8_letStart_b32 at h
        refine lv_iinc (v := (x2 + (1 : Int32))) (lv' := [(2, .int (x2 + (1 : Int32))), (0, .ref (ad r0)), (1, .int x1)]) F.1 F.2.1 dX8_letStart_32 hl (k := 2) rfl rfl (by decide) rfl (fun ls hl => ?_)
        refine lv_goto (tgt := 2) F.1 F.2.1 dX8_letStart_35 (by decide) ?_
        exact ih2 σ0 _ _ _ r0 x1 (x2 + (1 : Int32)) hr0 h hB (lv_sub hl [1, 2, 0] rfl)
      intro σ0 H locs ls r0 x1 x2 hr0 h hB hl
      rw [f_X8_letStart_b2] at h
      refine lv_iload_n F.1 F.2.1 dX8_letStart_2 rfl (lv_at hl 2 rfl) ?_
      refine lv_aload_n F.1 F.2.1 dX8_letStart_3 rfl (lv_at hl 0 rfl) ?_
      refine gf_RX8_31 F hE hB (po_Voy hr0) rfl dX8_letStart_4 ?_
      refine lv_icmp_ge (tgt := 38) F.1 F.2.1 dX8_letStart_7 (by decide) (fun c1 => ?_) (fun c1 => ?_)
      · replace h := it_e c1 h
        exact q_vret F hlocks hr hB (Option.some.inj h) dX8_letStart_38
      · replace h := ie_e c1 h
        refine lv_aload_n F.1 F.2.1 dX8_letStart_10 rfl (lv_at hl 0 rfl) ?_
        refine gf_RX8_15 F hE hB (po_Voy hr0) rfl dX8_letStart_11 ?_
        refine lv_iload_n F.1 F.2.1 dX8_letStart_14 rfl (lv_at hl 2 rfl) ?_
        obtain ⟨hi2, h⟩ := ck_e h
        refine q_iald F hE hB (po_row (row_Voy_2 hr0)) hi2 dX8_letStart_15 ?_
        refine lv_iload_n F.1 F.2.1 dX8_letStart_16 rfl (lv_at hl 1 rfl) ?_
        refine lv_icmp_ne (tgt := 32) F.1 F.2.1 dX8_letStart_17 (by decide) (fun c3 => ?_) (fun c3 => ?_)
        · replace h := ie_e c3 h
          exact B32 σ0 _ _ _ r0 x1 x2 hr0 h hB (lv_sub hl [0, 1, 2] rfl)
        · replace h := it_e c3 h
          refine lv_aload_n F.1 F.2.1 dX8_letStart_20 rfl (lv_at hl 0 rfl) ?_
          refine gf_RX8_18 F hE hB (po_Voy hr0) rfl dX8_letStart_21 ?_
          refine lv_iconst (v := 0) F.1 F.2.1 dX8_letStart_24 (by decide) ?_
          refine lv_dup2_11 F.1 F.2.1 dX8_letStart_25 rfl rfl ?_
          obtain ⟨hi4, h⟩ := ck_e h
          refine q_iald F hE hB (po_row (row_Voy_3 hr0)) hi4 dX8_letStart_26 ?_
          refine lv_iconst (v := 1) F.1 F.2.1 dX8_letStart_27 (by decide) ?_
          refine lv_iload_n F.1 F.2.1 dX8_letStart_28 rfl (lv_at hl 2 rfl) ?_
          refine lv_ishl F.1 F.2.1 dX8_letStart_29 ?_
          refine lv_ior F.1 F.2.1 dX8_letStart_30 ?_
          obtain ⟨hi5, h⟩ := ck_e h
          obtain ⟨σ6, e7, h⟩ := lt_e h
          refine q_iast F hE hI hB (row_Voy_3 hr0) hi5 dX8_letStart_31 e7 (fun H locs hB => ?_)
          exact B32 σ6 _ _ _ r0 x1 x2 hr0 h hB (lv_sub hl [0, 1, 2] rfl)
  unfold f_X8_letStart at h
  refine lv_iconst (v := 0) F.1 F.2.1 dX8_letStart_0 (by decide) ?_
  refine lv_istore_n (lv' := [(2, .int (0 : Int32)), (0, .ref (ad q0)), (1, .int a1)]) F.1 F.2.1 dX8_letStart_1 rfl hl (by decide) rfl (fun ls hl => ?_)
  exact B2 300 σ0 _ _ _ q0 a1 (0 : Int32) hq0 h hB (lv_sub hl [1, 2, 0] rfl)
def f_X8_leastOf_b8 (σ0 : Mem) : Nat → Int32 → Int32 → Option (Int32)
  | 0, _, _ => none
  | n8 + 1, x0, x1 => (if (8 : Int32) ≤ x1 then (some (-1 : Int32)) else (if ((x0 >>> (x1 &&& 31)) &&& (1 : Int32)) = (0 : Int32) then (f_X8_leastOf_b8 σ0 n8 x0 (x1 + (1 : Int32))) else (some x1)))
def f_X8_leastOf (σ0 : Mem) (a0 : Int32) : Option (Int32) := (if a0 = (0 : Int32) then (some (-1 : Int32)) else (f_X8_leastOf_b8 σ0 300 a0 (0 : Int32)))
set_option maxHeartbeats 4000000 in
set_option maxRecDepth 100000 in
theorem k_X8_leastOf {l : Launch} {D : va_G} {cy : Nat → ClassId} {ad : Nat → Nat} {ta tb : Nat} (hI : AdI ad) (σ0 : Mem) (a0 : Int32) {o : Int32} (h : f_X8_leastOf σ0 a0 = some o) : Met l yX8_leastOf (Cond.code yX8_leastOf cX8_leastOf 2 (some .int) :: wG) rm_X8_leastOf (CP D cy ad ta tb σ0 [.int a0]) (CQi D cy ad o σ0) 0 0 (AA ad) := by
  refine Met.ofW (cc := cX8_leastOf) (maxL := 2) (ret := (some .int)) (by decide) rfl ?_
  intro p e s m args below meth c s₁ B hml hv
  obtain ⟨rfl, hE, hP⟩ := hv
  have hts := atoms_spec (ws := Cond.code yX8_leastOf cX8_leastOf 2 (some .int) :: wG) B.pre
  have F : CallFix p m c cX8_leastOf 2 s _ wG RX8 := ⟨B.exec, B.bytes, hml, findClass_of_methodNamed B.named, fun w hw => hts w (List.mem_cons_of_mem _ hw)⟩
  have hr := B.returns
  have hlocks := B.notSynchronized
  have hB : Bd D cy ad σ0 s.heap s.heap [] := ⟨hP, va_S.rf⟩
  have hl := lv_entry ([.int a0] : List Value) (n := 2) (Nat.le_of_ble_eq_true rfl)
  rw [lg_entry_eq]
  generalize (lg_sl ([.int a0] : List Value) ++ List.replicate (2 - (lg_sl ([.int a0] : List Value)).length) Slot.unset).toArray = ls at hl ⊢
  have hl : lv_has ls 2 [(0, .int a0)] := hl
  have B8 : ∀ (n8 : Nat) (H : Heap) (locs : List Loc) (ls : Array Slot) (x0 : Int32) (x1 : Int32), f_X8_leastOf_b8 σ0 n8 x0 x1 = some o → Bd D cy ad σ0 s.heap H locs → lv_has ls 2 [(0, .int x0), (1, .int x1)] → W p l e rm_X8_leastOf s m ([.int a0] : List Value).toArray below meth c H locs 0 0 (MQ below (CQi D cy ad o σ0) ([.int a0] : List Value).toArray s 0 0 (AA ad)) (F0 m 8 ls []) := by
    intro n8
    induction n8 with
    | zero => intro H locs ls x0 x1 h hB hl; cases h
    | succ n8 ih8 =>
      intro H locs ls x0 x1 h hB hl
      rw [f_X8_leastOf_b8] at h
      refine lv_iload_n F.1 F.2.1 dX8_leastOf_8 rfl (lv_at hl 1 rfl) ?_
      refine lv_bipush (v := 8) F.1 F.2.1 dX8_leastOf_9 (by decide) ?_
      refine lv_icmp_ge (tgt := 30) F.1 F.2.1 dX8_leastOf_11 (by decide) (fun c2 => ?_) (fun c2 => ?_)
      · replace h := it_e c2 h
        refine lv_iconst (v := (-1)) F.1 F.2.1 dX8_leastOf_30 (by decide) ?_
        exact q_iret F hlocks hr hB (Option.some.inj h) rfl dX8_leastOf_31
      · replace h := ie_e c2 h
        refine lv_iload_n F.1 F.2.1 dX8_leastOf_14 rfl (lv_at hl 0 rfl) ?_
        refine lv_iload_n F.1 F.2.1 dX8_leastOf_15 rfl (lv_at hl 1 rfl) ?_
        refine lv_ishr F.1 F.2.1 dX8_leastOf_16 ?_
        refine lv_iconst (v := 1) F.1 F.2.1 dX8_leastOf_17 (by decide) ?_
        refine lv_iand F.1 F.2.1 dX8_leastOf_18 ?_
        refine lv_if_eq (tgt := 24) F.1 F.2.1 dX8_leastOf_19 (by decide) (fun c3 => ?_) (fun c3 => ?_)
        · replace h := it_e c3 h
          refine lv_iinc (v := (x1 + (1 : Int32))) (lv' := [(1, .int (x1 + (1 : Int32))), (0, .int x0)]) F.1 F.2.1 dX8_leastOf_24 hl (k := 1) rfl rfl (by decide) rfl (fun ls hl => ?_)
          refine lv_goto (tgt := 8) F.1 F.2.1 dX8_leastOf_27 (by decide) ?_
          exact ih8 _ _ _ x0 (x1 + (1 : Int32)) h hB (lv_sub hl [1, 0] rfl)
        · replace h := ie_e c3 h
          refine lv_iload_n F.1 F.2.1 dX8_leastOf_22 rfl (lv_at hl 1 rfl) ?_
          exact q_iret F hlocks hr hB (Option.some.inj h) rfl dX8_leastOf_23
  unfold f_X8_leastOf at h
  refine lv_iload_n F.1 F.2.1 dX8_leastOf_0 rfl (lv_at hl 0 rfl) ?_
  refine lv_if_ne (tgt := 6) F.1 F.2.1 dX8_leastOf_1 (by decide) (fun c1 => ?_) (fun c1 => ?_)
  · replace h := ie_e c1 h
    refine lv_iconst (v := 0) F.1 F.2.1 dX8_leastOf_6 (by decide) ?_
    refine lv_istore_n (lv' := [(1, .int (0 : Int32)), (0, .int a0)]) F.1 F.2.1 dX8_leastOf_7 rfl hl (by decide) rfl (fun ls hl => ?_)
    exact B8 300 _ _ _ a0 (0 : Int32) h hB (lv_sub hl [1, 0] rfl)
  · replace h := it_e c1 h
    refine lv_iconst (v := (-1)) F.1 F.2.1 dX8_leastOf_4 (by decide) ?_
    exact q_iret F hlocks hr hB (Option.some.inj h) rfl dX8_leastOf_5
def f_X8_letOver (σ0 : Mem) (q0 : Nat) (a1 : Int32) (a2 : Int32) (a3 : Int32) : Option (Mem) := (ck ((a1 * (8 : Int32)) + a2) 64 (lt (ms σ0 (q0 + 4) ((a1 * (8 : Int32)) + a2).toNatClampNeg a3) (fun σ2 => (ck a1 9 (ck a1 9 (lt (ms σ2 (q0 + 3) a1.toNatClampNeg ((σ2.1 (q0 + 3) a1.toNatClampNeg) &&& (((1 : Int32) <<< (a2 &&& 31)) ^^^ (-1 : Int32)))) (fun σ6 => (ck (a1 + (1 : Int32)) 9 (ck (a1 + (1 : Int32)) 9 (lt (ms σ6 (q0 + 3) (a1 + (1 : Int32)).toNatClampNeg ((σ6.1 (q0 + 3) (a1 + (1 : Int32)).toNatClampNeg) ||| ((1 : Int32) <<< (a2 &&& 31)))) (fun σ10 => (some σ10))))))))))))
set_option maxHeartbeats 4000000 in
set_option maxRecDepth 100000 in
theorem k_X8_letOver {l : Launch} {D : va_G} {cy : Nat → ClassId} {ad : Nat → Nat} {ta tb : Nat} (hI : AdI ad) (σ0 : Mem) (q0 : Nat) (hq0 : isVoy q0) (a1 : Int32) (a2 : Int32) (a3 : Int32) {o : Mem} (h : f_X8_letOver σ0 q0 a1 a2 a3 = some o) : Met l yX8_letOver (Cond.code yX8_letOver cX8_letOver 4 none :: wG) rm_X8_letOver (CP D cy ad ta tb σ0 [.ref (ad q0), .int a1, .int a2, .int a3]) (CQv D cy ad o) 0 0 (AA ad) := by
  refine Met.ofW (cc := cX8_letOver) (maxL := 4) (ret := none) (by decide) rfl ?_
  intro p e s m args below meth c s₁ B hml hv
  obtain ⟨rfl, hE, hP⟩ := hv
  have hts := atoms_spec (ws := Cond.code yX8_letOver cX8_letOver 4 none :: wG) B.pre
  have F : CallFix p m c cX8_letOver 4 s _ wG RX8 := ⟨B.exec, B.bytes, hml, findClass_of_methodNamed B.named, fun w hw => hts w (List.mem_cons_of_mem _ hw)⟩
  have hr := B.returns
  have hlocks := B.notSynchronized
  have hB : Bd D cy ad σ0 s.heap s.heap [] := ⟨hP, va_S.rf⟩
  have hl := lv_entry ([.ref (ad q0), .int a1, .int a2, .int a3] : List Value) (n := 4) (Nat.le_of_ble_eq_true rfl)
  rw [lg_entry_eq]
  generalize (lg_sl ([.ref (ad q0), .int a1, .int a2, .int a3] : List Value) ++ List.replicate (4 - (lg_sl ([.ref (ad q0), .int a1, .int a2, .int a3] : List Value)).length) Slot.unset).toArray = ls at hl ⊢
  have hl : lv_has ls 4 [(0, .ref (ad q0)), (1, .int a1), (2, .int a2), (3, .int a3)] := hl
  unfold f_X8_letOver at h
  refine lv_aload_n F.1 F.2.1 dX8_letOver_0 rfl (lv_at hl 0 rfl) ?_
  refine gf_RX8_21 F hE hB (po_Voy hq0) rfl dX8_letOver_1 ?_
  refine lv_iload_n F.1 F.2.1 dX8_letOver_4 rfl (lv_at hl 1 rfl) ?_
  refine lv_bipush (v := 8) F.1 F.2.1 dX8_letOver_5 (by decide) ?_
  refine lv_imul F.1 F.2.1 dX8_letOver_7 ?_
  refine lv_iload_n F.1 F.2.1 dX8_letOver_8 rfl (lv_at hl 2 rfl) ?_
  refine lv_iadd F.1 F.2.1 dX8_letOver_9 ?_
  refine lv_iload_n F.1 F.2.1 dX8_letOver_10 rfl (lv_at hl 3 rfl) ?_
  obtain ⟨hi1, h⟩ := ck_e h
  obtain ⟨σ2, e3, h⟩ := lt_e h
  refine q_iast F hE hI hB (row_Voy_4 hq0) hi1 dX8_letOver_11 e3 (fun H locs hB => ?_)
  refine lv_aload_n F.1 F.2.1 dX8_letOver_12 rfl (lv_at hl 0 rfl) ?_
  refine gf_RX8_18 F hE hB (po_Voy hq0) rfl dX8_letOver_13 ?_
  refine lv_iload_n F.1 F.2.1 dX8_letOver_16 rfl (lv_at hl 1 rfl) ?_
  refine lv_dup2_11 F.1 F.2.1 dX8_letOver_17 rfl rfl ?_
  obtain ⟨hi4, h⟩ := ck_e h
  refine q_iald F hE hB (po_row (row_Voy_3 hq0)) hi4 dX8_letOver_18 ?_
  refine lv_iconst (v := 1) F.1 F.2.1 dX8_letOver_19 (by decide) ?_
  refine lv_iload_n F.1 F.2.1 dX8_letOver_20 rfl (lv_at hl 2 rfl) ?_
  refine lv_ishl F.1 F.2.1 dX8_letOver_21 ?_
  refine lv_iconst (v := (-1)) F.1 F.2.1 dX8_letOver_22 (by decide) ?_
  refine lv_ixor F.1 F.2.1 dX8_letOver_23 ?_
  refine lv_iand F.1 F.2.1 dX8_letOver_24 ?_
  obtain ⟨hi5, h⟩ := ck_e h
  obtain ⟨σ6, e7, h⟩ := lt_e h
  refine q_iast F hE hI hB (row_Voy_3 hq0) hi5 dX8_letOver_25 e7 (fun H locs hB => ?_)
  refine lv_aload_n F.1 F.2.1 dX8_letOver_26 rfl (lv_at hl 0 rfl) ?_
  refine gf_RX8_18 F hE hB (po_Voy hq0) rfl dX8_letOver_27 ?_
  refine lv_iload_n F.1 F.2.1 dX8_letOver_30 rfl (lv_at hl 1 rfl) ?_
  refine lv_iconst (v := 1) F.1 F.2.1 dX8_letOver_31 (by decide) ?_
  refine lv_iadd F.1 F.2.1 dX8_letOver_32 ?_
  refine lv_dup2_11 F.1 F.2.1 dX8_letOver_33 rfl rfl ?_
  obtain ⟨hi8, h⟩ := ck_e h
  refine q_iald F hE hB (po_row (row_Voy_3 hq0)) hi8 dX8_letOver_34 ?_
  refine lv_iconst (v := 1) F.1 F.2.1 dX8_letOver_35 (by decide) ?_
  refine lv_iload_n F.1 F.2.1 dX8_letOver_36 rfl (lv_at hl 2 rfl) ?_
  refine lv_ishl F.1 F.2.1 dX8_letOver_37 ?_
  refine lv_ior F.1 F.2.1 dX8_letOver_38 ?_
  obtain ⟨hi9, h⟩ := ck_e h
  obtain ⟨σ10, e11, h⟩ := lt_e h
  refine q_iast F hE hI hB (row_Voy_3 hq0) hi9 dX8_letOver_39 e11 (fun H locs hB => ?_)
  exact q_vret F hlocks hr hB (Option.some.inj h) dX8_letOver_40
def f_X8_letGoOn_b88 (k9 : Mem → Nat → Int32 → Int32 → Int32 → Option (Int32 × Mem)) (σ0 : Mem) (r0 : Nat) (x1 : Int32) (x2 : Int32) (x3 : Int32) : Option (Int32 × Mem) := (k9 σ0 r0 x1 x2 (x3 + (-1 : Int32)))
def f_X8_letGoOn_b9 : Nat → Mem → Nat → Int32 → Int32 → Int32 → Option (Int32 × Mem)
  | 0, _, _, _, _, _ => none
  | n9 + 1, σ0, r0, x1, x2, x3 => (if x3 < (0 : Int32) then (cb x2 (some (x2, σ0))) else (ck x3 9 (ck x3 8 (bp (f_X8_leastOf σ0 ((σ0.1 (r0 + 3) x3.toNatClampNeg) &&& (σ0.1 (r0 + 1) x3.toNatClampNeg))) (fun v6 => (if v6 = (-1 : Int32) then (f_X8_letGoOn_b88 (f_X8_letGoOn_b9 n9) σ0 r0 x1 x2 x3) else (bv (f_X8_letOver σ0 r0 x3 v6 x1) (fun σ9 => (ck x3 9 (bp (f_X8_leastOf σ9 (σ9.1 (r0 + 3) x3.toNatClampNeg)) (fun v12 => (if v12 = (-1 : Int32) then (f_X8_letGoOn_b88 (f_X8_letGoOn_b9 n9) σ9 r0 x1 (1 : Int32) x3) else (bv (f_X8_letOver σ9 r0 x3 v12 x1) (fun σ15 => (ck x3 8 (ck x3 8 (lt (ms σ15 (r0 + 5) x3.toNatClampNeg ((σ15.1 (r0 + 5) x3.toNatClampNeg) ||| ((1 : Int32) <<< (v12 &&& 31)))) (fun σ18 => (f_X8_letGoOn_b88 (f_X8_letGoOn_b9 n9) σ18 r0 x1 (1 : Int32) x3)))))))))))))))))))
def f_X8_letGoOn (σ0 : Mem) (q0 : Nat) (a1 : Int32) : Option (Int32 × Mem) := (f_X8_letGoOn_b9 300 σ0 q0 a1 (0 : Int32) ((σ0.1 q0 5) - (1 : Int32)))
set_option maxHeartbeats 4000000 in
set_option maxRecDepth 100000 in
theorem k_X8_letGoOn {l : Launch} {D : va_G} {cy : Nat → ClassId} {ad : Nat → Nat} {ta tb : Nat} (hI : AdI ad) (σ0 : Mem) (q0 : Nat) (hq0 : isVoy q0) (a1 : Int32) {o : Int32 × Mem} (h : f_X8_letGoOn σ0 q0 a1 = some o) : Met l yX8_letGoOn (Cond.code yX8_letGoOn cX8_letGoOn 6 (some .boolean) :: wG) rm_X8_letGoOn (CP D cy ad ta tb σ0 [.ref (ad q0), .int a1]) (CQi D cy ad o.1 o.2) 0 0 (AA ad) := by
  refine Met.ofW (cc := cX8_letGoOn) (maxL := 6) (ret := (some .boolean)) (by decide) rfl ?_
  intro p e s m args below meth c s₁ B hml hv
  obtain ⟨rfl, hE, hP⟩ := hv
  have hts := atoms_spec (ws := Cond.code yX8_letGoOn cX8_letGoOn 6 (some .boolean) :: wG) B.pre
  have F : CallFix p m c cX8_letGoOn 6 s _ wG RX8 := ⟨B.exec, B.bytes, hml, findClass_of_methodNamed B.named, fun w hw => hts w (List.mem_cons_of_mem _ hw)⟩
  have hr := B.returns
  have hlocks := B.notSynchronized
  have hB : Bd D cy ad σ0 s.heap s.heap [] := ⟨hP, va_S.rf⟩
  have hl := lv_entry ([.ref (ad q0), .int a1] : List Value) (n := 6) (Nat.le_of_ble_eq_true rfl)
  rw [lg_entry_eq]
  generalize (lg_sl ([.ref (ad q0), .int a1] : List Value) ++ List.replicate (6 - (lg_sl ([.ref (ad q0), .int a1] : List Value)).length) Slot.unset).toArray = ls at hl ⊢
  have hl : lv_has ls 6 [(0, .ref (ad q0)), (1, .int a1)] := hl
  have B9 : ∀ (n9 : Nat) (σ0 : Mem) (H : Heap) (locs : List Loc) (ls : Array Slot) (r0 : Nat) (x1 : Int32) (x2 : Int32) (x3 : Int32) (hr0 : isVoy r0), f_X8_letGoOn_b9 n9 σ0 r0 x1 x2 x3 = some o → Bd D cy ad σ0 s.heap H locs → lv_has ls 6 [(0, .ref (ad r0)), (1, .int x1), (2, .int x2), (3, .int x3)] → W p l e rm_X8_letGoOn s m ([.ref (ad q0), .int a1] : List Value).toArray below meth c H locs 0 0 (MQ below (CQi D cy ad o.1 o.2) ([.ref (ad q0), .int a1] : List Value).toArray s 0 0 (AA ad)) (F0 m 9 ls []) := by
    intro n9
    induction n9 with
    | zero => intro σ0 H locs ls r0 x1 x2 x3 hr0 h hB hl; cases h
    | succ n9 ih9 =>
      have B88 : ∀ (σ0 : Mem) (H : Heap) (locs : List Loc) (ls : Array Slot) (r0 : Nat) (x1 : Int32) (x2 : Int32) (x3 : Int32) (hr0 : isVoy r0), f_X8_letGoOn_b88 (f_X8_letGoOn_b9 n9) σ0 r0 x1 x2 x3 = some o → Bd D cy ad σ0 s.heap H locs → lv_has ls 6 [(0, .ref (ad r0)), (1, .int x1), (2, .int x2), (3, .int x3)] → W p l e rm_X8_letGoOn s m ([.ref (ad q0), .int a1] : List Value).toArray below meth c H locs 0 0 (MQ below (CQi D cy ad o.1 o.2) ([.ref (ad q0), .int a1] : List Value).toArray s 0 0 (AA ad)) (F0 m 88 ls []) := by
        intro σ0 H locs ls r0 x1 x2 x3 hr0 h hB hl
        unfold f_X8_letGoOn_b88 at h
        refine lv_iinc (v := (x3 + (-1 : Int32))) (lv' := [(3, .int (x3 + (-1 : Int32))), (0, .ref (ad r0)), (1, .int x1), (2, .int x2)]) F.1 F.2.1 dX8_letGoOn_88 hl (k := 3) rfl rfl (by decide) rfl (fun ls hl => ?_)
        refine lv_goto (tgt := 9) F.1 F.2.1 dX8_letGoOn_91 (by decide) ?_
        exact ih9 σ0 _ _ _ r0 x1 x2 (x3 + (-1 : Int32)) hr0 h hB (lv_sub hl [1, 2, 3, 0] rfl)
      intro σ0 H locs ls r0 x1 x2 x3 hr0 h hB hl
      rw [f_X8_letGoOn_b9] at h
      refine lv_iload_n F.1 F.2.1 dX8_letGoOn_9 rfl (lv_at hl 3 rfl) ?_
      refine lv_if_lt (tgt := 94) F.1 F.2.1 dX8_letGoOn_10 (by decide) (fun c1 => ?_) (fun c1 => ?_)
      · replace h := it_e c1 h
        refine lv_iload_n F.1 F.2.1 dX8_letGoOn_94 rfl (lv_at hl 2 rfl) ?_
        obtain ⟨hn2, h⟩ := cb_e h
        exact q_zret F hlocks hr hn2 hB (so1 h) (so2 h) dX8_letGoOn_95
      · replace h := ie_e c1 h
        refine lv_aload_n F.1 F.2.1 dX8_letGoOn_13 rfl (lv_at hl 0 rfl) ?_
        refine gf_RX8_18 F hE hB (po_Voy hr0) rfl dX8_letGoOn_14 ?_
        refine lv_iload_n F.1 F.2.1 dX8_letGoOn_17 rfl (lv_at hl 3 rfl) ?_
        obtain ⟨hi3, h⟩ := ck_e h
        refine q_iald F hE hB (po_row (row_Voy_3 hr0)) hi3 dX8_letGoOn_18 ?_
        refine lv_aload_n F.1 F.2.1 dX8_letGoOn_19 rfl (lv_at hl 0 rfl) ?_
        refine gf_RX8_9 F hE hB (po_Voy hr0) rfl dX8_letGoOn_20 ?_
        refine lv_iload_n F.1 F.2.1 dX8_letGoOn_23 rfl (lv_at hl 3 rfl) ?_
        obtain ⟨hi4, h⟩ := ck_e h
        refine q_iald F hE hB (po_row (row_Voy_1 hr0)) hi4 dX8_letGoOn_24 ?_
        refine lv_iand F.1 F.2.1 dX8_letGoOn_25 ?_
        obtain ⟨v6, hc5, h⟩ := bp_e h
        refine q_ci hB (q_goS F hE hB (k_X8_leastOf hI σ0 ((σ0.1 (r0 + 3) x3.toNatClampNeg) &&& (σ0.1 (r0 + 1) x3.toNatClampNeg)) hc5) (ca_RX8_58 F.2.2.2.2 ⟨Nat.le_of_ble_eq_true rfl, Nat.le_of_ble_eq_true rfl⟩) rfl hl.1 rfl (Nat.le_of_ble_eq_true rfl) dX8_letGoOn_26 ⟨Nat.le_of_ble_eq_true rfl, Nat.le_of_ble_eq_true rfl⟩) (fun H locs hB => ?_)
        refine lv_istore (lv' := [(4, .int v6), (0, .ref (ad r0)), (1, .int x1), (2, .int x2), (3, .int x3)]) F.1 F.2.1 dX8_letGoOn_29 hl (by decide) rfl (fun ls hl => ?_)
        refine lv_iload F.1 F.2.1 dX8_letGoOn_31 (lv_at hl 0 rfl) ?_
        refine lv_iconst (v := (-1)) F.1 F.2.1 dX8_letGoOn_33 (by decide) ?_
        refine lv_icmp_ne (tgt := 40) F.1 F.2.1 dX8_letGoOn_34 (by decide) (fun c7 => ?_) (fun c7 => ?_)
        · replace h := ie_e c7 h
          refine lv_iconst (v := 1) F.1 F.2.1 dX8_letGoOn_40 (by decide) ?_
          refine lv_istore_n (lv' := [(2, .int (1 : Int32)), (4, .int v6), (0, .ref (ad r0)), (1, .int x1), (3, .int x3)]) F.1 F.2.1 dX8_letGoOn_41 rfl hl (by decide) rfl (fun ls hl => ?_)
          refine lv_aload_n F.1 F.2.1 dX8_letGoOn_42 rfl (lv_at hl 2 rfl) ?_
          refine lv_iload_n F.1 F.2.1 dX8_letGoOn_43 rfl (lv_at hl 4 rfl) ?_
          refine lv_iload F.1 F.2.1 dX8_letGoOn_44 (lv_at hl 1 rfl) ?_
          refine lv_iload_n F.1 F.2.1 dX8_letGoOn_46 rfl (lv_at hl 3 rfl) ?_
          obtain ⟨σ9, hc8, h⟩ := bv_e h
          refine q_cv hB (q_goV F hE hB (k_X8_letOver hI σ0 r0 hr0 x3 v6 x1 hc8) (ca_RX8_62 F.2.2.2.2 ⟨Nat.le_of_ble_eq_true rfl, Nat.le_of_ble_eq_true rfl⟩) rfl (po_Voy hr0) rfl hl.1 rfl (Nat.le_of_ble_eq_true rfl) dX8_letGoOn_47 ⟨Nat.le_of_ble_eq_true rfl, Nat.le_of_ble_eq_true rfl⟩) (fun H locs hB => ?_)
          refine lv_aload_n F.1 F.2.1 dX8_letGoOn_50 rfl (lv_at hl 2 rfl) ?_
          refine gf_RX8_18 F hE hB (po_Voy hr0) rfl dX8_letGoOn_51 ?_
          refine lv_iload_n F.1 F.2.1 dX8_letGoOn_54 rfl (lv_at hl 4 rfl) ?_
          obtain ⟨hi10, h⟩ := ck_e h
          refine q_iald F hE hB (po_row (row_Voy_3 hr0)) hi10 dX8_letGoOn_55 ?_
          obtain ⟨v12, hc11, h⟩ := bp_e h
          refine q_ci hB (q_goS F hE hB (k_X8_leastOf hI σ9 (σ9.1 (r0 + 3) x3.toNatClampNeg) hc11) (ca_RX8_58 F.2.2.2.2 ⟨Nat.le_of_ble_eq_true rfl, Nat.le_of_ble_eq_true rfl⟩) rfl hl.1 rfl (Nat.le_of_ble_eq_true rfl) dX8_letGoOn_56 ⟨Nat.le_of_ble_eq_true rfl, Nat.le_of_ble_eq_true rfl⟩) (fun H locs hB => ?_)
          refine lv_istore (lv' := [(5, .int v12), (2, .int (1 : Int32)), (4, .int v6), (0, .ref (ad r0)), (1, .int x1), (3, .int x3)]) F.1 F.2.1 dX8_letGoOn_59 hl (by decide) rfl (fun ls hl => ?_)
          refine lv_iload F.1 F.2.1 dX8_letGoOn_61 (lv_at hl 0 rfl) ?_
          refine lv_iconst (v := (-1)) F.1 F.2.1 dX8_letGoOn_63 (by decide) ?_
          refine lv_icmp_eq (tgt := 88) F.1 F.2.1 dX8_letGoOn_64 (by decide) (fun c13 => ?_) (fun c13 => ?_)
          · replace h := it_e c13 h
            exact B88 σ9 _ _ _ r0 x1 (1 : Int32) x3 hr0 h hB (lv_sub hl [3, 4, 1, 5] rfl)
          · replace h := ie_e c13 h
            refine lv_aload_n F.1 F.2.1 dX8_letGoOn_67 rfl (lv_at hl 3 rfl) ?_
            refine lv_iload_n F.1 F.2.1 dX8_letGoOn_68 rfl (lv_at hl 5 rfl) ?_
            refine lv_iload F.1 F.2.1 dX8_letGoOn_69 (lv_at hl 0 rfl) ?_
            refine lv_iload_n F.1 F.2.1 dX8_letGoOn_71 rfl (lv_at hl 4 rfl) ?_
            obtain ⟨σ15, hc14, h⟩ := bv_e h
            refine q_cv hB (q_goV F hE hB (k_X8_letOver hI σ9 r0 hr0 x3 v12 x1 hc14) (ca_RX8_62 F.2.2.2.2 ⟨Nat.le_of_ble_eq_true rfl, Nat.le_of_ble_eq_true rfl⟩) rfl (po_Voy hr0) rfl hl.1 rfl (Nat.le_of_ble_eq_true rfl) dX8_letGoOn_72 ⟨Nat.le_of_ble_eq_true rfl, Nat.le_of_ble_eq_true rfl⟩) (fun H locs hB => ?_)
            refine lv_aload_n F.1 F.2.1 dX8_letGoOn_75 rfl (lv_at hl 3 rfl) ?_
            refine gf_RX8_24 F hE hB (po_Voy hr0) rfl dX8_letGoOn_76 ?_
            refine lv_iload_n F.1 F.2.1 dX8_letGoOn_79 rfl (lv_at hl 5 rfl) ?_
            refine lv_dup2_11 F.1 F.2.1 dX8_letGoOn_80 rfl rfl ?_
            obtain ⟨hi16, h⟩ := ck_e h
            refine q_iald F hE hB (po_row (row_Voy_5 hr0)) hi16 dX8_letGoOn_81 ?_
            refine lv_iconst (v := 1) F.1 F.2.1 dX8_letGoOn_82 (by decide) ?_
            refine lv_iload F.1 F.2.1 dX8_letGoOn_83 (lv_at hl 0 rfl) ?_
            refine lv_ishl F.1 F.2.1 dX8_letGoOn_85 ?_
            refine lv_ior F.1 F.2.1 dX8_letGoOn_86 ?_
            obtain ⟨hi17, h⟩ := ck_e h
            obtain ⟨σ18, e19, h⟩ := lt_e h
            refine q_iast F hE hI hB (row_Voy_5 hr0) hi17 dX8_letGoOn_87 e19 (fun H locs hB => ?_)
            exact B88 σ18 _ _ _ r0 x1 (1 : Int32) x3 hr0 h hB (lv_sub hl [3, 4, 1, 5] rfl)
        · replace h := it_e c7 h
          refine lv_goto (tgt := 88) F.1 F.2.1 dX8_letGoOn_37 (by decide) ?_
          exact B88 σ0 _ _ _ r0 x1 x2 x3 hr0 h hB (lv_sub hl [1, 2, 3, 4] rfl)
  unfold f_X8_letGoOn at h
  refine lv_iconst (v := 0) F.1 F.2.1 dX8_letGoOn_0 (by decide) ?_
  refine lv_istore_n (lv' := [(2, .int (0 : Int32)), (0, .ref (ad q0)), (1, .int a1)]) F.1 F.2.1 dX8_letGoOn_1 rfl hl (by decide) rfl (fun ls hl => ?_)
  refine lv_aload_n F.1 F.2.1 dX8_letGoOn_2 rfl (lv_at hl 1 rfl) ?_
  refine gf_RX8_27 F hE hB (po_Voy hq0) rfl dX8_letGoOn_3 ?_
  refine lv_iconst (v := 1) F.1 F.2.1 dX8_letGoOn_6 (by decide) ?_
  refine lv_isub F.1 F.2.1 dX8_letGoOn_7 ?_
  refine lv_istore_n (lv' := [(3, .int ((σ0.1 q0 5) - (1 : Int32))), (2, .int (0 : Int32)), (0, .ref (ad q0)), (1, .int a1)]) F.1 F.2.1 dX8_letGoOn_8 rfl hl (by decide) rfl (fun ls hl => ?_)
  exact B9 300 σ0 _ _ _ q0 a1 (0 : Int32) ((σ0.1 q0 5) - (1 : Int32)) hq0 h hB (lv_sub hl [2, 3, 1, 0] rfl)
