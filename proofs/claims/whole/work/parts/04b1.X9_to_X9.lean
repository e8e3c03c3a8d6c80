def f_X9_get_b16 (σ0 : Mem) : Option (Int32 × Mem) := (some ((-2147483648 : Int32), σ0))
def f_X9_get (σ0 : Mem) (a1 : Int32) (a2 : Int32) (a3 : Int32) : Option (Int32 × Mem) := (bp (f_X9_isWithin σ0 a1 (4 : Int32)) (fun v2 => (if v2 = (0 : Int32) then (f_X9_get_b16 σ0) else (bp (f_X9_isWithin σ0 a2 (3 : Int32)) (fun v5 => (if v5 = (0 : Int32) then (f_X9_get_b16 σ0) else (ck a1 4 (bp (f_X9_itemFinding σ0 (38 + 2 * a1.toNatClampNeg) a2 a3) (fun v9 => (if v9 = (0 : Int32) then (ck a1 4 (ck a3 60 (some ((σ0.1 ((38 + 2 * a1.toNatClampNeg) + 1) a3.toNatClampNeg), σ0)))) else (lt (ms σ0 0 12 v9) (fun σ13 => (some ((-2147483648 : Int32), σ13))))))))))))))
set_option maxHeartbeats 4000000 in
set_option maxRecDepth 100000 in
theorem k_X9_get {l : Launch} {D : va_G} {cy : Nat → ClassId} {ad : Nat → Nat} {ta tb : Nat} (hI : AdI ad) (σ0 : Mem) (a1 : Int32) (a2 : Int32) (a3 : Int32) {o : Int32 × Mem} (h : f_X9_get σ0 a1 a2 a3 = some o) : Met l yX9_get (Cond.code yX9_get cX9_get 5 (some .int) :: wG) rm_X9_get (CP D cy ad ta tb σ0 [.ref (ad 0), .int a1, .int a2, .int a3]) (CQi D cy ad o.1 o.2) 0 0 (AA ad) := by
  refine Met.ofW (cc := cX9_get) (maxL := 5) (ret := (some .int)) (by decide) rfl ?_
  intro p e s m args below meth c s₁ B hml hv
  obtain ⟨rfl, hE, hP⟩ := hv
  have hts := atoms_spec (ws := Cond.code yX9_get cX9_get 5 (some .int) :: wG) B.pre
  have F : CallFix p m c cX9_get 5 s _ wG RX9 := ⟨B.exec, B.bytes, hml, findClass_of_methodNamed B.named, fun w hw => hts w (List.mem_cons_of_mem _ hw)⟩
  have hr := B.returns
  have hlocks := B.notSynchronized
  have hB : Bd D cy ad σ0 s.heap s.heap [] := ⟨hP, va_S.rf⟩
  have hl := lv_entry ([.ref (ad 0), .int a1, .int a2, .int a3] : List Value) (n := 5) (Nat.le_of_ble_eq_true rfl)
  rw [lg_entry_eq]
  generalize (lg_sl ([.ref (ad 0), .int a1, .int a2, .int a3] : List Value) ++ List.replicate (5 - (lg_sl ([.ref (ad 0), .int a1, .int a2, .int a3] : List Value)).length) Slot.unset).toArray = ls at hl ⊢
  have hl : lv_has ls 5 [(0, .ref (ad 0)), (1, .int a1), (2, .int a2), (3, .int a3)] := hl
  have B16 : ∀ (σ0 : Mem) (H : Heap) (locs : List Loc) (ls : Array Slot), f_X9_get_b16 σ0 = some o → Bd D cy ad σ0 s.heap H locs → lv_has ls 5 [] → W p l e rm_X9_get s m ([.ref (ad 0), .int a1, .int a2, .int a3] : List Value).toArray below meth c H locs 0 0 (MQ below (CQi D cy ad o.1 o.2) ([.ref (ad 0), .int a1, .int a2, .int a3] : List Value).toArray s 0 0 (AA ad)) (F0 m 16 ls []) := by
    intro σ0 H locs ls h hB hl
    unfold f_X9_get_b16 at h
    refine lv_ldcw (v := (-2147483648)) F.1 F.2.1 F.2.2.2.1 (F.2.2.2.2 _ wm_k_RX9_258) dX9_get_16 ?_
    exact q_iret F hlocks hr hB (so1 h) (so2 h) dX9_get_19
  unfold f_X9_get at h
  refine lv_iload_n F.1 F.2.1 dX9_get_0 rfl (lv_at hl 1 rfl) ?_
  refine lv_iconst (v := 4) F.1 F.2.1 dX9_get_1 (by decide) ?_
  obtain ⟨v2, hc1, h⟩ := bp_e h
  refine q_ci hB (q_goS F hE hB (k_X9_isWithin hI σ0 a1 (4 : Int32) hc1) (ca_RX9_84 F.2.2.2.2 ⟨Nat.le_of_ble_eq_true rfl, Nat.le_of_ble_eq_true rfl⟩) rfl hl.1 rfl (Nat.le_of_ble_eq_true rfl) dX9_get_2 ⟨Nat.le_of_ble_eq_true rfl, Nat.le_of_ble_eq_true rfl⟩) (fun H locs hB => ?_)
  refine lv_if_eq (tgt := 16) F.1 F.2.1 dX9_get_5 (by decide) (fun c3 => ?_) (fun c3 => ?_)
  · replace h := it_e c3 h
    exact B16 σ0 _ _ _ h hB (lv_sub hl [] rfl)
  · replace h := ie_e c3 h
    refine lv_iload_n F.1 F.2.1 dX9_get_8 rfl (lv_at hl 2 rfl) ?_
    refine lv_iconst (v := 3) F.1 F.2.1 dX9_get_9 (by decide) ?_
    obtain ⟨v5, hc4, h⟩ := bp_e h
    refine q_ci hB (q_goS F hE hB (k_X9_isWithin hI σ0 a2 (3 : Int32) hc4) (ca_RX9_84 F.2.2.2.2 ⟨Nat.le_of_ble_eq_true rfl, Nat.le_of_ble_eq_true rfl⟩) rfl hl.1 rfl (Nat.le_of_ble_eq_true rfl) dX9_get_10 ⟨Nat.le_of_ble_eq_true rfl, Nat.le_of_ble_eq_true rfl⟩) (fun H locs hB => ?_)
    refine lv_if_ne (tgt := 20) F.1 F.2.1 dX9_get_13 (by decide) (fun c6 => ?_) (fun c6 => ?_)
    · replace h := ie_e c6 h
      refine lv_aload_n F.1 F.2.1 dX9_get_20 rfl (lv_at hl 0 rfl) ?_
      refine gf_RX9_45 F hE hB po_0 rfl dX9_get_21 ?_
      refine lv_iload_n F.1 F.2.1 dX9_get_24 rfl (lv_at hl 1 rfl) ?_
      obtain ⟨hi7, h⟩ := ck_e h
      refine q_aldq (t0 := 3) F hE hB po_37 rfl hi7 dX9_get_25 ?_
      refine lv_iload_n F.1 F.2.1 dX9_get_26 rfl (lv_at hl 2 rfl) ?_
      refine lv_iload_n F.1 F.2.1 dX9_get_27 rfl (lv_at hl 3 rfl) ?_
      obtain ⟨v9, hc8, h⟩ := bp_e h
      refine q_ci hB (q_goS F hE hB (k_X9_itemFinding hI σ0 (38 + 2 * a1.toNatClampNeg) (sh_role hi7) a2 a3 hc8) (ca_RX9_251 F.2.2.2.2 ⟨Nat.le_of_ble_eq_true rfl, Nat.le_of_ble_eq_true rfl⟩) rfl hl.1 rfl (Nat.le_of_ble_eq_true rfl) dX9_get_28 ⟨Nat.le_of_ble_eq_true rfl, Nat.le_of_ble_eq_true rfl⟩) (fun H locs hB => ?_)
      refine lv_istore (lv' := [(4, .int v9), (0, .ref (ad 0)), (1, .int a1), (2, .int a2), (3, .int a3)]) F.1 F.2.1 dX9_get_31 hl (by decide) rfl (fun ls hl => ?_)
      refine lv_iload F.1 F.2.1 dX9_get_33 (lv_at hl 0 rfl) ?_
      refine lv_if_eq (tgt := 48) F.1 F.2.1 dX9_get_35 (by decide) (fun c10 => ?_) (fun c10 => ?_)
      · replace h := it_e c10 h
        refine lv_aload_n F.1 F.2.1 dX9_get_48 rfl (lv_at hl 1 rfl) ?_
        refine gf_RX9_45 F hE hB po_0 rfl dX9_get_49 ?_
        refine lv_iload_n F.1 F.2.1 dX9_get_52 rfl (lv_at hl 2 rfl) ?_
        obtain ⟨hi11, h⟩ := ck_e h
        refine q_aldq (t0 := 3) F hE hB po_37 rfl hi11 dX9_get_53 ?_
        refine gf_RX9_147 F hE hB (po_Sheet (sh_role hi11)) rfl dX9_get_54 ?_
        refine lv_iload_n F.1 F.2.1 dX9_get_57 rfl (lv_at hl 4 rfl) ?_
        obtain ⟨hi12, h⟩ := ck_e h
        refine q_iald F hE hB (po_row (row_Sheet_1 (sh_role hi11))) hi12 dX9_get_58 ?_
        exact q_iret F hlocks hr hB (so1 h) (so2 h) dX9_get_59
      · replace h := ie_e c10 h
        refine lv_aload_n F.1 F.2.1 dX9_get_38 rfl (lv_at hl 1 rfl) ?_
        refine lv_iload F.1 F.2.1 dX9_get_39 (lv_at hl 0 rfl) ?_
        obtain ⟨σ13, e14, h⟩ := lt_e h
        refine pf_RX9_259 F hE hI hB po_0 rfl rfl (Nat.le_of_ble_eq_true rfl) rfl dX9_get_41 e14 (fun H locs hB => ?_)
        refine lv_ldcw (v := (-2147483648)) F.1 F.2.1 F.2.2.2.1 (F.2.2.2.2 _ wm_k_RX9_258) dX9_get_44 ?_
        exact q_iret F hlocks hr hB (so1 h) (so2 h) dX9_get_47
    · replace h := it_e c6 h
      exact B16 σ0 _ _ _ h hB (lv_sub hl [] rfl)
def f_X9_copy_b51 (σ0 : Mem) : Option (Int32 × Mem) := (bi (f_X9_find σ0 (1 : Int32)) (fun v12 σ11 => (some (v12, σ11))))
def f_X9_copy_b99 (σ0 : Mem) : Option (Int32 × Mem) := (bi (f_X9_find σ0 (2 : Int32)) (fun v20 σ19 => (some (v20, σ19))))
def f_X9_copy (σ0 : Mem) (a1 : Int32) (a2 : Int32) (a3 : Int32) (a4 : Int32) (a5 : Int32) : Option (Int32 × Mem) := (bp (f_X9_isWithin σ0 a1 (4 : Int32)) (fun v2 => (if v2 = (0 : Int32) then (some ((-2 : Int32), σ0)) else (bp (f_X9_isWithin σ0 a3 (4 : Int32)) (fun v5 => (if v5 = (0 : Int32) then (some ((-2 : Int32), σ0)) else (ck a1 4 (ck a3 4 (if (σ0.1 (38 + 2 * a1.toNatClampNeg) 3) = (0 : Int32) then (if (σ0.1 (38 + 2 * a3.toNatClampNeg) 3) = (0 : Int32) then (if (σ0.1 (38 + 2 * a1.toNatClampNeg) 1) = (σ0.1 (38 + 2 * a3.toNatClampNeg) 1) then (bp (f_X5_hasItems σ0 (38 + 2 * a1.toNatClampNeg) a2 a5) (fun v16 => (if v16 = (0 : Int32) then (f_X9_copy_b99 σ0) else (bp (f_X5_hasItems σ0 (38 + 2 * a3.toNatClampNeg) a4 a5) (fun v22 => (if v22 = (0 : Int32) then (f_X9_copy_b99 σ0) else (cp a2 a4 a5 60 60 (lt (mw σ0 ((38 + 2 * a3.toNatClampNeg) + 1) (va_cpy (σ0.1 ((38 + 2 * a1.toNatClampNeg) + 1)) (σ0.1 ((38 + 2 * a3.toNatClampNeg) + 1)) a2.toNatClampNeg a4.toNatClampNeg a5.toNatClampNeg)) (fun σ25 => (some ((1 : Int32), σ25))))))))))) else (bi (f_X9_find σ0 (4 : Int32)) (fun v29 σ28 => (some (v29, σ28))))) else (f_X9_copy_b51 σ0)) else (f_X9_copy_b51 σ0))))))))))
set_option maxHeartbeats 4000000 in
set_option maxRecDepth 100000 in
theorem k_X9_copy {l : Launch} {D : va_G} {cy : Nat → ClassId} {ad : Nat → Nat} {ta tb : Nat} (hI : AdI ad) (σ0 : Mem) (a1 : Int32) (a2 : Int32) (a3 : Int32) (a4 : Int32) (a5 : Int32) {o : Int32 × Mem} (h : f_X9_copy σ0 a1 a2 a3 a4 a5 = some o) : Met l yX9_copy (Cond.code yX9_copy cX9_copy 8 (some .int) :: wG) rm_X9_copy (CP D cy ad ta tb σ0 [.ref (ad 0), .int a1, .int a2, .int a3, .int a4, .int a5]) (CQi D cy ad o.1 o.2) 0 0 (AA ad) := by
  refine Met.ofW (cc := cX9_copy) (maxL := 8) (ret := (some .int)) (by decide) rfl ?_
  intro p e s m args below meth c s₁ B hml hv
  obtain ⟨rfl, hE, hP⟩ := hv
  have hts := atoms_spec (ws := Cond.code yX9_copy cX9_copy 8 (some .int) :: wG) B.pre
  have F : CallFix p m c cX9_copy 8 s _ wG RX9 := ⟨B.exec, B.bytes, hml, findClass_of_methodNamed B.named, fun w hw => hts w (List.mem_cons_of_mem _ hw)⟩
  have hr := B.returns
  have hlocks := B.notSynchronized
  have hB : Bd D cy ad σ0 s.heap s.heap [] := ⟨hP, va_S.rf⟩
  have hl := lv_entry ([.ref (ad 0), .int a1, .int a2, .int a3, .int a4, .int a5] : List Value) (n := 8) (Nat.le_of_ble_eq_true rfl)
  rw [lg_entry_eq]
  generalize (lg_sl ([.ref (ad 0), .int a1, .int a2, .int a3, .int a4, .int a5] : List Value) ++ List.replicate (8 - (lg_sl ([.ref (ad 0), .int a1, .int a2, .int a3, .int a4, .int a5] : List Value)).length) Slot.unset).toArray = ls at hl ⊢
  have hl : lv_has ls 8 [(0, .ref (ad 0)), (1, .int a1), (2, .int a2), (3, .int a3), (4, .int a4), (5, .int a5)] := hl
  have B51 : ∀ (σ0 : Mem) (H : Heap) (locs : List Loc) (ls : Array Slot), f_X9_copy_b51 σ0 = some o → Bd D cy ad σ0 s.heap H locs → lv_has ls 8 [(0, .ref (ad 0))] → W p l e rm_X9_copy s m ([.ref (ad 0), .int a1, .int a2, .int a3, .int a4, .int a5] : List Value).toArray below meth c H locs 0 0 (MQ below (CQi D cy ad o.1 o.2) ([.ref (ad 0), .int a1, .int a2, .int a3, .int a4, .int a5] : List Value).toArray s 0 0 (AA ad)) (F0 m 51 ls []) := by
    intro σ0 H locs ls h hB hl
    unfold f_X9_copy_b51 at h
    refine lv_aload_n F.1 F.2.1 dX9_copy_51 rfl (lv_at hl 0 rfl) ?_
    refine lv_iconst (v := 1) F.1 F.2.1 dX9_copy_52 (by decide) ?_
    obtain ⟨v12, σ11, hc10, h⟩ := bi_e h
    refine q_ci hB (q_goV F hE hB (k_X9_find hI σ0 (1 : Int32) hc10) (ca_RX9_142 F.2.2.2.2 ⟨Nat.le_of_ble_eq_true rfl, Nat.le_of_ble_eq_true rfl⟩) rfl po_0 rfl hl.1 rfl (Nat.le_of_ble_eq_true rfl) dX9_copy_53 ⟨Nat.le_of_ble_eq_true rfl, Nat.le_of_ble_eq_true rfl⟩) (fun H locs hB => ?_)
    exact q_iret F hlocks hr hB (so1 h) (so2 h) dX9_copy_56
  have B99 : ∀ (σ0 : Mem) (H : Heap) (locs : List Loc) (ls : Array Slot), f_X9_copy_b99 σ0 = some o → Bd D cy ad σ0 s.heap H locs → lv_has ls 8 [(0, .ref (ad 0))] → W p l e rm_X9_copy s m ([.ref (ad 0), .int a1, .int a2, .int a3, .int a4, .int a5] : List Value).toArray below meth c H locs 0 0 (MQ below (CQi D cy ad o.1 o.2) ([.ref (ad 0), .int a1, .int a2, .int a3, .int a4, .int a5] : List Value).toArray s 0 0 (AA ad)) (F0 m 99 ls []) := by
    intro σ0 H locs ls h hB hl
    unfold f_X9_copy_b99 at h
    refine lv_aload_n F.1 F.2.1 dX9_copy_99 rfl (lv_at hl 0 rfl) ?_
    refine lv_iconst (v := 2) F.1 F.2.1 dX9_copy_100 (by decide) ?_
    obtain ⟨v20, σ19, hc18, h⟩ := bi_e h
    refine q_ci hB (q_goV F hE hB (k_X9_find hI σ0 (2 : Int32) hc18) (ca_RX9_142 F.2.2.2.2 ⟨Nat.le_of_ble_eq_true rfl, Nat.le_of_ble_eq_true rfl⟩) rfl po_0 rfl hl.1 rfl (Nat.le_of_ble_eq_true rfl) dX9_copy_101 ⟨Nat.le_of_ble_eq_true rfl, Nat.le_of_ble_eq_true rfl⟩) (fun H locs hB => ?_)
    exact q_iret F hlocks hr hB (so1 h) (so2 h) dX9_copy_104
  unfold f_X9_copy at h
  refine lv_iload_n F.1 F.2.1 dX9_copy_0 rfl (lv_at hl 1 rfl) ?_
  refine lv_iconst (v := 4) F.1 F.2.1 dX9_copy_1 (by decide) ?_
  obtain ⟨v2, hc1, h⟩ := bp_e h
  refine q_ci hB (q_goS F hE hB (k_X9_isWithin hI σ0 a1 (4 : Int32) hc1) (ca_RX9_84 F.2.2.2.2 ⟨Nat.le_of_ble_eq_true rfl, Nat.le_of_ble_eq_true rfl⟩) rfl hl.1 rfl (Nat.le_of_ble_eq_true rfl) dX9_copy_2 ⟨Nat.le_of_ble_eq_true rfl, Nat.le_of_ble_eq_true rfl⟩) (fun H locs hB => ?_)
  refine lv_if_eq (tgt := 16) F.1 F.2.1 dX9_copy_5 (by decide) (fun c3 => ?_) (fun c3 => ?_)
  · replace h := it_e c3 h
    refine lv_bipush (v := (-2)) F.1 F.2.1 dX9_copy_16 (by decide) ?_
    exact q_iret F hlocks hr hB (so1 h) (so2 h) dX9_copy_18
  · replace h := ie_e c3 h
    refine lv_iload_n F.1 F.2.1 dX9_copy_8 rfl (lv_at hl 3 rfl) ?_
    refine lv_iconst (v := 4) F.1 F.2.1 dX9_copy_9 (by decide) ?_
    obtain ⟨v5, hc4, h⟩ := bp_e h
    refine q_ci hB (q_goS F hE hB (k_X9_isWithin hI σ0 a3 (4 : Int32) hc4) (ca_RX9_84 F.2.2.2.2 ⟨Nat.le_of_ble_eq_true rfl, Nat.le_of_ble_eq_true rfl⟩) rfl hl.1 rfl (Nat.le_of_ble_eq_true rfl) dX9_copy_10 ⟨Nat.le_of_ble_eq_true rfl, Nat.le_of_ble_eq_true rfl⟩) (fun H locs hB => ?_)
    refine lv_if_ne (tgt := 19) F.1 F.2.1 dX9_copy_13 (by decide) (fun c6 => ?_) (fun c6 => ?_)
    · replace h := ie_e c6 h
      refine lv_aload_n F.1 F.2.1 dX9_copy_19 rfl (lv_at hl 0 rfl) ?_
      refine gf_RX9_45 F hE hB po_0 rfl dX9_copy_20 ?_
      refine lv_iload_n F.1 F.2.1 dX9_copy_23 rfl (lv_at hl 1 rfl) ?_
      obtain ⟨hi7, h⟩ := ck_e h
      refine q_aldq (t0 := 3) F hE hB po_37 rfl hi7 dX9_copy_24 ?_
      refine lv_astore (lv' := [(6, .ref (ad (38 + 2 * a1.toNatClampNeg))), (0, .ref (ad 0)), (1, .int a1), (2, .int a2), (3, .int a3), (4, .int a4), (5, .int a5)]) F.1 F.2.1 dX9_copy_25 hl (by decide) rfl (fun ls hl => ?_)
      refine lv_aload_n F.1 F.2.1 dX9_copy_27 rfl (lv_at hl 1 rfl) ?_
      refine gf_RX9_45 F hE hB po_0 rfl dX9_copy_28 ?_
      refine lv_iload_n F.1 F.2.1 dX9_copy_31 rfl (lv_at hl 4 rfl) ?_
      obtain ⟨hi8, h⟩ := ck_e h
      refine q_aldq (t0 := 3) F hE hB po_37 rfl hi8 dX9_copy_32 ?_
      refine lv_astore (lv' := [(7, .ref (ad (38 + 2 * a3.toNatClampNeg))), (6, .ref (ad (38 + 2 * a1.toNatClampNeg))), (0, .ref (ad 0)), (1, .int a1), (2, .int a2), (3, .int a3), (4, .int a4), (5, .int a5)]) F.1 F.2.1 dX9_copy_33 hl (by decide) rfl (fun ls hl => ?_)
      refine lv_aload F.1 F.2.1 dX9_copy_35 (lv_at hl 1 rfl) ?_
      refine gf_RX9_138 F hE hB (po_Sheet (sh_role hi7)) rfl dX9_copy_37 ?_
      refine lv_if_ne (tgt := 51) F.1 F.2.1 dX9_copy_40 (by decide) (fun c9 => ?_) (fun c9 => ?_)
      · replace h := ie_e c9 h
        exact B51 σ0 _ _ _ h hB (lv_sub hl [2] rfl)
      · replace h := it_e c9 h
        refine lv_aload F.1 F.2.1 dX9_copy_43 (lv_at hl 0 rfl) ?_
        refine gf_RX9_138 F hE hB (po_Sheet (sh_role hi8)) rfl dX9_copy_45 ?_
        refine lv_if_eq (tgt := 57) F.1 F.2.1 dX9_copy_48 (by decide) (fun c13 => ?_) (fun c13 => ?_)
        · replace h := it_e c13 h
          refine lv_aload F.1 F.2.1 dX9_copy_57 (lv_at hl 1 rfl) ?_
          refine gf_RX9_262 F hE hB (po_Sheet (sh_role hi7)) rfl dX9_copy_59 ?_
          refine lv_aload F.1 F.2.1 dX9_copy_62 (lv_at hl 0 rfl) ?_
          refine gf_RX9_262 F hE hB (po_Sheet (sh_role hi8)) rfl dX9_copy_64 ?_
          refine lv_icmp_eq (tgt := 76) F.1 F.2.1 dX9_copy_67 (by decide) (fun c14 => ?_) (fun c14 => ?_)
          · replace h := it_e c14 h
            refine lv_aload F.1 F.2.1 dX9_copy_76 (lv_at hl 1 rfl) ?_
            refine lv_iload_n F.1 F.2.1 dX9_copy_78 rfl (lv_at hl 4 rfl) ?_
            refine lv_iload F.1 F.2.1 dX9_copy_79 (lv_at hl 7 rfl) ?_
            obtain ⟨v16, hc15, h⟩ := bp_e h
            refine q_ci hB (q_goV F hE hB (k_X5_hasItems hI σ0 (38 + 2 * a1.toNatClampNeg) (sh_role hi7) a2 a5 hc15) (ca_RX9_265 F.2.2.2.2 ⟨Nat.le_of_ble_eq_true rfl, Nat.le_of_ble_eq_true rfl⟩) rfl (po_Sheet (sh_role hi7)) rfl hl.1 rfl (Nat.le_of_ble_eq_true rfl) dX9_copy_81 ⟨Nat.le_of_ble_eq_true rfl, Nat.le_of_ble_eq_true rfl⟩) (fun H locs hB => ?_)
            refine lv_if_eq (tgt := 99) F.1 F.2.1 dX9_copy_84 (by decide) (fun c17 => ?_) (fun c17 => ?_)
            · replace h := it_e c17 h
              exact B99 σ0 _ _ _ h hB (lv_sub hl [2] rfl)
            · replace h := ie_e c17 h
              refine lv_aload F.1 F.2.1 dX9_copy_87 (lv_at hl 0 rfl) ?_
              refine lv_iload F.1 F.2.1 dX9_copy_89 (lv_at hl 6 rfl) ?_
              refine lv_iload F.1 F.2.1 dX9_copy_91 (lv_at hl 7 rfl) ?_
              obtain ⟨v22, hc21, h⟩ := bp_e h
              refine q_ci hB (q_goV F hE hB (k_X5_hasItems hI σ0 (38 + 2 * a3.toNatClampNeg) (sh_role hi8) a4 a5 hc21) (ca_RX9_265 F.2.2.2.2 ⟨Nat.le_of_ble_eq_true rfl, Nat.le_of_ble_eq_true rfl⟩) rfl (po_Sheet (sh_role hi8)) rfl hl.1 rfl (Nat.le_of_ble_eq_true rfl) dX9_copy_93 ⟨Nat.le_of_ble_eq_true rfl, Nat.le_of_ble_eq_true rfl⟩) (fun H locs hB => ?_)
              refine lv_if_ne (tgt := 105) F.1 F.2.1 dX9_copy_96 (by decide) (fun c23 => ?_) (fun c23 => ?_)
              · replace h := ie_e c23 h
                refine lv_aload F.1 F.2.1 dX9_copy_105 (lv_at hl 1 rfl) ?_
                refine gf_RX9_147 F hE hB (po_Sheet (sh_role hi7)) rfl dX9_copy_107 ?_
                refine lv_iload_n F.1 F.2.1 dX9_copy_110 rfl (lv_at hl 4 rfl) ?_
                refine lv_aload F.1 F.2.1 dX9_copy_111 (lv_at hl 0 rfl) ?_
                refine gf_RX9_147 F hE hB (po_Sheet (sh_role hi8)) rfl dX9_copy_113 ?_
                refine lv_iload F.1 F.2.1 dX9_copy_116 (lv_at hl 6 rfl) ?_
                refine lv_iload F.1 F.2.1 dX9_copy_118 (lv_at hl 7 rfl) ?_
                obtain ⟨hp24, h⟩ := cp_e h
                obtain ⟨σ25, e26, h⟩ := lt_e h
                refine q_copy F hE hI hl.1 hB (row_Sheet_1 (sh_role hi7)) (row_Sheet_1 (sh_role hi8)) wm_l_RX9_268 wm_ac_n wm_ac_s wm_ac_i hp24 (Nat.le_of_ble_eq_true rfl) (Nat.le_of_ble_eq_true rfl) dX9_copy_120 e26 (fun H locs hB => ?_)
                refine lv_iconst (v := 1) F.1 F.2.1 dX9_copy_123 (by decide) ?_
                exact q_iret F hlocks hr hB (so1 h) (so2 h) dX9_copy_124
              · replace h := it_e c23 h
                exact B99 σ0 _ _ _ h hB (lv_sub hl [2] rfl)
          · replace h := ie_e c14 h
            refine lv_aload_n F.1 F.2.1 dX9_copy_70 rfl (lv_at hl 2 rfl) ?_
            refine lv_iconst (v := 4) F.1 F.2.1 dX9_copy_71 (by decide) ?_
            obtain ⟨v29, σ28, hc27, h⟩ := bi_e h
            refine q_ci hB (q_goV F hE hB (k_X9_find hI σ0 (4 : Int32) hc27) (ca_RX9_142 F.2.2.2.2 ⟨Nat.le_of_ble_eq_true rfl, Nat.le_of_ble_eq_true rfl⟩) rfl po_0 rfl hl.1 rfl (Nat.le_of_ble_eq_true rfl) dX9_copy_72 ⟨Nat.le_of_ble_eq_true rfl, Nat.le_of_ble_eq_true rfl⟩) (fun H locs hB => ?_)
            exact q_iret F hlocks hr hB (so1 h) (so2 h) dX9_copy_75
        · replace h := ie_e c13 h
          exact B51 σ0 _ _ _ h hB (lv_sub hl [2] rfl)
    · replace h := it_e c6 h
      refine lv_bipush (v := (-2)) F.1 F.2.1 dX9_copy_16 (by decide) ?_
      exact q_iret F hlocks hr hB (so1 h) (so2 h) dX9_copy_18
def f_X9_write_b59 : Nat → Mem → Int32 → Nat → Int32 → Int32 → Option (Int32 × Mem)
  | 0, _, _, _, _, _ => none
  | n59 + 1, σ0, x1, r3, x4, x5 => (if x4 ≤ x5 then (some (x4, σ0)) else (bp (f_X8_placeOf σ0 46 x1 x5) (fun v11 => (bv (f_X5_put σ0 r3 x5 v11) (fun σ13 => (f_X9_write_b59 n59 σ13 x1 r3 x4 (x5 + (1 : Int32))))))))
def f_X9_write (σ0 : Mem) (a1 : Int32) (a2 : Int32) : Option (Int32 × Mem) := (bp (f_X9_isWithin σ0 a1 (100 : Int32)) (fun v2 => (if v2 = (0 : Int32) then (some ((-2 : Int32), σ0)) else (bp (f_X9_isWithin σ0 a2 (4 : Int32)) (fun v5 => (if v5 = (0 : Int32) then (some ((-2 : Int32), σ0)) else (ck a2 4 (if (σ0.1 (38 + 2 * a2.toNatClampNeg) 3) = (0 : Int32) then (f_X9_write_b59 300 σ0 a1 (38 + 2 * a2.toNatClampNeg) (if (σ0.1 10 2) < (σ0.1 (38 + 2 * a2.toNatClampNeg) 2) then (σ0.1 10 2) else (σ0.1 (38 + 2 * a2.toNatClampNeg) 2)) (0 : Int32)) else (bi (f_X9_find σ0 (1 : Int32)) (fun v16 σ15 => (some (v16, σ15))))))))))))
set_option maxHeartbeats 4000000 in
set_option maxRecDepth 100000 in
theorem k_X9_write {l : Launch} {D : va_G} {cy : Nat → ClassId} {ad : Nat → Nat} {ta tb : Nat} (hI : AdI ad) (σ0 : Mem) (a1 : Int32) (a2 : Int32) {o : Int32 × Mem} (h : f_X9_write σ0 a1 a2 = some o) : Met l yX9_write (Cond.code yX9_write cX9_write 6 (some .int) :: wG) rm_X9_write (CP D cy ad ta tb σ0 [.ref (ad 0), .int a1, .int a2]) (CQi D cy ad o.1 o.2) 0 0 (AA ad) := by
  refine Met.ofW (cc := cX9_write) (maxL := 6) (ret := (some .int)) (by decide) rfl ?_
  intro p e s m args below meth c s₁ B hml hv
  obtain ⟨rfl, hE, hP⟩ := hv
  have hts := atoms_spec (ws := Cond.code yX9_write cX9_write 6 (some .int) :: wG) B.pre
  have F : CallFix p m c cX9_write 6 s _ wG RX9 := ⟨B.exec, B.bytes, hml, findClass_of_methodNamed B.named, fun w hw => hts w (List.mem_cons_of_mem _ hw)⟩
  have hr := B.returns
  have hlocks := B.notSynchronized
  have hB : Bd D cy ad σ0 s.heap s.heap [] := ⟨hP, va_S.rf⟩
  have hl := lv_entry ([.ref (ad 0), .int a1, .int a2] : List Value) (n := 6) (Nat.le_of_ble_eq_true rfl)
  rw [lg_entry_eq]
  generalize (lg_sl ([.ref (ad 0), .int a1, .int a2] : List Value) ++ List.replicate (6 - (lg_sl ([.ref (ad 0), .int a1, .int a2] : List Value)).length) Slot.unset).toArray = ls at hl ⊢
  have hl : lv_has ls 6 [(0, .ref (ad 0)), (1, .int a1), (2, .int a2)] := hl
  have B59 : ∀ (n59 : Nat) (σ0 : Mem) (H : Heap) (locs : List Loc) (ls : Array Slot) (x1 : Int32) (r3 : Nat) (x4 : Int32) (x5 : Int32) (hr3 : isSheet r3), f_X9_write_b59 n59 σ0 x1 r3 x4 x5 = some o → Bd D cy ad σ0 s.heap H locs → lv_has ls 6 [(0, .ref (ad 0)), (1, .int x1), (3, .ref (ad r3)), (4, .int x4), (5, .int x5)] → W p l e rm_X9_write s m ([.ref (ad 0), .int a1, .int a2] : List Value).toArray below meth c H locs 0 0 (MQ below (CQi D cy ad o.1 o.2) ([.ref (ad 0), .int a1, .int a2] : List Value).toArray s 0 0 (AA ad)) (F0 m 59 ls []) := by
    intro n59
    induction n59 with
    | zero => intro σ0 H locs ls x1 r3 x4 x5 hr3 h hB hl; cases h
    | succ n59 ih59 =>
      intro σ0 H locs ls x1 r3 x4 x5 hr3 h hB hl
      rw [f_X9_write_b59] at h
      refine lv_iload F.1 F.2.1 dX9_write_59 (lv_at hl 4 rfl) ?_
      refine lv_iload F.1 F.2.1 dX9_write_61 (lv_at hl 3 rfl) ?_
      refine lv_icmp_ge (tgt := 88) F.1 F.2.1 dX9_write_63 (by decide) (fun c9 => ?_) (fun c9 => ?_)
      · replace h := it_e c9 h
        refine lv_iload F.1 F.2.1 dX9_write_88 (lv_at hl 3 rfl) ?_
        exact q_iret F hlocks hr hB (so1 h) (so2 h) dX9_write_90
      · replace h := ie_e c9 h
        refine lv_aload_n F.1 F.2.1 dX9_write_66 rfl (lv_at hl 2 rfl) ?_
        refine lv_iload F.1 F.2.1 dX9_write_67 (lv_at hl 4 rfl) ?_
        refine lv_aload_n F.1 F.2.1 dX9_write_69 rfl (lv_at hl 0 rfl) ?_
        refine gf_RX9_52 F hE hB po_0 rfl dX9_write_70 ?_
        refine lv_iload_n F.1 F.2.1 dX9_write_73 rfl (lv_at hl 1 rfl) ?_
        refine lv_iload F.1 F.2.1 dX9_write_74 (lv_at hl 4 rfl) ?_
        obtain ⟨v11, hc10, h⟩ := bp_e h
        refine q_ci hB (q_goV F hE hB (k_X8_placeOf hI σ0 46 (Or.inl rfl) x1 x5 hc10) (ca_RX9_153 F.2.2.2.2 ⟨Nat.le_of_ble_eq_true rfl, Nat.le_of_ble_eq_true rfl⟩) rfl po_46 rfl hl.1 rfl (Nat.le_of_ble_eq_true rfl) dX9_write_76 ⟨Nat.le_of_ble_eq_true rfl, Nat.le_of_ble_eq_true rfl⟩) (fun H locs hB => ?_)
        obtain ⟨σ13, hc12, h⟩ := bv_e h
        refine q_cv hB (q_goV F hE hB (k_X5_put hI σ0 r3 hr3 x5 v11 hc12) (ca_RX9_255 F.2.2.2.2 ⟨Nat.le_of_ble_eq_true rfl, Nat.le_of_ble_eq_true rfl⟩) rfl (po_Sheet hr3) rfl hl.1 rfl (Nat.le_of_ble_eq_true rfl) dX9_write_79 ⟨Nat.le_of_ble_eq_true rfl, Nat.le_of_ble_eq_true rfl⟩) (fun H locs hB => ?_)
        refine lv_iinc (v := (x5 + (1 : Int32))) (lv' := [(5, .int (x5 + (1 : Int32))), (0, .ref (ad 0)), (1, .int x1), (3, .ref (ad r3)), (4, .int x4)]) F.1 F.2.1 dX9_write_82 hl (k := 4) rfl rfl (by decide) rfl (fun ls hl => ?_)
        refine lv_goto (tgt := 59) F.1 F.2.1 dX9_write_85 (by decide) ?_
        exact ih59 σ13 _ _ _ x1 r3 x4 (x5 + (1 : Int32)) hr3 h hB (lv_sub hl [1, 2, 3, 4, 0] rfl)
  unfold f_X9_write at h
  refine lv_iload_n F.1 F.2.1 dX9_write_0 rfl (lv_at hl 1 rfl) ?_
  refine lv_bipush (v := 100) F.1 F.2.1 dX9_write_1 (by decide) ?_
  obtain ⟨v2, hc1, h⟩ := bp_e h
  refine q_ci hB (q_goS F hE hB (k_X9_isWithin hI σ0 a1 (100 : Int32) hc1) (ca_RX9_84 F.2.2.2.2 ⟨Nat.le_of_ble_eq_true rfl, Nat.le_of_ble_eq_true rfl⟩) rfl hl.1 rfl (Nat.le_of_ble_eq_true rfl) dX9_write_3 ⟨Nat.le_of_ble_eq_true rfl, Nat.le_of_ble_eq_true rfl⟩) (fun H locs hB => ?_)
  refine lv_if_eq (tgt := 17) F.1 F.2.1 dX9_write_6 (by decide) (fun c3 => ?_) (fun c3 => ?_)
  · replace h := it_e c3 h
    refine lv_bipush (v := (-2)) F.1 F.2.1 dX9_write_17 (by decide) ?_
    exact q_iret F hlocks hr hB (so1 h) (so2 h) dX9_write_19
  · replace h := ie_e c3 h
    refine lv_iload_n F.1 F.2.1 dX9_write_9 rfl (lv_at hl 2 rfl) ?_
    refine lv_iconst (v := 4) F.1 F.2.1 dX9_write_10 (by decide) ?_
    obtain ⟨v5, hc4, h⟩ := bp_e h
    refine q_ci hB (q_goS F hE hB (k_X9_isWithin hI σ0 a2 (4 : Int32) hc4) (ca_RX9_84 F.2.2.2.2 ⟨Nat.le_of_ble_eq_true rfl, Nat.le_of_ble_eq_true rfl⟩) rfl hl.1 rfl (Nat.le_of_ble_eq_true rfl) dX9_write_11 ⟨Nat.le_of_ble_eq_true rfl, Nat.le_of_ble_eq_true rfl⟩) (fun H locs hB => ?_)
    refine lv_if_ne (tgt := 20) F.1 F.2.1 dX9_write_14 (by decide) (fun c6 => ?_) (fun c6 => ?_)
    · replace h := ie_e c6 h
      refine lv_aload_n F.1 F.2.1 dX9_write_20 rfl (lv_at hl 0 rfl) ?_
      refine gf_RX9_45 F hE hB po_0 rfl dX9_write_21 ?_
      refine lv_iload_n F.1 F.2.1 dX9_write_24 rfl (lv_at hl 2 rfl) ?_
      obtain ⟨hi7, h⟩ := ck_e h
      refine q_aldq (t0 := 3) F hE hB po_37 rfl hi7 dX9_write_25 ?_
      refine lv_astore_n (lv' := [(3, .ref (ad (38 + 2 * a2.toNatClampNeg))), (0, .ref (ad 0)), (1, .int a1), (2, .int a2)]) F.1 F.2.1 dX9_write_26 rfl hl (by decide) rfl (fun ls hl => ?_)
      refine lv_aload_n F.1 F.2.1 dX9_write_27 rfl (lv_at hl 0 rfl) ?_
      refine gf_RX9_138 F hE hB (po_Sheet (sh_role hi7)) rfl dX9_write_28 ?_
      refine lv_if_eq (tgt := 40) F.1 F.2.1 dX9_write_31 (by decide) (fun c8 => ?_) (fun c8 => ?_)
      · replace h := it_e c8 h
        refine lv_aload_n F.1 F.2.1 dX9_write_40 rfl (lv_at hl 0 rfl) ?_
        refine gf_RX9_146 F hE hB (po_Sheet (sh_role hi7)) rfl dX9_write_41 ?_
        refine lv_aload_n F.1 F.2.1 dX9_write_44 rfl (lv_at hl 1 rfl) ?_
        refine gf_RX9_25 F hE hB po_0 rfl dX9_write_45 ?_
        refine gf_RX9_168 F hE hB po_10 rfl dX9_write_48 ?_
        refine va_mmin F.1 F.2.1 (by rw [F.2.2.1, hl.1]) F.2.2.2.1 (F.2.2.2.2 _ wm_l_RX9_274) (F.2.2.2.2 _ wm_min_s) (F.2.2.2.2 _ wm_math_i) (F.2.2.2.2 _ wm_min_c) (Nat.le_of_ble_eq_true rfl) (Nat.le_of_ble_eq_true rfl) (Nat.zero_le _) (Nat.zero_le _) dX9_write_51 ?_
        refine lv_istore (lv' := [(4, .int (if (σ0.1 10 2) < (σ0.1 (38 + 2 * a2.toNatClampNeg) 2) then (σ0.1 10 2) else (σ0.1 (38 + 2 * a2.toNatClampNeg) 2))), (3, .ref (ad (38 + 2 * a2.toNatClampNeg))), (0, .ref (ad 0)), (1, .int a1), (2, .int a2)]) F.1 F.2.1 dX9_write_54 hl (by decide) rfl (fun ls hl => ?_)
        refine lv_iconst (v := 0) F.1 F.2.1 dX9_write_56 (by decide) ?_
        refine lv_istore (lv' := [(5, .int (0 : Int32)), (4, .int (if (σ0.1 10 2) < (σ0.1 (38 + 2 * a2.toNatClampNeg) 2) then (σ0.1 10 2) else (σ0.1 (38 + 2 * a2.toNatClampNeg) 2))), (3, .ref (ad (38 + 2 * a2.toNatClampNeg))), (0, .ref (ad 0)), (1, .int a1), (2, .int a2)]) F.1 F.2.1 dX9_write_57 hl (by decide) rfl (fun ls hl => ?_)
        exact B59 300 σ0 _ _ _ a1 (38 + 2 * a2.toNatClampNeg) (if (σ0.1 10 2) < (σ0.1 (38 + 2 * a2.toNatClampNeg) 2) then (σ0.1 10 2) else (σ0.1 (38 + 2 * a2.toNatClampNeg) 2)) (0 : Int32) (sh_role hi7) h hB (lv_sub hl [3, 4, 2, 1, 0] rfl)
      · replace h := ie_e c8 h
        refine lv_aload_n F.1 F.2.1 dX9_write_34 rfl (lv_at hl 1 rfl) ?_
        refine lv_iconst (v := 1) F.1 F.2.1 dX9_write_35 (by decide) ?_
        obtain ⟨v16, σ15, hc14, h⟩ := bi_e h
        refine q_ci hB (q_goV F hE hB (k_X9_find hI σ0 (1 : Int32) hc14) (ca_RX9_142 F.2.2.2.2 ⟨Nat.le_of_ble_eq_true rfl, Nat.le_of_ble_eq_true rfl⟩) rfl po_0 rfl hl.1 rfl (Nat.le_of_ble_eq_true rfl) dX9_write_36 ⟨Nat.le_of_ble_eq_true rfl, Nat.le_of_ble_eq_true rfl⟩) (fun H locs hB => ?_)
        exact q_iret F hlocks hr hB (so1 h) (so2 h) dX9_write_39
    · replace h := it_e c6 h
      refine lv_bipush (v := (-2)) F.1 F.2.1 dX9_write_17 (by decide) ?_
      exact q_iret F hlocks hr hB (so1 h) (so2 h) dX9_write_19
def f_X9_count (σ0 : Mem) (a1 : Int32) : Option (Int32) := (if a1 = (0 : Int32) then (some (σ0.1 6 3)) else (if a1 = (1 : Int32) then (some (σ0.1 10 2)) else (if a1 = (2 : Int32) then (ck (0 : Int32) 2 (some (σ0.1 (2 + 2 * (0 : Int32).toNatClampNeg) 1))) else (if a1 = (3 : Int32) then (ck (1 : Int32) 2 (some (σ0.1 (2 + 2 * (1 : Int32).toNatClampNeg) 1))) else (if a1 = (4 : Int32) then (some (σ0.1 21 3)) else (if a1 = (5 : Int32) then (bp (f_X8_throughCount σ0 46) (fun v10 => (some v10))) else (if a1 = (6 : Int32) then (bp (f_X8_allWait σ0 46) (fun v13 => (some v13))) else (if a1 = (7 : Int32) then (some (σ0.1 33 3)) else (if a1 = (8 : Int32) then (some (σ0.1 0 12)) else (some (-2 : Int32)))))))))))
set_option maxHeartbeats 4000000 in
set_option maxRecDepth 100000 in
theorem k_X9_count {l : Launch} {D : va_G} {cy : Nat → ClassId} {ad : Nat → Nat} {ta tb : Nat} (hI : AdI ad) (σ0 : Mem) (a1 : Int32) {o : Int32} (h : f_X9_count σ0 a1 = some o) : Met l yX9_count (Cond.code yX9_count cX9_count 2 (some .int) :: wG) rm_X9_count (CP D cy ad ta tb σ0 [.ref (ad 0), .int a1]) (CQi D cy ad o σ0) 0 0 (AA ad) := by
  refine Met.ofW (cc := cX9_count) (maxL := 2) (ret := (some .int)) (by decide) rfl ?_
  intro p e s m args below meth c s₁ B hml hv
  obtain ⟨rfl, hE, hP⟩ := hv
  have hts := atoms_spec (ws := Cond.code yX9_count cX9_count 2 (some .int) :: wG) B.pre
  have F : CallFix p m c cX9_count 2 s _ wG RX9 := ⟨B.exec, B.bytes, hml, findClass_of_methodNamed B.named, fun w hw => hts w (List.mem_cons_of_mem _ hw)⟩
  have hr := B.returns
  have hlocks := B.notSynchronized
  have hB : Bd D cy ad σ0 s.heap s.heap [] := ⟨hP, va_S.rf⟩
  have hl := lv_entry ([.ref (ad 0), .int a1] : List Value) (n := 2) (Nat.le_of_ble_eq_true rfl)
  rw [lg_entry_eq]
  generalize (lg_sl ([.ref (ad 0), .int a1] : List Value) ++ List.replicate (2 - (lg_sl ([.ref (ad 0), .int a1] : List Value)).length) Slot.unset).toArray = ls at hl ⊢
  have hl : lv_has ls 2 [(0, .ref (ad 0)), (1, .int a1)] := hl
  unfold f_X9_count at h
  refine lv_iload_n F.1 F.2.1 dX9_count_0 rfl (lv_at hl 1 rfl) ?_
  by_cases c1 : a1 = (0 : Int32)
  · replace h := it_e c1 h
    refine lv_tableIn (off := 51) (tgt := 52) F.1 F.2.1 dX9_count_1 (by rw [c1]; decide) (by rw [c1]; decide) (by rw [c1]; decide) (by decide) ?_
    refine lv_aload_n F.1 F.2.1 dX9_count_52 rfl (lv_at hl 0 rfl) ?_
    refine gf_RX9_18 F hE hB po_0 rfl dX9_count_53 ?_
    refine gf_RX9_279 F hE hB po_6 rfl dX9_count_56 ?_
    exact q_iret F hlocks hr hB (Option.some.inj h) rfl dX9_count_59
  · replace h := ie_e c1 h
    by_cases c2 : a1 = (1 : Int32)
    · replace h := it_e c2 h
      refine lv_tableIn (off := 59) (tgt := 60) F.1 F.2.1 dX9_count_1 (by rw [c2]; decide) (by rw [c2]; decide) (by rw [c2]; decide) (by decide) ?_
      refine lv_aload_n F.1 F.2.1 dX9_count_60 rfl (lv_at hl 0 rfl) ?_
      refine gf_RX9_25 F hE hB po_0 rfl dX9_count_61 ?_
      refine gf_RX9_168 F hE hB po_10 rfl dX9_count_64 ?_
      exact q_iret F hlocks hr hB (Option.some.inj h) rfl dX9_count_67
    · replace h := ie_e c2 h
      by_cases c3 : a1 = (2 : Int32)
      · replace h := it_e c3 h
        refine lv_tableIn (off := 67) (tgt := 68) F.1 F.2.1 dX9_count_1 (by rw [c3]; decide) (by rw [c3]; decide) (by rw [c3]; decide) (by decide) ?_
        refine lv_aload_n F.1 F.2.1 dX9_count_68 rfl (lv_at hl 0 rfl) ?_
        refine gf_RX9_11 F hE hB po_0 rfl dX9_count_69 ?_
        refine lv_iconst (v := 0) F.1 F.2.1 dX9_count_72 (by decide) ?_
        obtain ⟨hi4, h⟩ := ck_e h
        refine q_aldq (t0 := 2) F hE hB po_1 rfl hi4 dX9_count_73 ?_
        refine gf_RX9_98 F hE hB (po_Text (tx_role hi4)) rfl dX9_count_74 ?_
        exact q_iret F hlocks hr hB (Option.some.inj h) rfl dX9_count_77
      · replace h := ie_e c3 h
        by_cases c5 : a1 = (3 : Int32)
        · replace h := it_e c5 h
          refine lv_tableIn (off := 77) (tgt := 78) F.1 F.2.1 dX9_count_1 (by rw [c5]; decide) (by rw [c5]; decide) (by rw [c5]; decide) (by decide) ?_
          refine lv_aload_n F.1 F.2.1 dX9_count_78 rfl (lv_at hl 0 rfl) ?_
          refine gf_RX9_11 F hE hB po_0 rfl dX9_count_79 ?_
          refine lv_iconst (v := 1) F.1 F.2.1 dX9_count_82 (by decide) ?_
          obtain ⟨hi6, h⟩ := ck_e h
          refine q_aldq (t0 := 2) F hE hB po_1 rfl hi6 dX9_count_83 ?_
          refine gf_RX9_98 F hE hB (po_Text (tx_role hi6)) rfl dX9_count_84 ?_
          exact q_iret F hlocks hr hB (Option.some.inj h) rfl dX9_count_87
        · replace h := ie_e c5 h
          by_cases c7 : a1 = (4 : Int32)
          · replace h := it_e c7 h
            refine lv_tableIn (off := 87) (tgt := 88) F.1 F.2.1 dX9_count_1 (by rw [c7]; decide) (by rw [c7]; decide) (by rw [c7]; decide) (by decide) ?_
            refine lv_aload_n F.1 F.2.1 dX9_count_88 rfl (lv_at hl 0 rfl) ?_
            refine gf_RX9_32 F hE hB po_0 rfl dX9_count_89 ?_
            refine gf_RX9_134 F hE hB po_21 rfl dX9_count_92 ?_
            exact q_iret F hlocks hr hB (Option.some.inj h) rfl dX9_count_95
          · replace h := ie_e c7 h
            by_cases c8 : a1 = (5 : Int32)
            · replace h := it_e c8 h
              refine lv_tableIn (off := 95) (tgt := 96) F.1 F.2.1 dX9_count_1 (by rw [c8]; decide) (by rw [c8]; decide) (by rw [c8]; decide) (by decide) ?_
              refine lv_aload_n F.1 F.2.1 dX9_count_96 rfl (lv_at hl 0 rfl) ?_
              refine gf_RX9_52 F hE hB po_0 rfl dX9_count_97 ?_
              obtain ⟨v10, hc9, h⟩ := bp_e h
              refine q_ci hB (q_goV F hE hB (k_X8_throughCount hI σ0 46 (Or.inl rfl) hc9) (ca_RX9_280 F.2.2.2.2 ⟨Nat.le_of_ble_eq_true rfl, Nat.le_of_ble_eq_true rfl⟩) rfl po_46 rfl hl.1 rfl (Nat.le_of_ble_eq_true rfl) dX9_count_100 ⟨Nat.le_of_ble_eq_true rfl, Nat.le_of_ble_eq_true rfl⟩) (fun H locs hB => ?_)
              exact q_iret F hlocks hr hB (Option.some.inj h) rfl dX9_count_103
            · replace h := ie_e c8 h
              by_cases c11 : a1 = (6 : Int32)
              · replace h := it_e c11 h
                refine lv_tableIn (off := 103) (tgt := 104) F.1 F.2.1 dX9_count_1 (by rw [c11]; decide) (by rw [c11]; decide) (by rw [c11]; decide) (by decide) ?_
                refine lv_aload_n F.1 F.2.1 dX9_count_104 rfl (lv_at hl 0 rfl) ?_
                refine gf_RX9_52 F hE hB po_0 rfl dX9_count_105 ?_
                obtain ⟨v13, hc12, h⟩ := bp_e h
                refine q_ci hB (q_goV F hE hB (k_X8_allWait hI σ0 46 (Or.inl rfl) hc12) (ca_RX9_284 F.2.2.2.2 ⟨Nat.le_of_ble_eq_true rfl, Nat.le_of_ble_eq_true rfl⟩) rfl po_46 rfl hl.1 rfl (Nat.le_of_ble_eq_true rfl) dX9_count_108 ⟨Nat.le_of_ble_eq_true rfl, Nat.le_of_ble_eq_true rfl⟩) (fun H locs hB => ?_)
                exact q_iret F hlocks hr hB (Option.some.inj h) rfl dX9_count_111
              · replace h := ie_e c11 h
                by_cases c14 : a1 = (7 : Int32)
                · replace h := it_e c14 h
                  refine lv_tableIn (off := 111) (tgt := 112) F.1 F.2.1 dX9_count_1 (by rw [c14]; decide) (by rw [c14]; decide) (by rw [c14]; decide) (by decide) ?_
                  refine lv_aload_n F.1 F.2.1 dX9_count_112 rfl (lv_at hl 0 rfl) ?_
                  refine gf_RX9_39 F hE hB po_0 rfl dX9_count_113 ?_
                  refine gf_RX9_194 F hE hB po_33 rfl dX9_count_116 ?_
                  exact q_iret F hlocks hr hB (Option.some.inj h) rfl dX9_count_119
                · replace h := ie_e c14 h
                  by_cases c15 : a1 = (8 : Int32)
                  · replace h := it_e c15 h
                    refine lv_tableIn (off := 119) (tgt := 120) F.1 F.2.1 dX9_count_1 (by rw [c15]; decide) (by rw [c15]; decide) (by rw [c15]; decide) (by decide) ?_
                    refine lv_aload_n F.1 F.2.1 dX9_count_120 rfl (lv_at hl 0 rfl) ?_
                    refine gf_RX9_259 F hE hB po_0 rfl dX9_count_121 ?_
                    exact q_iret F hlocks hr hB (Option.some.inj h) rfl dX9_count_124
                  · replace h := ie_e c15 h
                    refine lv_tableOut (tgt := 125) F.1 F.2.1 dX9_count_1 (sw_9 c1 c2 c3 c5 c7 c8 c11 c14 c15) (by decide) ?_
                    refine lv_bipush (v := (-2)) F.1 F.2.1 dX9_count_125 (by decide) ?_
                    exact q_iret F hlocks hr hB (Option.some.inj h) rfl dX9_count_127
def f_X9_digestBridge_b87 : Nat → Mem → Int32 → Int64 → Int32 → Option (Int64 × Mem)
  | 0, _, _, _, _ => none
  | n87 + 1, σ0, x3, x4, x6 => (if (σ0.1 10 2) ≤ x6 then (some (x4, σ0)) else (bp (f_X9_lifts σ0 x3 x6) (fun v13 => (bp (f_X9_passes σ0 x3 x6 (0 : Int32)) (fun v15 => (bp (f_X9_passes σ0 x3 x6 (1 : Int32)) (fun v17 => (f_X9_digestBridge_b87 n87 σ0 x3 (((31 : Int64) * (((31 : Int64) * (((31 : Int64) * x4) + v13.toInt64)) + v15.toInt64)) + v17.toInt64) (x6 + (1 : Int32))))))))))
def f_X9_digestBridge_b6 : Nat → Mem → Int32 → Int64 → Int32 → Option (Int64 × Mem)
  | 0, _, _, _, _ => none
  | n6 + 1, σ0, x3, x4, x6 => (if (3 : Int32) ≤ x6 then (bi (f_X9_likedMarks σ0 x3) (fun v4 σ3 => (bi (f_X9_likedManies σ3 x3) (fun v7 σ6 => (bi (f_X9_ask σ6 x3 (5 : Int32)) (fun v10 σ9 => (f_X9_digestBridge_b87 300 σ9 x3 (((31 : Int64) * (((31 : Int64) * (((31 : Int64) * x4) + v4.toInt64)) + v7.toInt64)) + v10.toInt64) (0 : Int32)))))))) else (bp (f_X2_part σ0 x3 x6) (fun v19 => (f_X9_digestBridge_b6 n6 σ0 x3 (((31 : Int64) * x4) + v19.toInt64) (x6 + (1 : Int32))))))
def f_X9_digestBridge (σ0 : Mem) (a1 : Int64) (a3 : Int32) : Option (Int64 × Mem) := (f_X9_digestBridge_b6 300 σ0 a3 a1 (0 : Int32))
set_option maxHeartbeats 4000000 in
set_option maxRecDepth 100000 in
theorem k_X9_digestBridge {l : Launch} {D : va_G} {cy : Nat → ClassId} {ad : Nat → Nat} {ta tb : Nat} (hI : AdI ad) (σ0 : Mem) (a1 : Int64) (a3 : Int32) {o : Int64 × Mem} (h : f_X9_digestBridge σ0 a1 a3 = some o) : Met l yX9_digestBridge (Cond.code yX9_digestBridge cX9_digestBridge 7 (some .long) :: wG) rm_X9_digestBridge (CP D cy ad ta tb σ0 [.ref (ad 0), .long a1, .int a3]) (CQl D cy ad o.1 o.2) 0 0 (AA ad) := by
  refine Met.ofW (cc := cX9_digestBridge) (maxL := 7) (ret := (some .long)) (by decide) rfl ?_
  intro p e s m args below meth c s₁ B hml hv
  obtain ⟨rfl, hE, hP⟩ := hv
  have hts := atoms_spec (ws := Cond.code yX9_digestBridge cX9_digestBridge 7 (some .long) :: wG) B.pre
  have F : CallFix p m c cX9_digestBridge 7 s _ wG RX9 := ⟨B.exec, B.bytes, hml, findClass_of_methodNamed B.named, fun w hw => hts w (List.mem_cons_of_mem _ hw)⟩
  have hr := B.returns
  have hlocks := B.notSynchronized
  have hB : Bd D cy ad σ0 s.heap s.heap [] := ⟨hP, va_S.rf⟩
  have hl := lv_entry ([.ref (ad 0), .long a1, .int a3] : List Value) (n := 7) (Nat.le_of_ble_eq_true rfl)
  rw [lg_entry_eq]
  generalize (lg_sl ([.ref (ad 0), .long a1, .int a3] : List Value) ++ List.replicate (7 - (lg_sl ([.ref (ad 0), .long a1, .int a3] : List Value)).length) Slot.unset).toArray = ls at hl ⊢
  have hl : lv_has ls 7 [(0, .ref (ad 0)), (1, .long a1), (3, .int a3)] := hl
  have B87 : ∀ (n87 : Nat) (σ0 : Mem) (H : Heap) (locs : List Loc) (ls : Array Slot) (x3 : Int32) (x4 : Int64) (x6 : Int32), f_X9_digestBridge_b87 n87 σ0 x3 x4 x6 = some o → Bd D cy ad σ0 s.heap H locs → lv_has ls 7 [(0, .ref (ad 0)), (3, .int x3), (4, .long x4), (6, .int x6)] → W p l e rm_X9_digestBridge s m ([.ref (ad 0), .long a1, .int a3] : List Value).toArray below meth c H locs 0 0 (MQ below (CQl D cy ad o.1 o.2) ([.ref (ad 0), .long a1, .int a3] : List Value).toArray s 0 0 (AA ad)) (F0 m 87 ls []) := by
    intro n87
    induction n87 with
    | zero => intro σ0 H locs ls x3 x4 x6 h hB hl; cases h
    | succ n87 ih87 =>
      intro σ0 H locs ls x3 x4 x6 h hB hl
      rw [f_X9_digestBridge_b87] at h
      refine lv_iload F.1 F.2.1 dX9_digestBridge_87 (lv_at hl 3 rfl) ?_
      refine lv_aload_n F.1 F.2.1 dX9_digestBridge_89 rfl (lv_at hl 0 rfl) ?_
      refine gf_RX9_25 F hE hB po_0 rfl dX9_digestBridge_90 ?_
      refine gf_RX9_168 F hE hB po_10 rfl dX9_digestBridge_93 ?_
      refine lv_icmp_ge (tgt := 158) F.1 F.2.1 dX9_digestBridge_96 (by decide) (fun c11 => ?_) (fun c11 => ?_)
      · replace h := it_e c11 h
        refine lv_lload F.1 F.2.1 dX9_digestBridge_158 (lv_at hl 2 rfl) ?_
        exact q_lret F hlocks hr hB (so1 h) (so2 h) dX9_digestBridge_160
      · replace h := ie_e c11 h
        refine lv_ldc2 (v := 31) F.1 F.2.1 F.2.2.2.1 (F.2.2.2.2 _ wm_k_RX9_289) dX9_digestBridge_99 ?_
        refine lv_lload F.1 F.2.1 dX9_digestBridge_102 (lv_at hl 2 rfl) ?_
        refine lv_lmul F.1 F.2.1 dX9_digestBridge_104 ?_
        refine lv_aload_n F.1 F.2.1 dX9_digestBridge_105 rfl (lv_at hl 0 rfl) ?_
        refine lv_iload_n F.1 F.2.1 dX9_digestBridge_106 rfl (lv_at hl 1 rfl) ?_
        refine lv_iload F.1 F.2.1 dX9_digestBridge_107 (lv_at hl 3 rfl) ?_
        obtain ⟨v13, hc12, h⟩ := bp_e h
        refine q_ci hB (q_goV F hE hB (k_X9_lifts hI σ0 x3 x6 hc12) (ca_RX9_313 F.2.2.2.2 ⟨Nat.le_of_ble_eq_true rfl, Nat.le_of_ble_eq_true rfl⟩) rfl po_0 rfl hl.1 rfl (Nat.le_of_ble_eq_true rfl) dX9_digestBridge_109 ⟨Nat.le_of_ble_eq_true rfl, Nat.le_of_ble_eq_true rfl⟩) (fun H locs hB => ?_)
        refine lv_i2l F.1 F.2.1 dX9_digestBridge_112 rfl ?_
        refine lv_ladd F.1 F.2.1 dX9_digestBridge_113 ?_
        refine lv_lstore (lv' := [(4, .long (((31 : Int64) * x4) + v13.toInt64)), (0, .ref (ad 0)), (3, .int x3), (6, .int x6)]) F.1 F.2.1 dX9_digestBridge_114 hl (by decide) rfl (fun ls hl => ?_)
        refine lv_ldc2 (v := 31) F.1 F.2.1 F.2.2.2.1 (F.2.2.2.2 _ wm_k_RX9_289) dX9_digestBridge_116 ?_
        refine lv_lload F.1 F.2.1 dX9_digestBridge_119 (lv_at hl 0 rfl) ?_
        refine lv_lmul F.1 F.2.1 dX9_digestBridge_121 ?_
        refine lv_aload_n F.1 F.2.1 dX9_digestBridge_122 rfl (lv_at hl 1 rfl) ?_
        refine lv_iload_n F.1 F.2.1 dX9_digestBridge_123 rfl (lv_at hl 2 rfl) ?_
        refine lv_iload F.1 F.2.1 dX9_digestBridge_124 (lv_at hl 3 rfl) ?_
        refine lv_iconst (v := 0) F.1 F.2.1 dX9_digestBridge_126 (by decide) ?_
        obtain ⟨v15, hc14, h⟩ := bp_e h
        refine q_ci hB (q_goV F hE hB (k_X9_passes hI σ0 x3 x6 (0 : Int32) hc14) (ca_RX9_316 F.2.2.2.2 ⟨Nat.le_of_ble_eq_true rfl, Nat.le_of_ble_eq_true rfl⟩) rfl po_0 rfl hl.1 rfl (Nat.le_of_ble_eq_true rfl) dX9_digestBridge_127 ⟨Nat.le_of_ble_eq_true rfl, Nat.le_of_ble_eq_true rfl⟩) (fun H locs hB => ?_)
        refine lv_i2l F.1 F.2.1 dX9_digestBridge_130 rfl ?_
        refine lv_ladd F.1 F.2.1 dX9_digestBridge_131 ?_
        refine lv_lstore (lv' := [(4, .long (((31 : Int64) * (((31 : Int64) * x4) + v13.toInt64)) + v15.toInt64)), (0, .ref (ad 0)), (3, .int x3), (6, .int x6)]) F.1 F.2.1 dX9_digestBridge_132 hl (by decide) rfl (fun ls hl => ?_)
        refine lv_ldc2 (v := 31) F.1 F.2.1 F.2.2.2.1 (F.2.2.2.2 _ wm_k_RX9_289) dX9_digestBridge_134 ?_
        refine lv_lload F.1 F.2.1 dX9_digestBridge_137 (lv_at hl 0 rfl) ?_
        refine lv_lmul F.1 F.2.1 dX9_digestBridge_139 ?_
        refine lv_aload_n F.1 F.2.1 dX9_digestBridge_140 rfl (lv_at hl 1 rfl) ?_
        refine lv_iload_n F.1 F.2.1 dX9_digestBridge_141 rfl (lv_at hl 2 rfl) ?_
        refine lv_iload F.1 F.2.1 dX9_digestBridge_142 (lv_at hl 3 rfl) ?_
        refine lv_iconst (v := 1) F.1 F.2.1 dX9_digestBridge_144 (by decide) ?_
        obtain ⟨v17, hc16, h⟩ := bp_e h
        refine q_ci hB (q_goV F hE hB (k_X9_passes hI σ0 x3 x6 (1 : Int32) hc16) (ca_RX9_316 F.2.2.2.2 ⟨Nat.le_of_ble_eq_true rfl, Nat.le_of_ble_eq_true rfl⟩) rfl po_0 rfl hl.1 rfl (Nat.le_of_ble_eq_true rfl) dX9_digestBridge_145 ⟨Nat.le_of_ble_eq_true rfl, Nat.le_of_ble_eq_true rfl⟩) (fun H locs hB => ?_)
        refine lv_i2l F.1 F.2.1 dX9_digestBridge_148 rfl ?_
        refine lv_ladd F.1 F.2.1 dX9_digestBridge_149 ?_
        refine lv_lstore (lv' := [(4, .long (((31 : Int64) * (((31 : Int64) * (((31 : Int64) * x4) + v13.toInt64)) + v15.toInt64)) + v17.toInt64)), (0, .ref (ad 0)), (3, .int x3), (6, .int x6)]) F.1 F.2.1 dX9_digestBridge_150 hl (by decide) rfl (fun ls hl => ?_)
        refine lv_iinc (v := (x6 + (1 : Int32))) (lv' := [(6, .int (x6 + (1 : Int32))), (4, .long (((31 : Int64) * (((31 : Int64) * (((31 : Int64) * x4) + v13.toInt64)) + v15.toInt64)) + v17.toInt64)), (0, .ref (ad 0)), (3, .int x3)]) F.1 F.2.1 dX9_digestBridge_152 hl (k := 3) rfl rfl (by decide) rfl (fun ls hl => ?_)
        refine lv_goto (tgt := 87) F.1 F.2.1 dX9_digestBridge_155 (by decide) ?_
        exact ih87 σ0 _ _ _ x3 (((31 : Int64) * (((31 : Int64) * (((31 : Int64) * x4) + v13.toInt64)) + v15.toInt64)) + v17.toInt64) (x6 + (1 : Int32)) h hB (lv_sub hl [2, 3, 1, 0] rfl)
  have B6 : ∀ (n6 : Nat) (σ0 : Mem) (H : Heap) (locs : List Loc) (ls : Array Slot) (x3 : Int32) (x4 : Int64) (x6 : Int32), f_X9_digestBridge_b6 n6 σ0 x3 x4 x6 = some o → Bd D cy ad σ0 s.heap H locs → lv_has ls 7 [(0, .ref (ad 0)), (3, .int x3), (4, .long x4), (6, .int x6)] → W p l e rm_X9_digestBridge s m ([.ref (ad 0), .long a1, .int a3] : List Value).toArray below meth c H locs 0 0 (MQ below (CQl D cy ad o.1 o.2) ([.ref (ad 0), .long a1, .int a3] : List Value).toArray s 0 0 (AA ad)) (F0 m 6 ls []) := by
    intro n6
    induction n6 with
    | zero => intro σ0 H locs ls x3 x4 x6 h hB hl; cases h
    | succ n6 ih6 =>
      intro σ0 H locs ls x3 x4 x6 h hB hl
      rw [f_X9_digestBridge_b6] at h
      refine lv_iload F.1 F.2.1 dX9_digestBridge_6 (lv_at hl 3 rfl) ?_
      refine lv_iconst (v := 3) F.1 F.2.1 dX9_digestBridge_8 (by decide) ?_
      refine lv_icmp_ge (tgt := 38) F.1 F.2.1 dX9_digestBridge_9 (by decide) (fun c1 => ?_) (fun c1 => ?_)
      · replace h := it_e c1 h
        refine lv_ldc2 (v := 31) F.1 F.2.1 F.2.2.2.1 (F.2.2.2.2 _ wm_k_RX9_289) dX9_digestBridge_38 ?_
        refine lv_lload F.1 F.2.1 dX9_digestBridge_41 (lv_at hl 2 rfl) ?_
        refine lv_lmul F.1 F.2.1 dX9_digestBridge_43 ?_
        refine lv_aload_n F.1 F.2.1 dX9_digestBridge_44 rfl (lv_at hl 0 rfl) ?_
        refine lv_iload_n F.1 F.2.1 dX9_digestBridge_45 rfl (lv_at hl 1 rfl) ?_
        obtain ⟨v4, σ3, hc2, h⟩ := bi_e h
        refine q_ci hB (q_goV F hE hB (k_X9_likedMarks hI σ0 x3 hc2) (ca_RX9_195 F.2.2.2.2 ⟨Nat.le_of_ble_eq_true rfl, Nat.le_of_ble_eq_true rfl⟩) rfl po_0 rfl hl.1 rfl (Nat.le_of_ble_eq_true rfl) dX9_digestBridge_46 ⟨Nat.le_of_ble_eq_true rfl, Nat.le_of_ble_eq_true rfl⟩) (fun H locs hB => ?_)
        refine lv_i2l F.1 F.2.1 dX9_digestBridge_49 rfl ?_
        refine lv_ladd F.1 F.2.1 dX9_digestBridge_50 ?_
        refine lv_lstore (lv' := [(4, .long (((31 : Int64) * x4) + v4.toInt64)), (0, .ref (ad 0)), (3, .int x3), (6, .int x6)]) F.1 F.2.1 dX9_digestBridge_51 hl (by decide) rfl (fun ls hl => ?_)
        refine lv_ldc2 (v := 31) F.1 F.2.1 F.2.2.2.1 (F.2.2.2.2 _ wm_k_RX9_289) dX9_digestBridge_53 ?_
        refine lv_lload F.1 F.2.1 dX9_digestBridge_56 (lv_at hl 0 rfl) ?_
        refine lv_lmul F.1 F.2.1 dX9_digestBridge_58 ?_
        refine lv_aload_n F.1 F.2.1 dX9_digestBridge_59 rfl (lv_at hl 1 rfl) ?_
        refine lv_iload_n F.1 F.2.1 dX9_digestBridge_60 rfl (lv_at hl 2 rfl) ?_
        obtain ⟨v7, σ6, hc5, h⟩ := bi_e h
        refine q_ci hB (q_goV F hE hB (k_X9_likedManies hI σ3 x3 hc5) (ca_RX9_198 F.2.2.2.2 ⟨Nat.le_of_ble_eq_true rfl, Nat.le_of_ble_eq_true rfl⟩) rfl po_0 rfl hl.1 rfl (Nat.le_of_ble_eq_true rfl) dX9_digestBridge_61 ⟨Nat.le_of_ble_eq_true rfl, Nat.le_of_ble_eq_true rfl⟩) (fun H locs hB => ?_)
        refine lv_i2l F.1 F.2.1 dX9_digestBridge_64 rfl ?_
        refine lv_ladd F.1 F.2.1 dX9_digestBridge_65 ?_
        refine lv_lstore (lv' := [(4, .long (((31 : Int64) * (((31 : Int64) * x4) + v4.toInt64)) + v7.toInt64)), (0, .ref (ad 0)), (3, .int x3), (6, .int x6)]) F.1 F.2.1 dX9_digestBridge_66 hl (by decide) rfl (fun ls hl => ?_)
        refine lv_ldc2 (v := 31) F.1 F.2.1 F.2.2.2.1 (F.2.2.2.2 _ wm_k_RX9_289) dX9_digestBridge_68 ?_
        refine lv_lload F.1 F.2.1 dX9_digestBridge_71 (lv_at hl 0 rfl) ?_
        refine lv_lmul F.1 F.2.1 dX9_digestBridge_73 ?_
        refine lv_aload_n F.1 F.2.1 dX9_digestBridge_74 rfl (lv_at hl 1 rfl) ?_
        refine lv_iload_n F.1 F.2.1 dX9_digestBridge_75 rfl (lv_at hl 2 rfl) ?_
        refine lv_iconst (v := 5) F.1 F.2.1 dX9_digestBridge_76 (by decide) ?_
        obtain ⟨v10, σ9, hc8, h⟩ := bi_e h
        refine q_ci hB (q_goV F hE hB (k_X9_ask hI σ6 x3 (5 : Int32) hc8) (ca_RX9_310 F.2.2.2.2 ⟨Nat.le_of_ble_eq_true rfl, Nat.le_of_ble_eq_true rfl⟩) rfl po_0 rfl hl.1 rfl (Nat.le_of_ble_eq_true rfl) dX9_digestBridge_77 ⟨Nat.le_of_ble_eq_true rfl, Nat.le_of_ble_eq_true rfl⟩) (fun H locs hB => ?_)
        refine lv_i2l F.1 F.2.1 dX9_digestBridge_80 rfl ?_
        refine lv_ladd F.1 F.2.1 dX9_digestBridge_81 ?_
        refine lv_lstore (lv' := [(4, .long (((31 : Int64) * (((31 : Int64) * (((31 : Int64) * x4) + v4.toInt64)) + v7.toInt64)) + v10.toInt64)), (0, .ref (ad 0)), (3, .int x3), (6, .int x6)]) F.1 F.2.1 dX9_digestBridge_82 hl (by decide) rfl (fun ls hl => ?_)
        refine lv_iconst (v := 0) F.1 F.2.1 dX9_digestBridge_84 (by decide) ?_
        refine lv_istore (lv' := [(6, .int (0 : Int32)), (4, .long (((31 : Int64) * (((31 : Int64) * (((31 : Int64) * x4) + v4.toInt64)) + v7.toInt64)) + v10.toInt64)), (0, .ref (ad 0)), (3, .int x3)]) F.1 F.2.1 dX9_digestBridge_85 hl (by decide) rfl (fun ls hl => ?_)
        exact B87 300 σ9 _ _ _ x3 (((31 : Int64) * (((31 : Int64) * (((31 : Int64) * x4) + v4.toInt64)) + v7.toInt64)) + v10.toInt64) (0 : Int32) h hB (lv_sub hl [2, 3, 1, 0] rfl)
      · replace h := ie_e c1 h
        refine lv_ldc2 (v := 31) F.1 F.2.1 F.2.2.2.1 (F.2.2.2.2 _ wm_k_RX9_289) dX9_digestBridge_12 ?_
        refine lv_lload F.1 F.2.1 dX9_digestBridge_15 (lv_at hl 2 rfl) ?_
        refine lv_lmul F.1 F.2.1 dX9_digestBridge_17 ?_
        refine lv_aload_n F.1 F.2.1 dX9_digestBridge_18 rfl (lv_at hl 0 rfl) ?_
        refine gf_RX9_18 F hE hB po_0 rfl dX9_digestBridge_19 ?_
        refine lv_iload_n F.1 F.2.1 dX9_digestBridge_22 rfl (lv_at hl 1 rfl) ?_
        refine lv_iload F.1 F.2.1 dX9_digestBridge_23 (lv_at hl 3 rfl) ?_
        obtain ⟨v19, hc18, h⟩ := bp_e h
        refine q_ci hB (q_goV F hE hB (k_X2_part hI σ0 x3 x6 hc18) (ca_RX9_110 F.2.2.2.2 ⟨Nat.le_of_ble_eq_true rfl, Nat.le_of_ble_eq_true rfl⟩) rfl po_6 rfl hl.1 rfl (Nat.le_of_ble_eq_true rfl) dX9_digestBridge_25 ⟨Nat.le_of_ble_eq_true rfl, Nat.le_of_ble_eq_true rfl⟩) (fun H locs hB => ?_)
        refine lv_i2l F.1 F.2.1 dX9_digestBridge_28 rfl ?_
        refine lv_ladd F.1 F.2.1 dX9_digestBridge_29 ?_
        refine lv_lstore (lv' := [(4, .long (((31 : Int64) * x4) + v19.toInt64)), (0, .ref (ad 0)), (3, .int x3), (6, .int x6)]) F.1 F.2.1 dX9_digestBridge_30 hl (by decide) rfl (fun ls hl => ?_)
        refine lv_iinc (v := (x6 + (1 : Int32))) (lv' := [(6, .int (x6 + (1 : Int32))), (4, .long (((31 : Int64) * x4) + v19.toInt64)), (0, .ref (ad 0)), (3, .int x3)]) F.1 F.2.1 dX9_digestBridge_32 hl (k := 3) rfl rfl (by decide) rfl (fun ls hl => ?_)
        refine lv_goto (tgt := 6) F.1 F.2.1 dX9_digestBridge_35 (by decide) ?_
        exact ih6 σ0 _ _ _ x3 (((31 : Int64) * x4) + v19.toInt64) (x6 + (1 : Int32)) h hB (lv_sub hl [2, 3, 1, 0] rfl)
  unfold f_X9_digestBridge at h
  refine lv_lload_n F.1 F.2.1 dX9_digestBridge_0 rfl (lv_at hl 1 rfl) ?_
  refine lv_lstore (lv' := [(4, .long a1), (0, .ref (ad 0)), (1, .long a1), (3, .int a3)]) F.1 F.2.1 dX9_digestBridge_1 hl (by decide) rfl (fun ls hl => ?_)
  refine lv_iconst (v := 0) F.1 F.2.1 dX9_digestBridge_3 (by decide) ?_
  refine lv_istore (lv' := [(6, .int (0 : Int32)), (4, .long a1), (0, .ref (ad 0)), (1, .long a1), (3, .int a3)]) F.1 F.2.1 dX9_digestBridge_4 hl (by decide) rfl (fun ls hl => ?_)
  exact B6 300 σ0 _ _ _ a3 a1 (0 : Int32) h hB (lv_sub hl [2, 4, 1, 0] rfl)
