def f_X10_underOf_b52 (k16 : Mem → Int32 → Int32 → Int32 → Option (Int32 × Mem)) (σ0 : Mem) (x1 : Int32) (x3 : Int32) (y0 : Int32) (y1 : Int32) : Option (Int32 × Mem) := (ck (((7 : Int32) * x1) + x3) 56 (ck (((7 : Int32) * x1) + x3) 56 (lt (ms σ0 72 (((7 : Int32) * x1) + x3).toNatClampNeg ((σ0.1 72 (((7 : Int32) * x1) + x3).toNatClampNeg) - (1 : Int32))) (fun σ16 => (k16 σ16 x1 (y1 ||| y0) (x3 + (1 : Int32)))))))
def f_X10_underOf_b16 : Nat → Mem → Int32 → Int32 → Int32 → Option (Int32 × Mem)
  | 0, _, _, _, _ => none
  | n16 + 1, σ0, x1, x2, x3 => (if (6 : Int32) ≤ x3 then (some (x2, σ0)) else (ck (((7 : Int32) * x1) + x3) 56 (ck (((7 : Int32) * x1) + x3) 56 (lt (ms σ0 72 (((7 : Int32) * x1) + x3).toNatClampNeg ((σ0.1 72 (((7 : Int32) * x1) + x3).toNatClampNeg) + (1 : Int32))) (fun σ8 => (bi (f_X10_isSeen σ8) (fun v12 σ11 => (if v12 = (0 : Int32) then (f_X10_underOf_b52 (f_X10_underOf_b16 n16) σ11 x1 x3 (0 : Int32) x2) else (f_X10_underOf_b52 (f_X10_underOf_b16 n16) σ11 x1 x3 ((1 : Int32) <<< (x3 &&& 31)) x2)))))))))
def f_X10_underOf_b13 (σ0 : Mem) (x1 : Int32) (y0 : Int32) : Option (Int32 × Mem) := (f_X10_underOf_b16 300 σ0 x1 y0 (0 : Int32))
def f_X10_underOf (σ0 : Mem) (a1 : Int32) : Option (Int32 × Mem) := (bi (f_X10_isSeen σ0) (fun v3 σ2 => (if v3 = (0 : Int32) then (f_X10_underOf_b13 σ2 a1 (0 : Int32)) else (f_X10_underOf_b13 σ2 a1 (64 : Int32)))))
set_option maxHeartbeats 4000000 in
set_option maxRecDepth 100000 in
theorem k_X10_underOf {l : Launch} {D : va_G} {cy : Nat → ClassId} {ad : Nat → Nat} {ta tb : Nat} (hI : AdI ad) (σ0 : Mem) (a1 : Int32) {o : Int32 × Mem} (h : f_X10_underOf σ0 a1 = some o) : Met l yX10_underOf (Cond.code yX10_underOf cX10_underOf 4 (some .int) :: wG) rm_X10_underOf (CP D cy ad ta tb σ0 [.ref (ad 64), .int a1]) (CQi D cy ad o.1 o.2) 0 0 (AA ad) := by
  refine Met.ofW (cc := cX10_underOf) (maxL := 4) (ret := (some .int)) (by decide) rfl ?_
  intro p e s m args below meth c s₁ B hml hv
  obtain ⟨rfl, hE, hP⟩ := hv
  have hts := atoms_spec (ws := Cond.code yX10_underOf cX10_underOf 4 (some .int) :: wG) B.pre
  have F : CallFix p m c cX10_underOf 4 s _ wG RX10 := ⟨B.exec, B.bytes, hml, findClass_of_methodNamed B.named, fun w hw => hts w (List.mem_cons_of_mem _ hw)⟩
  have hr := B.returns
  have hlocks := B.notSynchronized
  have hB : Bd D cy ad σ0 s.heap s.heap [] := ⟨hP, va_S.rf⟩
  have hl := lv_entry ([.ref (ad 64), .int a1] : List Value) (n := 4) (Nat.le_of_ble_eq_true rfl)
  rw [lg_entry_eq]
  generalize (lg_sl ([.ref (ad 64), .int a1] : List Value) ++ List.replicate (4 - (lg_sl ([.ref (ad 64), .int a1] : List Value)).length) Slot.unset).toArray = ls at hl ⊢
  have hl : lv_has ls 4 [(0, .ref (ad 64)), (1, .int a1)] := hl
  have B16 : ∀ (n16 : Nat) (σ0 : Mem) (H : Heap) (locs : List Loc) (ls : Array Slot) (x1 : Int32) (x2 : Int32) (x3 : Int32), f_X10_underOf_b16 n16 σ0 x1 x2 x3 = some o → Bd D cy ad σ0 s.heap H locs → lv_has ls 4 [(0, .ref (ad 64)), (1, .int x1), (2, .int x2), (3, .int x3)] → W p l e rm_X10_underOf s m ([.ref (ad 64), .int a1] : List Value).toArray below meth c H locs 0 0 (MQ below (CQi D cy ad o.1 o.2) ([.ref (ad 64), .int a1] : List Value).toArray s 0 0 (AA ad)) (F0 m 16 ls []) := by
    intro n16
    induction n16 with
    | zero => intro σ0 H locs ls x1 x2 x3 h hB hl; cases h
    | succ n16 ih16 =>
      have B52 : ∀ (σ0 : Mem) (H : Heap) (locs : List Loc) (ls : Array Slot) (x1 : Int32) (x3 : Int32) (y0 : Int32) (y1 : Int32), f_X10_underOf_b52 (f_X10_underOf_b16 n16) σ0 x1 x3 y0 y1 = some o → Bd D cy ad σ0 s.heap H locs → lv_has ls 4 [(0, .ref (ad 64)), (1, .int x1), (3, .int x3)] → W p l e rm_X10_underOf s m ([.ref (ad 64), .int a1] : List Value).toArray below meth c H locs 0 0 (MQ below (CQi D cy ad o.1 o.2) ([.ref (ad 64), .int a1] : List Value).toArray s 0 0 (AA ad)) (F0 m 52 ls [.int y0, .int y1]) := by
        intro σ0 H locs ls x1 x3 y0 y1 h hB hl
        unfold f_X10_underOf_b52 at h
        refine lv_ior F.1 F.2.1 dX10_underOf_52 ?_
        refine lv_istore_n (lv' := [(2, .int (y1 ||| y0)), (0, .ref (ad 64)), (1, .int x1), (3, .int x3)]) F.1 F.2.1 dX10_underOf_53 rfl hl (by decide) rfl (fun ls hl => ?_)
        refine lv_aload_n F.1 F.2.1 dX10_underOf_54 rfl (lv_at hl 1 rfl) ?_
        refine gf_RX10_31 F hE hB po_64 rfl dX10_underOf_55 ?_
        refine lv_bipush (v := 7) F.1 F.2.1 dX10_underOf_58 (by decide) ?_
        refine lv_iload_n F.1 F.2.1 dX10_underOf_60 rfl (lv_at hl 2 rfl) ?_
        refine lv_imul F.1 F.2.1 dX10_underOf_61 ?_
        refine lv_iload_n F.1 F.2.1 dX10_underOf_62 rfl (lv_at hl 3 rfl) ?_
        refine lv_iadd F.1 F.2.1 dX10_underOf_63 ?_
        refine lv_dup2_11 F.1 F.2.1 dX10_underOf_64 rfl rfl ?_
        obtain ⟨hi14, h⟩ := ck_e h
        refine q_iald F hE hB po_72 hi14 dX10_underOf_65 ?_
        refine lv_iconst (v := 1) F.1 F.2.1 dX10_underOf_66 (by decide) ?_
        refine lv_isub F.1 F.2.1 dX10_underOf_67 ?_
        obtain ⟨hi15, h⟩ := ck_e h
        obtain ⟨σ16, e17, h⟩ := lt_e h
        refine q_iast F hE hI hB row_72 hi15 dX10_underOf_68 e17 (fun H locs hB => ?_)
        refine lv_iinc (v := (x3 + (1 : Int32))) (lv' := [(3, .int (x3 + (1 : Int32))), (2, .int (y1 ||| y0)), (0, .ref (ad 64)), (1, .int x1)]) F.1 F.2.1 dX10_underOf_69 hl (k := 3) rfl rfl (by decide) rfl (fun ls hl => ?_)
        refine lv_goto (tgt := 16) F.1 F.2.1 dX10_underOf_72 (by decide) ?_
        exact ih16 σ16 _ _ _ x1 (y1 ||| y0) (x3 + (1 : Int32)) h hB (lv_sub hl [2, 3, 1, 0] rfl)
      intro σ0 H locs ls x1 x2 x3 h hB hl
      rw [f_X10_underOf_b16] at h
      refine lv_iload_n F.1 F.2.1 dX10_underOf_16 rfl (lv_at hl 3 rfl) ?_
      refine lv_bipush (v := 6) F.1 F.2.1 dX10_underOf_17 (by decide) ?_
      refine lv_icmp_ge (tgt := 75) F.1 F.2.1 dX10_underOf_19 (by decide) (fun c5 => ?_) (fun c5 => ?_)
      · replace h := it_e c5 h
        refine lv_iload_n F.1 F.2.1 dX10_underOf_75 rfl (lv_at hl 2 rfl) ?_
        exact q_iret F hlocks hr hB (so1 h) (so2 h) dX10_underOf_76
      · replace h := ie_e c5 h
        refine lv_aload_n F.1 F.2.1 dX10_underOf_22 rfl (lv_at hl 0 rfl) ?_
        refine gf_RX10_31 F hE hB po_64 rfl dX10_underOf_23 ?_
        refine lv_bipush (v := 7) F.1 F.2.1 dX10_underOf_26 (by decide) ?_
        refine lv_iload_n F.1 F.2.1 dX10_underOf_28 rfl (lv_at hl 1 rfl) ?_
        refine lv_imul F.1 F.2.1 dX10_underOf_29 ?_
        refine lv_iload_n F.1 F.2.1 dX10_underOf_30 rfl (lv_at hl 3 rfl) ?_
        refine lv_iadd F.1 F.2.1 dX10_underOf_31 ?_
        refine lv_dup2_11 F.1 F.2.1 dX10_underOf_32 rfl rfl ?_
        obtain ⟨hi6, h⟩ := ck_e h
        refine q_iald F hE hB po_72 hi6 dX10_underOf_33 ?_
        refine lv_iconst (v := 1) F.1 F.2.1 dX10_underOf_34 (by decide) ?_
        refine lv_iadd F.1 F.2.1 dX10_underOf_35 ?_
        obtain ⟨hi7, h⟩ := ck_e h
        obtain ⟨σ8, e9, h⟩ := lt_e h
        refine q_iast F hE hI hB row_72 hi7 dX10_underOf_36 e9 (fun H locs hB => ?_)
        refine lv_iload_n F.1 F.2.1 dX10_underOf_37 rfl (lv_at hl 2 rfl) ?_
        refine lv_aload_n F.1 F.2.1 dX10_underOf_38 rfl (lv_at hl 0 rfl) ?_
        obtain ⟨v12, σ11, hc10, h⟩ := bi_e h
        refine q_ci hB (q_goV F hE hB (k_X10_isSeen hI σ8 hc10) (ca_RX10_234 F.2.2.2.2 ⟨Nat.le_of_ble_eq_true rfl, Nat.le_of_ble_eq_true rfl⟩) rfl po_64 rfl hl.1 rfl (Nat.le_of_ble_eq_true rfl) dX10_underOf_39 ⟨Nat.le_of_ble_eq_true rfl, Nat.le_of_ble_eq_true rfl⟩) (fun H locs hB => ?_)
        refine lv_if_eq (tgt := 51) F.1 F.2.1 dX10_underOf_42 (by decide) (fun c13 => ?_) (fun c13 => ?_)
        · replace h := it_e c13 h
          refine lv_iconst (v := 0) F.1 F.2.1 dX10_underOf_51 (by decide) ?_
          exact B52 σ11 _ _ _ x1 x3 (0 : Int32) x2 h hB (lv_sub hl [0, 1, 3] rfl)
        · replace h := ie_e c13 h
          refine lv_iconst (v := 1) F.1 F.2.1 dX10_underOf_45 (by decide) ?_
          refine lv_iload_n F.1 F.2.1 dX10_underOf_46 rfl (lv_at hl 3 rfl) ?_
          refine lv_ishl F.1 F.2.1 dX10_underOf_47 ?_
          refine lv_goto (tgt := 52) F.1 F.2.1 dX10_underOf_48 (by decide) ?_
          exact B52 σ11 _ _ _ x1 x3 ((1 : Int32) <<< (x3 &&& 31)) x2 h hB (lv_sub hl [0, 1, 3] rfl)
  have B13 : ∀ (σ0 : Mem) (H : Heap) (locs : List Loc) (ls : Array Slot) (x1 : Int32) (y0 : Int32), f_X10_underOf_b13 σ0 x1 y0 = some o → Bd D cy ad σ0 s.heap H locs → lv_has ls 4 [(0, .ref (ad 64)), (1, .int x1)] → W p l e rm_X10_underOf s m ([.ref (ad 64), .int a1] : List Value).toArray below meth c H locs 0 0 (MQ below (CQi D cy ad o.1 o.2) ([.ref (ad 64), .int a1] : List Value).toArray s 0 0 (AA ad)) (F0 m 13 ls [.int y0]) := by
    intro σ0 H locs ls x1 y0 h hB hl
    unfold f_X10_underOf_b13 at h
    refine lv_istore_n (lv' := [(2, .int y0), (0, .ref (ad 64)), (1, .int x1)]) F.1 F.2.1 dX10_underOf_13 rfl hl (by decide) rfl (fun ls hl => ?_)
    refine lv_iconst (v := 0) F.1 F.2.1 dX10_underOf_14 (by decide) ?_
    refine lv_istore_n (lv' := [(3, .int (0 : Int32)), (2, .int y0), (0, .ref (ad 64)), (1, .int x1)]) F.1 F.2.1 dX10_underOf_15 rfl hl (by decide) rfl (fun ls hl => ?_)
    exact B16 300 σ0 _ _ _ x1 y0 (0 : Int32) h hB (lv_sub hl [2, 3, 1, 0] rfl)
  unfold f_X10_underOf at h
  refine lv_aload_n F.1 F.2.1 dX10_underOf_0 rfl (lv_at hl 0 rfl) ?_
  obtain ⟨v3, σ2, hc1, h⟩ := bi_e h
  refine q_ci hB (q_goV F hE hB (k_X10_isSeen hI σ0 hc1) (ca_RX10_234 F.2.2.2.2 ⟨Nat.le_of_ble_eq_true rfl, Nat.le_of_ble_eq_true rfl⟩) rfl po_64 rfl hl.1 rfl (Nat.le_of_ble_eq_true rfl) dX10_underOf_1 ⟨Nat.le_of_ble_eq_true rfl, Nat.le_of_ble_eq_true rfl⟩) (fun H locs hB => ?_)
  refine lv_if_eq (tgt := 12) F.1 F.2.1 dX10_underOf_4 (by decide) (fun c4 => ?_) (fun c4 => ?_)
  · replace h := it_e c4 h
    refine lv_iconst (v := 0) F.1 F.2.1 dX10_underOf_12 (by decide) ?_
    exact B13 σ2 _ _ _ a1 (0 : Int32) h hB (lv_sub hl [0, 1] rfl)
  · replace h := ie_e c4 h
    refine lv_bipush (v := 64) F.1 F.2.1 dX10_underOf_7 (by decide) ?_
    refine lv_goto (tgt := 13) F.1 F.2.1 dX10_underOf_9 (by decide) ?_
    exact B13 σ2 _ _ _ a1 (64 : Int32) h hB (lv_sub hl [0, 1] rfl)
def f_X10_under (σ0 : Mem) (a1 : Int32) : Option (Int32 × Mem) := (bv (f_X10_find σ0) (fun σ2 => (bp (f_X10_isBoat σ2 a1) (fun v4 => (if v4 = (0 : Int32) then (some ((-2 : Int32), σ2)) else (bi (f_X10_underOf σ2 a1) (fun v8 σ7 => (some (v8, σ7)))))))))
set_option maxHeartbeats 4000000 in
set_option maxRecDepth 100000 in
theorem k_X10_under {l : Launch} {D : va_G} {cy : Nat → ClassId} {ad : Nat → Nat} {ta tb : Nat} (hI : AdI ad) (σ0 : Mem) (a1 : Int32) {o : Int32 × Mem} (h : f_X10_under σ0 a1 = some o) : Met l yX10_under (Cond.code yX10_under cX10_under 2 (some .int) :: wG) rm_X10_under (CP D cy ad ta tb σ0 [.ref (ad 64), .int a1]) (CQi D cy ad o.1 o.2) 0 0 (AA ad) := by
  refine Met.ofW (cc := cX10_under) (maxL := 2) (ret := (some .int)) (by decide) rfl ?_
  intro p e s m args below meth c s₁ B hml hv
  obtain ⟨rfl, hE, hP⟩ := hv
  have hts := atoms_spec (ws := Cond.code yX10_under cX10_under 2 (some .int) :: wG) B.pre
  have F : CallFix p m c cX10_under 2 s _ wG RX10 := ⟨B.exec, B.bytes, hml, findClass_of_methodNamed B.named, fun w hw => hts w (List.mem_cons_of_mem _ hw)⟩
  have hr := B.returns
  have hlocks := B.notSynchronized
  have hB : Bd D cy ad σ0 s.heap s.heap [] := ⟨hP, va_S.rf⟩
  have hl := lv_entry ([.ref (ad 64), .int a1] : List Value) (n := 2) (Nat.le_of_ble_eq_true rfl)
  rw [lg_entry_eq]
  generalize (lg_sl ([.ref (ad 64), .int a1] : List Value) ++ List.replicate (2 - (lg_sl ([.ref (ad 64), .int a1] : List Value)).length) Slot.unset).toArray = ls at hl ⊢
  have hl : lv_has ls 2 [(0, .ref (ad 64)), (1, .int a1)] := hl
  unfold f_X10_under at h
  refine lv_aload_n F.1 F.2.1 dX10_under_0 rfl (lv_at hl 0 rfl) ?_
  obtain ⟨σ2, hc1, h⟩ := bv_e h
  refine q_cv hB (q_goV F hE hB (k_X10_find hI σ0 hc1) (ca_RX10_129 F.2.2.2.2 ⟨Nat.le_of_ble_eq_true rfl, Nat.le_of_ble_eq_true rfl⟩) rfl po_64 rfl hl.1 rfl (Nat.le_of_ble_eq_true rfl) dX10_under_1 ⟨Nat.le_of_ble_eq_true rfl, Nat.le_of_ble_eq_true rfl⟩) (fun H locs hB => ?_)
  refine lv_aload_n F.1 F.2.1 dX10_under_4 rfl (lv_at hl 0 rfl) ?_
  refine lv_iload_n F.1 F.2.1 dX10_under_5 rfl (lv_at hl 1 rfl) ?_
  obtain ⟨v4, hc3, h⟩ := bp_e h
  refine q_ci hB (q_goV F hE hB (k_X10_isBoat hI σ2 a1 hc3) (ca_RX10_135 F.2.2.2.2 ⟨Nat.le_of_ble_eq_true rfl, Nat.le_of_ble_eq_true rfl⟩) rfl po_64 rfl hl.1 rfl (Nat.le_of_ble_eq_true rfl) dX10_under_6 ⟨Nat.le_of_ble_eq_true rfl, Nat.le_of_ble_eq_true rfl⟩) (fun H locs hB => ?_)
  refine lv_if_eq (tgt := 20) F.1 F.2.1 dX10_under_9 (by decide) (fun c5 => ?_) (fun c5 => ?_)
  · replace h := it_e c5 h
    refine lv_bipush (v := (-2)) F.1 F.2.1 dX10_under_20 (by decide) ?_
    exact q_iret F hlocks hr hB (so1 h) (so2 h) dX10_under_22
  · replace h := ie_e c5 h
    refine lv_aload_n F.1 F.2.1 dX10_under_12 rfl (lv_at hl 0 rfl) ?_
    refine lv_iload_n F.1 F.2.1 dX10_under_13 rfl (lv_at hl 1 rfl) ?_
    obtain ⟨v8, σ7, hc6, h⟩ := bi_e h
    refine q_ci hB (q_goV F hE hB (k_X10_underOf hI σ2 a1 hc6) (ca_RX10_241 F.2.2.2.2 ⟨Nat.le_of_ble_eq_true rfl, Nat.le_of_ble_eq_true rfl⟩) rfl po_64 rfl hl.1 rfl (Nat.le_of_ble_eq_true rfl) dX10_under_14 ⟨Nat.le_of_ble_eq_true rfl, Nat.le_of_ble_eq_true rfl⟩) (fun H locs hB => ?_)
    refine lv_goto (tgt := 22) F.1 F.2.1 dX10_under_17 (by decide) ?_
    exact q_iret F hlocks hr hB (so1 h) (so2 h) dX10_under_22
def f_X10_askOf_b260 (k148 : Mem → Int32 → Int32 → Int32 → Option (Int32 × Mem)) (σ0 : Mem) (x5 : Int32) (x7 : Int32) (y0 : Int32) : Option (Int32 × Mem) := (k148 σ0 x5 y0 (x7 + (1 : Int32)))
def f_X10_askOf_b246 (k148 : Mem → Int32 → Int32 → Int32 → Option (Int32 × Mem)) (σ0 : Mem) (x6 : Int32) (x7 : Int32) (x8 : Int32) (x9 : Int32) (y0 : Int32) : Option (Int32 × Mem) := (if x9 = (0 : Int32) then (f_X10_askOf_b260 k148 σ0 y0 x7 x6) else (f_X10_askOf_b260 k148 σ0 y0 x7 x8))
def f_X10_askOf_b232 (k148 : Mem → Int32 → Int32 → Int32 → Option (Int32 × Mem)) (σ0 : Mem) (x5 : Int32) (x6 : Int32) (x7 : Int32) (x8 : Int32) (y0 : Int32) : Option (Int32 × Mem) := (if y0 = (0 : Int32) then (f_X10_askOf_b246 k148 σ0 x6 x7 x8 y0 x5) else (f_X10_askOf_b246 k148 σ0 x6 x7 x8 y0 x7))
def f_X10_askOf_b227 (k148 : Mem → Int32 → Int32 → Int32 → Option (Int32 × Mem)) (σ0 : Mem) (x5 : Int32) (x6 : Int32) (x7 : Int32) (x8 : Int32) : Option (Int32 × Mem) := (f_X10_askOf_b232 k148 σ0 x5 x6 x7 x8 (1 : Int32))
def f_X10_askOf_b206 (k148 : Mem → Int32 → Int32 → Int32 → Option (Int32 × Mem)) (k163 : Mem → Int32 → Int32 → Int32 → Int32 → Int32 → Option (Int32 × Mem)) (σ0 : Mem) (x5 : Int32) (x6 : Int32) (x7 : Int32) (x9 : Int32) (y0 : Int32) : Option (Int32 × Mem) := (k163 σ0 x5 x6 x7 y0 (x9 + (1 : Int32)))
def f_X10_askOf_b163 (k148 : Mem → Int32 → Int32 → Int32 → Option (Int32 × Mem)) : Nat → Mem → Int32 → Int32 → Int32 → Int32 → Int32 → Option (Int32 × Mem)
  | 0, _, _, _, _, _, _ => none
  | n163 + 1, σ0, x5, x6, x7, x8, x9 => (if (10 : Int32) ≤ x9 then (if x5 = (-1 : Int32) then (f_X10_askOf_b227 k148 σ0 x5 x6 x7 x8) else (if x6 ≤ x8 then (f_X10_askOf_b232 k148 σ0 x5 x6 x7 x8 (0 : Int32)) else (f_X10_askOf_b227 k148 σ0 x5 x6 x7 x8))) else (ck (((10 : Int32) * x7) + x9) 80 (if (σ0.1 79 (((10 : Int32) * x7) + x9).toNatClampNeg) ≤ x8 then (f_X10_askOf_b206 k148 (f_X10_askOf_b163 k148 n163) σ0 x5 x6 x7 x9 x8) else (ck (((10 : Int32) * x7) + x9) 80 (f_X10_askOf_b206 k148 (f_X10_askOf_b163 k148 n163) σ0 x5 x6 x7 x9 (σ0.1 79 (((10 : Int32) * x7) + x9).toNatClampNeg))))))
def f_X10_askOf_b148 : Nat → Mem → Int32 → Int32 → Int32 → Option (Int32 × Mem)
  | 0, _, _, _, _ => none
  | n148 + 1, σ0, x5, x6, x7 => (if (σ0.1 64 9) ≤ x7 then (some (x5, σ0)) else (f_X10_askOf_b163 (f_X10_askOf_b148 n148) 300 σ0 x5 x6 x7 (0 : Int32) (0 : Int32)))
def f_X10_askOf_b121 (k46 : Mem → Int32 → Int32 → Int32 → Int32 → Int32 → Option (Int32 × Mem)) (σ0 : Mem) (x1 : Int32) (x2 : Int32) (x3 : Int32) (x4 : Int32) (x5 : Int32) : Option (Int32 × Mem) := (k46 σ0 x1 x2 x3 x4 (x5 + (1 : Int32)))
def f_X10_askOf_b82 (k46 : Mem → Int32 → Int32 → Int32 → Int32 → Int32 → Option (Int32 × Mem)) : Nat → Mem → Int32 → Int32 → Int32 → Int32 → Int32 → Int32 → Option (Int32 × Mem)
  | 0, _, _, _, _, _, _, _ => none
  | n82 + 1, σ0, x1, x2, x3, x4, x5, x6 => (if (σ0.1 64 9) ≤ x6 then (f_X10_askOf_b121 k46 σ0 x1 x2 x3 x4 x5) else (ck x6 8 (ck ((((10 : Int32) * x6) + (σ0.1 74 x6.toNatClampNeg)) + (1 : Int32)) 80 (ck ((((10 : Int32) * x6) + (σ0.1 74 x6.toNatClampNeg)) + (1 : Int32)) 80 (lt (ms σ0 79 ((((10 : Int32) * x6) + (σ0.1 74 x6.toNatClampNeg)) + (1 : Int32)).toNatClampNeg ((σ0.1 79 ((((10 : Int32) * x6) + (σ0.1 74 x6.toNatClampNeg)) + (1 : Int32)).toNatClampNeg) + (1 : Int32))) (fun σ31 => (f_X10_askOf_b82 k46 n82 σ31 x1 x2 x3 x4 x5 (x6 + (1 : Int32)))))))))
def f_X10_askOf_b46 : Nat → Mem → Int32 → Int32 → Int32 → Int32 → Int32 → Option (Int32 × Mem)
  | 0, _, _, _, _, _, _ => none
  | n46 + 1, σ0, x1, x2, x3, x4, x5 => (if (6 : Int32) ≤ x5 then (ck (((3 : Int32) * x1) + (1 : Int32)) 24 (lt (ms σ0 71 (((3 : Int32) * x1) + (1 : Int32)).toNatClampNeg x4) (fun σ8 => (f_X10_askOf_b148 300 σ8 (-1 : Int32) (0 : Int32) (0 : Int32))))) else (bp (f_X10_isIn σ0 x3 x5) (fun v20 => (if v20 = (0 : Int32) then (f_X10_askOf_b121 (f_X10_askOf_b46 n46) σ0 x1 x2 x3 x4 x5) else (ck (((3 : Int32) * x1) + (1 : Int32)) 24 (lt (ms σ0 71 (((3 : Int32) * x1) + (1 : Int32)).toNatClampNeg x5) (fun σ23 => (bv (f_X10_lives σ23 x2) (fun σ26 => (f_X10_askOf_b82 (f_X10_askOf_b46 n46) 300 σ26 x1 x2 x3 x4 x5 (0 : Int32)))))))))))
def f_X10_askOf_b22 : Nat → Mem → Int32 → Int32 → Int32 → Int32 → Int32 → Option (Int32 × Mem)
  | 0, _, _, _, _, _, _ => none
  | n22 + 1, σ0, x1, x2, x3, x4, x5 => (if (80 : Int32) ≤ x5 then (f_X10_askOf_b46 300 σ0 x1 x2 x3 x4 (0 : Int32)) else (ck x5 80 (lt (ms σ0 79 x5.toNatClampNeg (0 : Int32)) (fun σ34 => (f_X10_askOf_b22 n22 σ34 x1 x2 x3 x4 (x5 + (1 : Int32)))))))
def f_X10_askOf (σ0 : Mem) (a1 : Int32) (a2 : Int32) : Option (Int32 × Mem) := (bi (f_X10_likedOf σ0 a1 (0 : Int32)) (fun v3 σ2 => (ck (((3 : Int32) * a1) + (1 : Int32)) 24 (f_X10_askOf_b22 300 σ2 a1 a2 v3 (σ2.1 71 (((3 : Int32) * a1) + (1 : Int32)).toNatClampNeg) (0 : Int32)))))
set_option maxHeartbeats 4000000 in
set_option maxRecDepth 100000 in
theorem k_X10_askOf {l : Launch} {D : va_G} {cy : Nat → ClassId} {ad : Nat → Nat} {ta tb : Nat} (hI : AdI ad) (σ0 : Mem) (a1 : Int32) (a2 : Int32) {o : Int32 × Mem} (h : f_X10_askOf σ0 a1 a2 = some o) : Met l yX10_askOf (Cond.code yX10_askOf cX10_askOf 10 (some .int) :: wG) rm_X10_askOf (CP D cy ad ta tb σ0 [.ref (ad 64), .int a1, .int a2]) (CQi D cy ad o.1 o.2) 0 0 (AA ad) := by
  refine Met.ofW (cc := cX10_askOf) (maxL := 10) (ret := (some .int)) (by decide) rfl ?_
  intro p e s m args below meth c s₁ B hml hv
  obtain ⟨rfl, hE, hP⟩ := hv
  have hts := atoms_spec (ws := Cond.code yX10_askOf cX10_askOf 10 (some .int) :: wG) B.pre
  have F : CallFix p m c cX10_askOf 10 s _ wG RX10 := ⟨B.exec, B.bytes, hml, findClass_of_methodNamed B.named, fun w hw => hts w (List.mem_cons_of_mem _ hw)⟩
  have hr := B.returns
  have hlocks := B.notSynchronized
  have hB : Bd D cy ad σ0 s.heap s.heap [] := ⟨hP, va_S.rf⟩
  have hl := lv_entry ([.ref (ad 64), .int a1, .int a2] : List Value) (n := 10) (Nat.le_of_ble_eq_true rfl)
  rw [lg_entry_eq]
  generalize (lg_sl ([.ref (ad 64), .int a1, .int a2] : List Value) ++ List.replicate (10 - (lg_sl ([.ref (ad 64), .int a1, .int a2] : List Value)).length) Slot.unset).toArray = ls at hl ⊢
  have hl : lv_has ls 10 [(0, .ref (ad 64)), (1, .int a1), (2, .int a2)] := hl
  have B148 : ∀ (n148 : Nat) (σ0 : Mem) (H : Heap) (locs : List Loc) (ls : Array Slot) (x5 : Int32) (x6 : Int32) (x7 : Int32), f_X10_askOf_b148 n148 σ0 x5 x6 x7 = some o → Bd D cy ad σ0 s.heap H locs → lv_has ls 10 [(0, .ref (ad 64)), (5, .int x5), (6, .int x6), (7, .int x7)] → W p l e rm_X10_askOf s m ([.ref (ad 64), .int a1, .int a2] : List Value).toArray below meth c H locs 0 0 (MQ below (CQi D cy ad o.1 o.2) ([.ref (ad 64), .int a1, .int a2] : List Value).toArray s 0 0 (AA ad)) (F0 m 148 ls []) := by
    intro n148
    induction n148 with
    | zero => intro σ0 H locs ls x5 x6 x7 h hB hl; cases h
    | succ n148 ih148 =>
      have B260 : ∀ (σ0 : Mem) (H : Heap) (locs : List Loc) (ls : Array Slot) (x5 : Int32) (x7 : Int32) (y0 : Int32), f_X10_askOf_b260 (f_X10_askOf_b148 n148) σ0 x5 x7 y0 = some o → Bd D cy ad σ0 s.heap H locs → lv_has ls 10 [(0, .ref (ad 64)), (5, .int x5), (7, .int x7)] → W p l e rm_X10_askOf s m ([.ref (ad 64), .int a1, .int a2] : List Value).toArray below meth c H locs 0 0 (MQ below (CQi D cy ad o.1 o.2) ([.ref (ad 64), .int a1, .int a2] : List Value).toArray s 0 0 (AA ad)) (F0 m 260 ls [.int y0]) := by
        intro σ0 H locs ls x5 x7 y0 h hB hl
        unfold f_X10_askOf_b260 at h
        refine lv_istore (lv' := [(6, .int y0), (0, .ref (ad 64)), (5, .int x5), (7, .int x7)]) F.1 F.2.1 dX10_askOf_260 hl (by decide) rfl (fun ls hl => ?_)
        refine lv_iinc (v := (x7 + (1 : Int32))) (lv' := [(7, .int (x7 + (1 : Int32))), (6, .int y0), (0, .ref (ad 64)), (5, .int x5)]) F.1 F.2.1 dX10_askOf_262 hl (k := 3) rfl rfl (by decide) rfl (fun ls hl => ?_)
        refine lv_goto (tgt := 148) F.1 F.2.1 dX10_askOf_265 (by decide) ?_
        exact ih148 σ0 _ _ _ x5 y0 (x7 + (1 : Int32)) h hB (lv_sub hl [2, 3, 1, 0] rfl)
      have B246 : ∀ (σ0 : Mem) (H : Heap) (locs : List Loc) (ls : Array Slot) (x6 : Int32) (x7 : Int32) (x8 : Int32) (x9 : Int32) (y0 : Int32), f_X10_askOf_b246 (f_X10_askOf_b148 n148) σ0 x6 x7 x8 x9 y0 = some o → Bd D cy ad σ0 s.heap H locs → lv_has ls 10 [(0, .ref (ad 64)), (6, .int x6), (7, .int x7), (8, .int x8), (9, .int x9)] → W p l e rm_X10_askOf s m ([.ref (ad 64), .int a1, .int a2] : List Value).toArray below meth c H locs 0 0 (MQ below (CQi D cy ad o.1 o.2) ([.ref (ad 64), .int a1, .int a2] : List Value).toArray s 0 0 (AA ad)) (F0 m 246 ls [.int y0]) := by
        intro σ0 H locs ls x6 x7 x8 x9 y0 h hB hl
        unfold f_X10_askOf_b246 at h
        refine lv_istore (lv' := [(5, .int y0), (0, .ref (ad 64)), (6, .int x6), (7, .int x7), (8, .int x8), (9, .int x9)]) F.1 F.2.1 dX10_askOf_246 hl (by decide) rfl (fun ls hl => ?_)
        refine lv_iload F.1 F.2.1 dX10_askOf_248 (lv_at hl 5 rfl) ?_
        refine lv_if_eq (tgt := 258) F.1 F.2.1 dX10_askOf_250 (by decide) (fun c14 => ?_) (fun c14 => ?_)
        · replace h := it_e c14 h
          refine lv_iload F.1 F.2.1 dX10_askOf_258 (lv_at hl 2 rfl) ?_
          exact B260 σ0 _ _ _ y0 x7 x6 h hB (lv_sub hl [1, 0, 3] rfl)
        · replace h := ie_e c14 h
          refine lv_iload F.1 F.2.1 dX10_askOf_253 (lv_at hl 4 rfl) ?_
          refine lv_goto (tgt := 260) F.1 F.2.1 dX10_askOf_255 (by decide) ?_
          exact B260 σ0 _ _ _ y0 x7 x8 h hB (lv_sub hl [1, 0, 3] rfl)
      have B232 : ∀ (σ0 : Mem) (H : Heap) (locs : List Loc) (ls : Array Slot) (x5 : Int32) (x6 : Int32) (x7 : Int32) (x8 : Int32) (y0 : Int32), f_X10_askOf_b232 (f_X10_askOf_b148 n148) σ0 x5 x6 x7 x8 y0 = some o → Bd D cy ad σ0 s.heap H locs → lv_has ls 10 [(0, .ref (ad 64)), (5, .int x5), (6, .int x6), (7, .int x7), (8, .int x8)] → W p l e rm_X10_askOf s m ([.ref (ad 64), .int a1, .int a2] : List Value).toArray below meth c H locs 0 0 (MQ below (CQi D cy ad o.1 o.2) ([.ref (ad 64), .int a1, .int a2] : List Value).toArray s 0 0 (AA ad)) (F0 m 232 ls [.int y0]) := by
        intro σ0 H locs ls x5 x6 x7 x8 y0 h hB hl
        unfold f_X10_askOf_b232 at h
        refine lv_istore (lv' := [(9, .int y0), (0, .ref (ad 64)), (5, .int x5), (6, .int x6), (7, .int x7), (8, .int x8)]) F.1 F.2.1 dX10_askOf_232 hl (by decide) rfl (fun ls hl => ?_)
        refine lv_iload F.1 F.2.1 dX10_askOf_234 (lv_at hl 0 rfl) ?_
        refine lv_if_eq (tgt := 244) F.1 F.2.1 dX10_askOf_236 (by decide) (fun c13 => ?_) (fun c13 => ?_)
        · replace h := it_e c13 h
          refine lv_iload F.1 F.2.1 dX10_askOf_244 (lv_at hl 2 rfl) ?_
          exact B246 σ0 _ _ _ x6 x7 x8 y0 x5 h hB (lv_sub hl [1, 3, 4, 5, 0] rfl)
        · replace h := ie_e c13 h
          refine lv_iload F.1 F.2.1 dX10_askOf_239 (lv_at hl 4 rfl) ?_
          refine lv_goto (tgt := 246) F.1 F.2.1 dX10_askOf_241 (by decide) ?_
          exact B246 σ0 _ _ _ x6 x7 x8 y0 x7 h hB (lv_sub hl [1, 3, 4, 5, 0] rfl)
      have B227 : ∀ (σ0 : Mem) (H : Heap) (locs : List Loc) (ls : Array Slot) (x5 : Int32) (x6 : Int32) (x7 : Int32) (x8 : Int32), f_X10_askOf_b227 (f_X10_askOf_b148 n148) σ0 x5 x6 x7 x8 = some o → Bd D cy ad σ0 s.heap H locs → lv_has ls 10 [(0, .ref (ad 64)), (5, .int x5), (6, .int x6), (7, .int x7), (8, .int x8)] → W p l e rm_X10_askOf s m ([.ref (ad 64), .int a1, .int a2] : List Value).toArray below meth c H locs 0 0 (MQ below (CQi D cy ad o.1 o.2) ([.ref (ad 64), .int a1, .int a2] : List Value).toArray s 0 0 (AA ad)) (F0 m 227 ls []) := by
        intro σ0 H locs ls x5 x6 x7 x8 h hB hl
        unfold f_X10_askOf_b227 at h
        refine lv_iconst (v := 1) F.1 F.2.1 dX10_askOf_227 (by decide) ?_
        refine lv_goto (tgt := 232) F.1 F.2.1 dX10_askOf_228 (by decide) ?_
        exact B232 σ0 _ _ _ x5 x6 x7 x8 (1 : Int32) h hB (lv_sub hl [0, 1, 2, 3, 4] rfl)
      have B163 : ∀ (n163 : Nat) (σ0 : Mem) (H : Heap) (locs : List Loc) (ls : Array Slot) (x5 : Int32) (x6 : Int32) (x7 : Int32) (x8 : Int32) (x9 : Int32), f_X10_askOf_b163 (f_X10_askOf_b148 n148) n163 σ0 x5 x6 x7 x8 x9 = some o → Bd D cy ad σ0 s.heap H locs → lv_has ls 10 [(0, .ref (ad 64)), (5, .int x5), (6, .int x6), (7, .int x7), (8, .int x8), (9, .int x9)] → W p l e rm_X10_askOf s m ([.ref (ad 64), .int a1, .int a2] : List Value).toArray below meth c H locs 0 0 (MQ below (CQi D cy ad o.1 o.2) ([.ref (ad 64), .int a1, .int a2] : List Value).toArray s 0 0 (AA ad)) (F0 m 163 ls []) := by
        intro n163
        induction n163 with
        | zero => intro σ0 H locs ls x5 x6 x7 x8 x9 h hB hl; cases h
        | succ n163 ih163 =>
          have B206 : ∀ (σ0 : Mem) (H : Heap) (locs : List Loc) (ls : Array Slot) (x5 : Int32) (x6 : Int32) (x7 : Int32) (x9 : Int32) (y0 : Int32), f_X10_askOf_b206 (f_X10_askOf_b148 n148) (f_X10_askOf_b163 (f_X10_askOf_b148 n148) n163) σ0 x5 x6 x7 x9 y0 = some o → Bd D cy ad σ0 s.heap H locs → lv_has ls 10 [(0, .ref (ad 64)), (5, .int x5), (6, .int x6), (7, .int x7), (9, .int x9)] → W p l e rm_X10_askOf s m ([.ref (ad 64), .int a1, .int a2] : List Value).toArray below meth c H locs 0 0 (MQ below (CQi D cy ad o.1 o.2) ([.ref (ad 64), .int a1, .int a2] : List Value).toArray s 0 0 (AA ad)) (F0 m 206 ls [.int y0]) := by
            intro σ0 H locs ls x5 x6 x7 x9 y0 h hB hl
            unfold f_X10_askOf_b206 at h
            refine lv_istore (lv' := [(8, .int y0), (0, .ref (ad 64)), (5, .int x5), (6, .int x6), (7, .int x7), (9, .int x9)]) F.1 F.2.1 dX10_askOf_206 hl (by decide) rfl (fun ls hl => ?_)
            refine lv_iinc (v := (x9 + (1 : Int32))) (lv' := [(9, .int (x9 + (1 : Int32))), (8, .int y0), (0, .ref (ad 64)), (5, .int x5), (6, .int x6), (7, .int x7)]) F.1 F.2.1 dX10_askOf_208 hl (k := 5) rfl rfl (by decide) rfl (fun ls hl => ?_)
            refine lv_goto (tgt := 163) F.1 F.2.1 dX10_askOf_211 (by decide) ?_
            exact ih163 σ0 _ _ _ x5 x6 x7 y0 (x9 + (1 : Int32)) h hB (lv_sub hl [2, 3, 4, 5, 1, 0] rfl)
          intro σ0 H locs ls x5 x6 x7 x8 x9 h hB hl
          rw [f_X10_askOf_b163] at h
          refine lv_iload F.1 F.2.1 dX10_askOf_163 (lv_at hl 5 rfl) ?_
          refine lv_bipush (v := 10) F.1 F.2.1 dX10_askOf_165 (by decide) ?_
          refine lv_icmp_ge (tgt := 214) F.1 F.2.1 dX10_askOf_167 (by decide) (fun c11 => ?_) (fun c11 => ?_)
          · replace h := it_e c11 h
            refine lv_iload F.1 F.2.1 dX10_askOf_214 (lv_at hl 1 rfl) ?_
            refine lv_iconst (v := (-1)) F.1 F.2.1 dX10_askOf_216 (by decide) ?_
            refine lv_icmp_eq (tgt := 227) F.1 F.2.1 dX10_askOf_217 (by decide) (fun c12 => ?_) (fun c12 => ?_)
            · replace h := it_e c12 h
              exact B227 σ0 _ _ _ x5 x6 x7 x8 h hB (lv_sub hl [0, 1, 2, 3, 4] rfl)
            · replace h := ie_e c12 h
              refine lv_iload F.1 F.2.1 dX10_askOf_220 (lv_at hl 4 rfl) ?_
              refine lv_iload F.1 F.2.1 dX10_askOf_222 (lv_at hl 2 rfl) ?_
              refine lv_icmp_ge (tgt := 231) F.1 F.2.1 dX10_askOf_224 (by decide) (fun c15 => ?_) (fun c15 => ?_)
              · replace h := it_e c15 h
                refine lv_iconst (v := 0) F.1 F.2.1 dX10_askOf_231 (by decide) ?_
                exact B232 σ0 _ _ _ x5 x6 x7 x8 (0 : Int32) h hB (lv_sub hl [0, 1, 2, 3, 4] rfl)
              · replace h := ie_e c15 h
                exact B227 σ0 _ _ _ x5 x6 x7 x8 h hB (lv_sub hl [0, 1, 2, 3, 4] rfl)
          · replace h := ie_e c11 h
            refine lv_aload_n F.1 F.2.1 dX10_askOf_170 rfl (lv_at hl 0 rfl) ?_
            refine gf_RX10_52 F hE hB po_64 rfl dX10_askOf_171 ?_
            refine lv_bipush (v := 10) F.1 F.2.1 dX10_askOf_174 (by decide) ?_
            refine lv_iload F.1 F.2.1 dX10_askOf_176 (lv_at hl 3 rfl) ?_
            refine lv_imul F.1 F.2.1 dX10_askOf_178 ?_
            refine lv_iload F.1 F.2.1 dX10_askOf_179 (lv_at hl 5 rfl) ?_
            refine lv_iadd F.1 F.2.1 dX10_askOf_181 ?_
            obtain ⟨hi16, h⟩ := ck_e h
            refine q_iald F hE hB po_79 hi16 dX10_askOf_182 ?_
            refine lv_iload F.1 F.2.1 dX10_askOf_183 (lv_at hl 4 rfl) ?_
            refine lv_icmp_le (tgt := 204) F.1 F.2.1 dX10_askOf_185 (by decide) (fun c17 => ?_) (fun c17 => ?_)
            · replace h := it_e c17 h
              refine lv_iload F.1 F.2.1 dX10_askOf_204 (lv_at hl 4 rfl) ?_
              exact B206 σ0 _ _ _ x5 x6 x7 x9 x8 h hB (lv_sub hl [0, 1, 2, 3, 5] rfl)
            · replace h := ie_e c17 h
              refine lv_aload_n F.1 F.2.1 dX10_askOf_188 rfl (lv_at hl 0 rfl) ?_
              refine gf_RX10_52 F hE hB po_64 rfl dX10_askOf_189 ?_
              refine lv_bipush (v := 10) F.1 F.2.1 dX10_askOf_192 (by decide) ?_
              refine lv_iload F.1 F.2.1 dX10_askOf_194 (lv_at hl 3 rfl) ?_
              refine lv_imul F.1 F.2.1 dX10_askOf_196 ?_
              refine lv_iload F.1 F.2.1 dX10_askOf_197 (lv_at hl 5 rfl) ?_
              refine lv_iadd F.1 F.2.1 dX10_askOf_199 ?_
              obtain ⟨hi18, h⟩ := ck_e h
              refine q_iald F hE hB po_79 hi18 dX10_askOf_200 ?_
              refine lv_goto (tgt := 206) F.1 F.2.1 dX10_askOf_201 (by decide) ?_
              exact B206 σ0 _ _ _ x5 x6 x7 x9 (σ0.1 79 (((10 : Int32) * x7) + x9).toNatClampNeg) h hB (lv_sub hl [0, 1, 2, 3, 5] rfl)
      intro σ0 H locs ls x5 x6 x7 h hB hl
      rw [f_X10_askOf_b148] at h
      refine lv_iload F.1 F.2.1 dX10_askOf_148 (lv_at hl 3 rfl) ?_
      refine lv_aload_n F.1 F.2.1 dX10_askOf_150 rfl (lv_at hl 0 rfl) ?_
      refine gf_RX10_111 F hE hB po_64 rfl dX10_askOf_151 ?_
      refine lv_icmp_ge (tgt := 268) F.1 F.2.1 dX10_askOf_154 (by decide) (fun c10 => ?_) (fun c10 => ?_)
      · replace h := it_e c10 h
        refine lv_iload F.1 F.2.1 dX10_askOf_268 (lv_at hl 1 rfl) ?_
        exact q_iret F hlocks hr hB (so1 h) (so2 h) dX10_askOf_270
      · replace h := ie_e c10 h
        refine lv_iconst (v := 0) F.1 F.2.1 dX10_askOf_157 (by decide) ?_
        refine lv_istore (lv' := [(8, .int (0 : Int32)), (0, .ref (ad 64)), (5, .int x5), (6, .int x6), (7, .int x7)]) F.1 F.2.1 dX10_askOf_158 hl (by decide) rfl (fun ls hl => ?_)
        refine lv_iconst (v := 0) F.1 F.2.1 dX10_askOf_160 (by decide) ?_
        refine lv_istore (lv' := [(9, .int (0 : Int32)), (8, .int (0 : Int32)), (0, .ref (ad 64)), (5, .int x5), (6, .int x6), (7, .int x7)]) F.1 F.2.1 dX10_askOf_161 hl (by decide) rfl (fun ls hl => ?_)
        exact B163 300 σ0 _ _ _ x5 x6 x7 (0 : Int32) (0 : Int32) h hB (lv_sub hl [2, 3, 4, 5, 1, 0] rfl)
  have B46 : ∀ (n46 : Nat) (σ0 : Mem) (H : Heap) (locs : List Loc) (ls : Array Slot) (x1 : Int32) (x2 : Int32) (x3 : Int32) (x4 : Int32) (x5 : Int32), f_X10_askOf_b46 n46 σ0 x1 x2 x3 x4 x5 = some o → Bd D cy ad σ0 s.heap H locs → lv_has ls 10 [(0, .ref (ad 64)), (1, .int x1), (2, .int x2), (3, .int x3), (4, .int x4), (5, .int x5)] → W p l e rm_X10_askOf s m ([.ref (ad 64), .int a1, .int a2] : List Value).toArray below meth c H locs 0 0 (MQ below (CQi D cy ad o.1 o.2) ([.ref (ad 64), .int a1, .int a2] : List Value).toArray s 0 0 (AA ad)) (F0 m 46 ls []) := by
    intro n46
    induction n46 with
    | zero => intro σ0 H locs ls x1 x2 x3 x4 x5 h hB hl; cases h
    | succ n46 ih46 =>
      have B121 : ∀ (σ0 : Mem) (H : Heap) (locs : List Loc) (ls : Array Slot) (x1 : Int32) (x2 : Int32) (x3 : Int32) (x4 : Int32) (x5 : Int32), f_X10_askOf_b121 (f_X10_askOf_b46 n46) σ0 x1 x2 x3 x4 x5 = some o → Bd D cy ad σ0 s.heap H locs → lv_has ls 10 [(0, .ref (ad 64)), (1, .int x1), (2, .int x2), (3, .int x3), (4, .int x4), (5, .int x5)] → W p l e rm_X10_askOf s m ([.ref (ad 64), .int a1, .int a2] : List Value).toArray below meth c H locs 0 0 (MQ below (CQi D cy ad o.1 o.2) ([.ref (ad 64), .int a1, .int a2] : List Value).toArray s 0 0 (AA ad)) (F0 m 121 ls []) := by
        intro σ0 H locs ls x1 x2 x3 x4 x5 h hB hl
        unfold f_X10_askOf_b121 at h
        refine lv_iinc (v := (x5 + (1 : Int32))) (lv' := [(5, .int (x5 + (1 : Int32))), (0, .ref (ad 64)), (1, .int x1), (2, .int x2), (3, .int x3), (4, .int x4)]) F.1 F.2.1 dX10_askOf_121 hl (k := 5) rfl rfl (by decide) rfl (fun ls hl => ?_)
        refine lv_goto (tgt := 46) F.1 F.2.1 dX10_askOf_124 (by decide) ?_
        exact ih46 σ0 _ _ _ x1 x2 x3 x4 (x5 + (1 : Int32)) h hB (lv_sub hl [1, 2, 3, 4, 5, 0] rfl)
      have B82 : ∀ (n82 : Nat) (σ0 : Mem) (H : Heap) (locs : List Loc) (ls : Array Slot) (x1 : Int32) (x2 : Int32) (x3 : Int32) (x4 : Int32) (x5 : Int32) (x6 : Int32), f_X10_askOf_b82 (f_X10_askOf_b46 n46) n82 σ0 x1 x2 x3 x4 x5 x6 = some o → Bd D cy ad σ0 s.heap H locs → lv_has ls 10 [(0, .ref (ad 64)), (1, .int x1), (2, .int x2), (3, .int x3), (4, .int x4), (5, .int x5), (6, .int x6)] → W p l e rm_X10_askOf s m ([.ref (ad 64), .int a1, .int a2] : List Value).toArray below meth c H locs 0 0 (MQ below (CQi D cy ad o.1 o.2) ([.ref (ad 64), .int a1, .int a2] : List Value).toArray s 0 0 (AA ad)) (F0 m 82 ls []) := by
        intro n82
        induction n82 with
        | zero => intro σ0 H locs ls x1 x2 x3 x4 x5 x6 h hB hl; cases h
        | succ n82 ih82 =>
          intro σ0 H locs ls x1 x2 x3 x4 x5 x6 h hB hl
          rw [f_X10_askOf_b82] at h
          refine lv_iload F.1 F.2.1 dX10_askOf_82 (lv_at hl 6 rfl) ?_
          refine lv_aload_n F.1 F.2.1 dX10_askOf_84 rfl (lv_at hl 0 rfl) ?_
          refine gf_RX10_111 F hE hB po_64 rfl dX10_askOf_85 ?_
          refine lv_icmp_ge (tgt := 121) F.1 F.2.1 dX10_askOf_88 (by decide) (fun c27 => ?_) (fun c27 => ?_)
          · replace h := it_e c27 h
            exact B121 σ0 _ _ _ x1 x2 x3 x4 x5 h hB (lv_sub hl [0, 1, 2, 3, 4, 5] rfl)
          · replace h := ie_e c27 h
            refine lv_aload_n F.1 F.2.1 dX10_askOf_91 rfl (lv_at hl 0 rfl) ?_
            refine gf_RX10_52 F hE hB po_64 rfl dX10_askOf_92 ?_
            refine lv_bipush (v := 10) F.1 F.2.1 dX10_askOf_95 (by decide) ?_
            refine lv_iload F.1 F.2.1 dX10_askOf_97 (lv_at hl 6 rfl) ?_
            refine lv_imul F.1 F.2.1 dX10_askOf_99 ?_
            refine lv_aload_n F.1 F.2.1 dX10_askOf_100 rfl (lv_at hl 0 rfl) ?_
            refine gf_RX10_37 F hE hB po_64 rfl dX10_askOf_101 ?_
            refine lv_iload F.1 F.2.1 dX10_askOf_104 (lv_at hl 6 rfl) ?_
            obtain ⟨hi28, h⟩ := ck_e h
            refine q_iald F hE hB po_74 hi28 dX10_askOf_106 ?_
            refine lv_iadd F.1 F.2.1 dX10_askOf_107 ?_
            refine lv_iconst (v := 1) F.1 F.2.1 dX10_askOf_108 (by decide) ?_
            refine lv_iadd F.1 F.2.1 dX10_askOf_109 ?_
            refine lv_dup2_11 F.1 F.2.1 dX10_askOf_110 rfl rfl ?_
            obtain ⟨hi29, h⟩ := ck_e h
            refine q_iald F hE hB po_79 hi29 dX10_askOf_111 ?_
            refine lv_iconst (v := 1) F.1 F.2.1 dX10_askOf_112 (by decide) ?_
            refine lv_iadd F.1 F.2.1 dX10_askOf_113 ?_
            obtain ⟨hi30, h⟩ := ck_e h
            obtain ⟨σ31, e32, h⟩ := lt_e h
            refine q_iast F hE hI hB row_79 hi30 dX10_askOf_114 e32 (fun H locs hB => ?_)
            refine lv_iinc (v := (x6 + (1 : Int32))) (lv' := [(6, .int (x6 + (1 : Int32))), (0, .ref (ad 64)), (1, .int x1), (2, .int x2), (3, .int x3), (4, .int x4), (5, .int x5)]) F.1 F.2.1 dX10_askOf_115 hl (k := 6) rfl rfl (by decide) rfl (fun ls hl => ?_)
            refine lv_goto (tgt := 82) F.1 F.2.1 dX10_askOf_118 (by decide) ?_
            exact ih82 σ31 _ _ _ x1 x2 x3 x4 x5 (x6 + (1 : Int32)) h hB (lv_sub hl [1, 2, 3, 4, 5, 6, 0] rfl)
      intro σ0 H locs ls x1 x2 x3 x4 x5 h hB hl
      rw [f_X10_askOf_b46] at h
      refine lv_iload F.1 F.2.1 dX10_askOf_46 (lv_at hl 5 rfl) ?_
      refine lv_bipush (v := 6) F.1 F.2.1 dX10_askOf_48 (by decide) ?_
      refine lv_icmp_ge (tgt := 127) F.1 F.2.1 dX10_askOf_50 (by decide) (fun c6 => ?_) (fun c6 => ?_)
      · replace h := it_e c6 h
        refine lv_aload_n F.1 F.2.1 dX10_askOf_127 rfl (lv_at hl 0 rfl) ?_
        refine gf_RX10_28 F hE hB po_64 rfl dX10_askOf_128 ?_
        refine lv_iconst (v := 3) F.1 F.2.1 dX10_askOf_131 (by decide) ?_
        refine lv_iload_n F.1 F.2.1 dX10_askOf_132 rfl (lv_at hl 1 rfl) ?_
        refine lv_imul F.1 F.2.1 dX10_askOf_133 ?_
        refine lv_iconst (v := 1) F.1 F.2.1 dX10_askOf_134 (by decide) ?_
        refine lv_iadd F.1 F.2.1 dX10_askOf_135 ?_
        refine lv_iload F.1 F.2.1 dX10_askOf_136 (lv_at hl 4 rfl) ?_
        obtain ⟨hi7, h⟩ := ck_e h
        obtain ⟨σ8, e9, h⟩ := lt_e h
        refine q_iast F hE hI hB row_71 hi7 dX10_askOf_138 e9 (fun H locs hB => ?_)
        refine lv_iconst (v := (-1)) F.1 F.2.1 dX10_askOf_139 (by decide) ?_
        refine lv_istore (lv' := [(5, .int (-1 : Int32)), (0, .ref (ad 64)), (1, .int x1), (2, .int x2), (3, .int x3), (4, .int x4)]) F.1 F.2.1 dX10_askOf_140 hl (by decide) rfl (fun ls hl => ?_)
        refine lv_iconst (v := 0) F.1 F.2.1 dX10_askOf_142 (by decide) ?_
        refine lv_istore (lv' := [(6, .int (0 : Int32)), (5, .int (-1 : Int32)), (0, .ref (ad 64)), (1, .int x1), (2, .int x2), (3, .int x3), (4, .int x4)]) F.1 F.2.1 dX10_askOf_143 hl (by decide) rfl (fun ls hl => ?_)
        refine lv_iconst (v := 0) F.1 F.2.1 dX10_askOf_145 (by decide) ?_
        refine lv_istore (lv' := [(7, .int (0 : Int32)), (6, .int (0 : Int32)), (5, .int (-1 : Int32)), (0, .ref (ad 64)), (1, .int x1), (2, .int x2), (3, .int x3), (4, .int x4)]) F.1 F.2.1 dX10_askOf_146 hl (by decide) rfl (fun ls hl => ?_)
        exact B148 300 σ8 _ _ _ (-1 : Int32) (0 : Int32) (0 : Int32) h hB (lv_sub hl [3, 2, 1, 0] rfl)
      · replace h := ie_e c6 h
        refine lv_iload_n F.1 F.2.1 dX10_askOf_53 rfl (lv_at hl 3 rfl) ?_
        refine lv_iload F.1 F.2.1 dX10_askOf_54 (lv_at hl 5 rfl) ?_
        obtain ⟨v20, hc19, h⟩ := bp_e h
        refine q_ci hB (q_goS F hE hB (k_X10_isIn hI σ0 x3 x5 hc19) (ca_RX10_149 F.2.2.2.2 ⟨Nat.le_of_ble_eq_true rfl, Nat.le_of_ble_eq_true rfl⟩) rfl hl.1 rfl (Nat.le_of_ble_eq_true rfl) dX10_askOf_56 ⟨Nat.le_of_ble_eq_true rfl, Nat.le_of_ble_eq_true rfl⟩) (fun H locs hB => ?_)
        refine lv_if_eq (tgt := 121) F.1 F.2.1 dX10_askOf_59 (by decide) (fun c21 => ?_) (fun c21 => ?_)
        · replace h := it_e c21 h
          exact B121 σ0 _ _ _ x1 x2 x3 x4 x5 h hB (lv_sub hl [0, 1, 2, 3, 4, 5] rfl)
        · replace h := ie_e c21 h
          refine lv_aload_n F.1 F.2.1 dX10_askOf_62 rfl (lv_at hl 0 rfl) ?_
          refine gf_RX10_28 F hE hB po_64 rfl dX10_askOf_63 ?_
          refine lv_iconst (v := 3) F.1 F.2.1 dX10_askOf_66 (by decide) ?_
          refine lv_iload_n F.1 F.2.1 dX10_askOf_67 rfl (lv_at hl 1 rfl) ?_
          refine lv_imul F.1 F.2.1 dX10_askOf_68 ?_
          refine lv_iconst (v := 1) F.1 F.2.1 dX10_askOf_69 (by decide) ?_
          refine lv_iadd F.1 F.2.1 dX10_askOf_70 ?_
          refine lv_iload F.1 F.2.1 dX10_askOf_71 (lv_at hl 5 rfl) ?_
          obtain ⟨hi22, h⟩ := ck_e h
          obtain ⟨σ23, e24, h⟩ := lt_e h
          refine q_iast F hE hI hB row_71 hi22 dX10_askOf_73 e24 (fun H locs hB => ?_)
          refine lv_aload_n F.1 F.2.1 dX10_askOf_74 rfl (lv_at hl 0 rfl) ?_
          refine lv_iload_n F.1 F.2.1 dX10_askOf_75 rfl (lv_at hl 2 rfl) ?_
          obtain ⟨σ26, hc25, h⟩ := bv_e h
          refine q_cv hB (q_goV F hE hB (k_X10_lives hI σ23 x2 hc25) (ca_RX10_185 F.2.2.2.2 ⟨Nat.le_of_ble_eq_true rfl, Nat.le_of_ble_eq_true rfl⟩) rfl po_64 rfl hl.1 rfl (Nat.le_of_ble_eq_true rfl) dX10_askOf_76 ⟨Nat.le_of_ble_eq_true rfl, Nat.le_of_ble_eq_true rfl⟩) (fun H locs hB => ?_)
          refine lv_iconst (v := 0) F.1 F.2.1 dX10_askOf_79 (by decide) ?_
          refine lv_istore (lv' := [(6, .int (0 : Int32)), (0, .ref (ad 64)), (1, .int x1), (2, .int x2), (3, .int x3), (4, .int x4), (5, .int x5)]) F.1 F.2.1 dX10_askOf_80 hl (by decide) rfl (fun ls hl => ?_)
          exact B82 300 σ26 _ _ _ x1 x2 x3 x4 x5 (0 : Int32) h hB (lv_sub hl [1, 2, 3, 4, 5, 6, 0] rfl)
  have B22 : ∀ (n22 : Nat) (σ0 : Mem) (H : Heap) (locs : List Loc) (ls : Array Slot) (x1 : Int32) (x2 : Int32) (x3 : Int32) (x4 : Int32) (x5 : Int32), f_X10_askOf_b22 n22 σ0 x1 x2 x3 x4 x5 = some o → Bd D cy ad σ0 s.heap H locs → lv_has ls 10 [(0, .ref (ad 64)), (1, .int x1), (2, .int x2), (3, .int x3), (4, .int x4), (5, .int x5)] → W p l e rm_X10_askOf s m ([.ref (ad 64), .int a1, .int a2] : List Value).toArray below meth c H locs 0 0 (MQ below (CQi D cy ad o.1 o.2) ([.ref (ad 64), .int a1, .int a2] : List Value).toArray s 0 0 (AA ad)) (F0 m 22 ls []) := by
    intro n22
    induction n22 with
    | zero => intro σ0 H locs ls x1 x2 x3 x4 x5 h hB hl; cases h
    | succ n22 ih22 =>
      intro σ0 H locs ls x1 x2 x3 x4 x5 h hB hl
      rw [f_X10_askOf_b22] at h
      refine lv_iload F.1 F.2.1 dX10_askOf_22 (lv_at hl 5 rfl) ?_
      refine lv_bipush (v := 80) F.1 F.2.1 dX10_askOf_24 (by decide) ?_
      refine lv_icmp_ge (tgt := 43) F.1 F.2.1 dX10_askOf_26 (by decide) (fun c5 => ?_) (fun c5 => ?_)
      · replace h := it_e c5 h
        refine lv_iconst (v := 0) F.1 F.2.1 dX10_askOf_43 (by decide) ?_
        refine lv_istore (lv' := [(5, .int (0 : Int32)), (0, .ref (ad 64)), (1, .int x1), (2, .int x2), (3, .int x3), (4, .int x4)]) F.1 F.2.1 dX10_askOf_44 hl (by decide) rfl (fun ls hl => ?_)
        exact B46 300 σ0 _ _ _ x1 x2 x3 x4 (0 : Int32) h hB (lv_sub hl [1, 2, 3, 4, 5, 0] rfl)
      · replace h := ie_e c5 h
        refine lv_aload_n F.1 F.2.1 dX10_askOf_29 rfl (lv_at hl 0 rfl) ?_
        refine gf_RX10_52 F hE hB po_64 rfl dX10_askOf_30 ?_
        refine lv_iload F.1 F.2.1 dX10_askOf_33 (lv_at hl 5 rfl) ?_
        refine lv_iconst (v := 0) F.1 F.2.1 dX10_askOf_35 (by decide) ?_
        obtain ⟨hi33, h⟩ := ck_e h
        obtain ⟨σ34, e35, h⟩ := lt_e h
        refine q_iast F hE hI hB row_79 hi33 dX10_askOf_36 e35 (fun H locs hB => ?_)
        refine lv_iinc (v := (x5 + (1 : Int32))) (lv' := [(5, .int (x5 + (1 : Int32))), (0, .ref (ad 64)), (1, .int x1), (2, .int x2), (3, .int x3), (4, .int x4)]) F.1 F.2.1 dX10_askOf_37 hl (k := 5) rfl rfl (by decide) rfl (fun ls hl => ?_)
        refine lv_goto (tgt := 22) F.1 F.2.1 dX10_askOf_40 (by decide) ?_
        exact ih22 σ34 _ _ _ x1 x2 x3 x4 (x5 + (1 : Int32)) h hB (lv_sub hl [1, 2, 3, 4, 5, 0] rfl)
  unfold f_X10_askOf at h
  refine lv_aload_n F.1 F.2.1 dX10_askOf_0 rfl (lv_at hl 0 rfl) ?_
  refine lv_iload_n F.1 F.2.1 dX10_askOf_1 rfl (lv_at hl 1 rfl) ?_
  refine lv_iconst (v := 0) F.1 F.2.1 dX10_askOf_2 (by decide) ?_
  obtain ⟨v3, σ2, hc1, h⟩ := bi_e h
  refine q_ci hB (q_goV F hE hB (k_X10_likedOf hI σ0 a1 (0 : Int32) hc1) (ca_RX10_238 F.2.2.2.2 ⟨Nat.le_of_ble_eq_true rfl, Nat.le_of_ble_eq_true rfl⟩) rfl po_64 rfl hl.1 rfl (Nat.le_of_ble_eq_true rfl) dX10_askOf_3 ⟨Nat.le_of_ble_eq_true rfl, Nat.le_of_ble_eq_true rfl⟩) (fun H locs hB => ?_)
  refine lv_istore_n (lv' := [(3, .int v3), (0, .ref (ad 64)), (1, .int a1), (2, .int a2)]) F.1 F.2.1 dX10_askOf_6 rfl hl (by decide) rfl (fun ls hl => ?_)
  refine lv_aload_n F.1 F.2.1 dX10_askOf_7 rfl (lv_at hl 1 rfl) ?_
  refine gf_RX10_28 F hE hB po_64 rfl dX10_askOf_8 ?_
  refine lv_iconst (v := 3) F.1 F.2.1 dX10_askOf_11 (by decide) ?_
  refine lv_iload_n F.1 F.2.1 dX10_askOf_12 rfl (lv_at hl 2 rfl) ?_
  refine lv_imul F.1 F.2.1 dX10_askOf_13 ?_
  refine lv_iconst (v := 1) F.1 F.2.1 dX10_askOf_14 (by decide) ?_
  refine lv_iadd F.1 F.2.1 dX10_askOf_15 ?_
  obtain ⟨hi4, h⟩ := ck_e h
  refine q_iald F hE hB po_71 hi4 dX10_askOf_16 ?_
  refine lv_istore (lv' := [(4, .int (σ2.1 71 (((3 : Int32) * a1) + (1 : Int32)).toNatClampNeg)), (3, .int v3), (0, .ref (ad 64)), (1, .int a1), (2, .int a2)]) F.1 F.2.1 dX10_askOf_17 hl (by decide) rfl (fun ls hl => ?_)
  refine lv_iconst (v := 0) F.1 F.2.1 dX10_askOf_19 (by decide) ?_
  refine lv_istore (lv' := [(5, .int (0 : Int32)), (4, .int (σ2.1 71 (((3 : Int32) * a1) + (1 : Int32)).toNatClampNeg)), (3, .int v3), (0, .ref (ad 64)), (1, .int a1), (2, .int a2)]) F.1 F.2.1 dX10_askOf_20 hl (by decide) rfl (fun ls hl => ?_)
  exact B22 300 σ2 _ _ _ a1 a2 v3 (σ2.1 71 (((3 : Int32) * a1) + (1 : Int32)).toNatClampNeg) (0 : Int32) h hB (lv_sub hl [3, 4, 5, 2, 1, 0] rfl)
def f_X10_ask (σ0 : Mem) (a1 : Int32) (a2 : Int32) : Option (Int32 × Mem) := (bv (f_X10_find σ0) (fun σ2 => (bp (f_X10_isBridge σ2 a1) (fun v4 => (if v4 = (0 : Int32) then (some ((-2 : Int32), σ2)) else (bp (f_X10_isStep σ2 a2) (fun v7 => (if v7 = (0 : Int32) then (some ((-2 : Int32), σ2)) else (bi (f_X10_askOf σ2 a1 a2) (fun v11 σ10 => (some (v11, σ10))))))))))))
set_option maxHeartbeats 4000000 in
set_option maxRecDepth 100000 in
theorem k_X10_ask {l : Launch} {D : va_G} {cy : Nat → ClassId} {ad : Nat → Nat} {ta tb : Nat} (hI : AdI ad) (σ0 : Mem) (a1 : Int32) (a2 : Int32) {o : Int32 × Mem} (h : f_X10_ask σ0 a1 a2 = some o) : Met l yX10_ask (Cond.code yX10_ask cX10_ask 3 (some .int) :: wG) rm_X10_ask (CP D cy ad ta tb σ0 [.ref (ad 64), .int a1, .int a2]) (CQi D cy ad o.1 o.2) 0 0 (AA ad) := by
  refine Met.ofW (cc := cX10_ask) (maxL := 3) (ret := (some .int)) (by decide) rfl ?_
  intro p e s m args below meth c s₁ B hml hv
  obtain ⟨rfl, hE, hP⟩ := hv
  have hts := atoms_spec (ws := Cond.code yX10_ask cX10_ask 3 (some .int) :: wG) B.pre
  have F : CallFix p m c cX10_ask 3 s _ wG RX10 := ⟨B.exec, B.bytes, hml, findClass_of_methodNamed B.named, fun w hw => hts w (List.mem_cons_of_mem _ hw)⟩
  have hr := B.returns
  have hlocks := B.notSynchronized
  have hB : Bd D cy ad σ0 s.heap s.heap [] := ⟨hP, va_S.rf⟩
  have hl := lv_entry ([.ref (ad 64), .int a1, .int a2] : List Value) (n := 3) (Nat.le_of_ble_eq_true rfl)
  rw [lg_entry_eq]
  generalize (lg_sl ([.ref (ad 64), .int a1, .int a2] : List Value) ++ List.replicate (3 - (lg_sl ([.ref (ad 64), .int a1, .int a2] : List Value)).length) Slot.unset).toArray = ls at hl ⊢
  have hl : lv_has ls 3 [(0, .ref (ad 64)), (1, .int a1), (2, .int a2)] := hl
  unfold f_X10_ask at h
  refine lv_aload_n F.1 F.2.1 dX10_ask_0 rfl (lv_at hl 0 rfl) ?_
  obtain ⟨σ2, hc1, h⟩ := bv_e h
  refine q_cv hB (q_goV F hE hB (k_X10_find hI σ0 hc1) (ca_RX10_129 F.2.2.2.2 ⟨Nat.le_of_ble_eq_true rfl, Nat.le_of_ble_eq_true rfl⟩) rfl po_64 rfl hl.1 rfl (Nat.le_of_ble_eq_true rfl) dX10_ask_1 ⟨Nat.le_of_ble_eq_true rfl, Nat.le_of_ble_eq_true rfl⟩) (fun H locs hB => ?_)
  refine lv_aload_n F.1 F.2.1 dX10_ask_4 rfl (lv_at hl 0 rfl) ?_
  refine lv_iload_n F.1 F.2.1 dX10_ask_5 rfl (lv_at hl 1 rfl) ?_
  obtain ⟨v4, hc3, h⟩ := bp_e h
  refine q_ci hB (q_goV F hE hB (k_X10_isBridge hI σ2 a1 hc3) (ca_RX10_132 F.2.2.2.2 ⟨Nat.le_of_ble_eq_true rfl, Nat.le_of_ble_eq_true rfl⟩) rfl po_64 rfl hl.1 rfl (Nat.le_of_ble_eq_true rfl) dX10_ask_6 ⟨Nat.le_of_ble_eq_true rfl, Nat.le_of_ble_eq_true rfl⟩) (fun H locs hB => ?_)
  refine lv_if_eq (tgt := 28) F.1 F.2.1 dX10_ask_9 (by decide) (fun c5 => ?_) (fun c5 => ?_)
  · replace h := it_e c5 h
    refine lv_bipush (v := (-2)) F.1 F.2.1 dX10_ask_28 (by decide) ?_
    exact q_iret F hlocks hr hB (so1 h) (so2 h) dX10_ask_30
  · replace h := ie_e c5 h
    refine lv_iload_n F.1 F.2.1 dX10_ask_12 rfl (lv_at hl 2 rfl) ?_
    obtain ⟨v7, hc6, h⟩ := bp_e h
    refine q_ci hB (q_goS F hE hB (k_X10_isStep hI σ2 a2 hc6) (ca_RX10_188 F.2.2.2.2 ⟨Nat.le_of_ble_eq_true rfl, Nat.le_of_ble_eq_true rfl⟩) rfl hl.1 rfl (Nat.le_of_ble_eq_true rfl) dX10_ask_13 ⟨Nat.le_of_ble_eq_true rfl, Nat.le_of_ble_eq_true rfl⟩) (fun H locs hB => ?_)
    refine lv_if_eq (tgt := 28) F.1 F.2.1 dX10_ask_16 (by decide) (fun c8 => ?_) (fun c8 => ?_)
    · replace h := it_e c8 h
      refine lv_bipush (v := (-2)) F.1 F.2.1 dX10_ask_28 (by decide) ?_
      exact q_iret F hlocks hr hB (so1 h) (so2 h) dX10_ask_30
    · replace h := ie_e c8 h
      refine lv_aload_n F.1 F.2.1 dX10_ask_19 rfl (lv_at hl 0 rfl) ?_
      refine lv_iload_n F.1 F.2.1 dX10_ask_20 rfl (lv_at hl 1 rfl) ?_
      refine lv_iload_n F.1 F.2.1 dX10_ask_21 rfl (lv_at hl 2 rfl) ?_
      obtain ⟨v11, σ10, hc9, h⟩ := bi_e h
      refine q_ci hB (q_goV F hE hB (k_X10_askOf hI σ2 a1 a2 hc9) (ca_RX10_244 F.2.2.2.2 ⟨Nat.le_of_ble_eq_true rfl, Nat.le_of_ble_eq_true rfl⟩) rfl po_64 rfl hl.1 rfl (Nat.le_of_ble_eq_true rfl) dX10_ask_22 ⟨Nat.le_of_ble_eq_true rfl, Nat.le_of_ble_eq_true rfl⟩) (fun H locs hB => ?_)
      refine lv_goto (tgt := 30) F.1 F.2.1 dX10_ask_25 (by decide) ?_
      exact q_iret F hlocks hr hB (so1 h) (so2 h) dX10_ask_30
