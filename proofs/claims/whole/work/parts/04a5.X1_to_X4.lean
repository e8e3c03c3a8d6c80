def f_X1_parseMarks_b7 : Nat → Mem → Nat → Int32 → Nat → Int32 → Option (Int32 × Mem)
  | 0, _, _, _, _, _ => none
  | n7 + 1, σ0, r0, x1, r2, x3 => (if (6 : Int32) ≤ x3 then (some ((6 : Int32), σ0)) else (bp (f_X7_from σ0 r0 (x1 + x3) (97 : Int32)) (fun v5 => (bp (f_X9_isWithin σ0 v5 (6 : Int32)) (fun v7 => (if v7 = (0 : Int32) then (some (x3, σ0)) else (ck v5 6 (ck v5 6 (lt (ms σ0 r2 v5.toNatClampNeg ((σ0.1 r2 v5.toNatClampNeg) + (1 : Int32))) (fun σ11 => (f_X1_parseMarks_b7 n7 σ11 r0 x1 r2 (x3 + (1 : Int32)))))))))))))
def f_X1_parseMarks (σ0 : Mem) (q0 : Nat) (a1 : Int32) (q2 : Nat) : Option (Int32 × Mem) := (bv (f_J7_fill_53178 σ0 q2 6 (0 : Int32)) (fun σ2 => (f_X1_parseMarks_b7 300 σ2 q0 a1 q2 (0 : Int32))))
set_option maxHeartbeats 4000000 in
set_option maxRecDepth 100000 in
theorem k_X1_parseMarks {l : Launch} {D : va_G} {cy : Nat → ClassId} {ad : Nat → Nat} {ta tb : Nat} (hI : AdI ad) (σ0 : Mem) (q0 : Nat) (hq0 : isText q0) (a1 : Int32) (q2 : Nat) (hq2 : isRow q2 6) {o : Int32 × Mem} (h : f_X1_parseMarks σ0 q0 a1 q2 = some o) : Met l yX1_parseMarks (Cond.code yX1_parseMarks cX1_parseMarks 5 (some .int) :: wG) rm_X1_parseMarks (CP D cy ad ta tb σ0 [.ref (ad q0), .int a1, .ref (ad q2)]) (CQi D cy ad o.1 o.2) 0 0 (AA ad) := by
  refine Met.ofW (cc := cX1_parseMarks) (maxL := 5) (ret := (some .int)) (by decide) rfl ?_
  intro p e s m args below meth c s₁ B hml hv
  obtain ⟨rfl, hE, hP⟩ := hv
  have hts := atoms_spec (ws := Cond.code yX1_parseMarks cX1_parseMarks 5 (some .int) :: wG) B.pre
  have F : CallFix p m c cX1_parseMarks 5 s _ wG RX1 := ⟨B.exec, B.bytes, hml, findClass_of_methodNamed B.named, fun w hw => hts w (List.mem_cons_of_mem _ hw)⟩
  have hr := B.returns
  have hlocks := B.notSynchronized
  have hB : Bd D cy ad σ0 s.heap s.heap [] := ⟨hP, va_S.rf⟩
  have hl := lv_entry ([.ref (ad q0), .int a1, .ref (ad q2)] : List Value) (n := 5) (Nat.le_of_ble_eq_true rfl)
  rw [lg_entry_eq]
  generalize (lg_sl ([.ref (ad q0), .int a1, .ref (ad q2)] : List Value) ++ List.replicate (5 - (lg_sl ([.ref (ad q0), .int a1, .ref (ad q2)] : List Value)).length) Slot.unset).toArray = ls at hl ⊢
  have hl : lv_has ls 5 [(0, .ref (ad q0)), (1, .int a1), (2, .ref (ad q2))] := hl
  have B7 : ∀ (n7 : Nat) (σ0 : Mem) (H : Heap) (locs : List Loc) (ls : Array Slot) (r0 : Nat) (x1 : Int32) (r2 : Nat) (x3 : Int32) (hr0 : isText r0) (hr2 : isRow r2 6), f_X1_parseMarks_b7 n7 σ0 r0 x1 r2 x3 = some o → Bd D cy ad σ0 s.heap H locs → lv_has ls 5 [(0, .ref (ad r0)), (1, .int x1), (2, .ref (ad r2)), (3, .int x3)] → W p l e rm_X1_parseMarks s m ([.ref (ad q0), .int a1, .ref (ad q2)] : List Value).toArray below meth c H locs 0 0 (MQ below (CQi D cy ad o.1 o.2) ([.ref (ad q0), .int a1, .ref (ad q2)] : List Value).toArray s 0 0 (AA ad)) (F0 m 7 ls []) := by
    intro n7
    induction n7 with
    | zero => intro σ0 H locs ls r0 x1 r2 x3 hr0 hr2 h hB hl; cases h
    | succ n7 ih7 =>
      intro σ0 H locs ls r0 x1 r2 x3 hr0 hr2 h hB hl
      rw [f_X1_parseMarks_b7] at h
      refine lv_iload_n F.1 F.2.1 dX1_parseMarks_7 rfl (lv_at hl 3 rfl) ?_
      refine lv_bipush (v := 6) F.1 F.2.1 dX1_parseMarks_8 (by decide) ?_
      refine lv_icmp_ge (tgt := 50) F.1 F.2.1 dX1_parseMarks_10 (by decide) (fun c3 => ?_) (fun c3 => ?_)
      · replace h := it_e c3 h
        refine lv_bipush (v := 6) F.1 F.2.1 dX1_parseMarks_50 (by decide) ?_
        exact q_iret F hlocks hr hB (so1 h) (so2 h) dX1_parseMarks_52
      · replace h := ie_e c3 h
        refine lv_aload_n F.1 F.2.1 dX1_parseMarks_13 rfl (lv_at hl 0 rfl) ?_
        refine lv_iload_n F.1 F.2.1 dX1_parseMarks_14 rfl (lv_at hl 1 rfl) ?_
        refine lv_iload_n F.1 F.2.1 dX1_parseMarks_15 rfl (lv_at hl 3 rfl) ?_
        refine lv_iadd F.1 F.2.1 dX1_parseMarks_16 ?_
        refine lv_bipush (v := 97) F.1 F.2.1 dX1_parseMarks_17 (by decide) ?_
        obtain ⟨v5, hc4, h⟩ := bp_e h
        refine q_ci hB (q_goV F hE hB (k_X7_from hI σ0 r0 hr0 (x1 + x3) (97 : Int32) hc4) (ca_RX1_38 F.2.2.2.2 ⟨Nat.le_of_ble_eq_true rfl, Nat.le_of_ble_eq_true rfl⟩) rfl (po_Text hr0) rfl hl.1 rfl (Nat.le_of_ble_eq_true rfl) dX1_parseMarks_19 ⟨Nat.le_of_ble_eq_true rfl, Nat.le_of_ble_eq_true rfl⟩) (fun H locs hB => ?_)
        refine lv_istore (lv' := [(4, .int v5), (0, .ref (ad r0)), (1, .int x1), (2, .ref (ad r2)), (3, .int x3)]) F.1 F.2.1 dX1_parseMarks_22 hl (by decide) rfl (fun ls hl => ?_)
        refine lv_iload F.1 F.2.1 dX1_parseMarks_24 (lv_at hl 0 rfl) ?_
        refine lv_bipush (v := 6) F.1 F.2.1 dX1_parseMarks_26 (by decide) ?_
        obtain ⟨v7, hc6, h⟩ := bp_e h
        refine q_ci hB (q_goSN F hE hB (k_X9_isWithin hI σ0 v5 (6 : Int32) hc6) (ca_RX1_42 F.2.2.2.2 (hE.2.2.1 _ (List.mem_of_getElem? (i := 8) rfl)) ⟨Nat.le_of_ble_eq_true rfl, Nat.le_of_ble_eq_true rfl⟩) rfl hl.1 rfl (Nat.le_of_ble_eq_true rfl) dX1_parseMarks_28 ⟨Nat.le_of_ble_eq_true rfl, Nat.le_of_ble_eq_true rfl⟩) (fun H locs hB => ?_)
        refine lv_if_ne (tgt := 36) F.1 F.2.1 dX1_parseMarks_31 (by decide) (fun c8 => ?_) (fun c8 => ?_)
        · replace h := ie_e c8 h
          refine lv_aload_n F.1 F.2.1 dX1_parseMarks_36 rfl (lv_at hl 3 rfl) ?_
          refine lv_iload F.1 F.2.1 dX1_parseMarks_37 (lv_at hl 0 rfl) ?_
          refine lv_dup2_11 F.1 F.2.1 dX1_parseMarks_39 rfl rfl ?_
          obtain ⟨hi9, h⟩ := ck_e h
          refine q_iald F hE hB (po_row hr2) hi9 dX1_parseMarks_40 ?_
          refine lv_iconst (v := 1) F.1 F.2.1 dX1_parseMarks_41 (by decide) ?_
          refine lv_iadd F.1 F.2.1 dX1_parseMarks_42 ?_
          obtain ⟨hi10, h⟩ := ck_e h
          obtain ⟨σ11, e12, h⟩ := lt_e h
          refine q_iast F hE hI hB hr2 hi10 dX1_parseMarks_43 e12 (fun H locs hB => ?_)
          refine lv_iinc (v := (x3 + (1 : Int32))) (lv' := [(3, .int (x3 + (1 : Int32))), (4, .int v5), (0, .ref (ad r0)), (1, .int x1), (2, .ref (ad r2))]) F.1 F.2.1 dX1_parseMarks_44 hl (k := 4) rfl rfl (by decide) rfl (fun ls hl => ?_)
          refine lv_goto (tgt := 7) F.1 F.2.1 dX1_parseMarks_47 (by decide) ?_
          exact ih7 σ11 _ _ _ r0 x1 r2 (x3 + (1 : Int32)) hr0 hr2 h hB (lv_sub hl [2, 3, 4, 0] rfl)
        · replace h := it_e c8 h
          refine lv_iload_n F.1 F.2.1 dX1_parseMarks_34 rfl (lv_at hl 4 rfl) ?_
          exact q_iret F hlocks hr hB (so1 h) (so2 h) dX1_parseMarks_35
  unfold f_X1_parseMarks at h
  refine lv_aload_n F.1 F.2.1 dX1_parseMarks_0 rfl (lv_at hl 2 rfl) ?_
  refine lv_iconst (v := 0) F.1 F.2.1 dX1_parseMarks_1 (by decide) ?_
  obtain ⟨σ2, hc1, h⟩ := bv_e h
  refine q_cv hB (q_goS F hE hB (k_J7_fill_53178 hI σ0 q2 6 hq2 (0 : Int32) hc1) (ca_RX1_46 F.2.2.2.2 ⟨Nat.le_of_ble_eq_true rfl, Nat.le_of_ble_eq_true rfl⟩) rfl hl.1 rfl (Nat.le_of_ble_eq_true rfl) dX1_parseMarks_2 ⟨Nat.le_of_ble_eq_true rfl, Nat.le_of_ble_eq_true rfl⟩) (fun H locs hB => ?_)
  refine lv_iconst (v := 0) F.1 F.2.1 dX1_parseMarks_5 (by decide) ?_
  refine lv_istore_n (lv' := [(3, .int (0 : Int32)), (0, .ref (ad q0)), (1, .int a1), (2, .ref (ad q2))]) F.1 F.2.1 dX1_parseMarks_6 rfl hl (by decide) rfl (fun ls hl => ?_)
  exact B7 300 σ2 _ _ _ q0 a1 q2 (0 : Int32) hq0 hq2 h hB (lv_sub hl [1, 2, 3, 0] rfl)
def f_X1_parseAll_b4 : Nat → Mem → Nat → Int32 → Int32 → Option (Int32 × Mem)
  | 0, _, _, _, _ => none
  | n4 + 1, σ0, r1, x2, x3 => (if (8 : Int32) ≤ x3 then (some (x2, σ0)) else (ck x3 8 (bi (f_X1_parseMarks σ0 r1 x2 (13 + x3.toNatClampNeg)) (fun v5 σ4 => (bp (f_X7_from σ4 r1 (x2 + v5) (48 : Int32)) (fun v7 => (ck x3 8 (lt (ms σ4 12 x3.toNatClampNeg v7) (fun σ9 => (ck x3 8 (bp (f_X9_isWithin σ9 (σ9.1 12 x3.toNatClampNeg) (10 : Int32)) (fun v13 => (if v13 = (0 : Int32) then (some ((x2 + v5), σ9)) else (lt (ms σ9 10 2 (x3 + (1 : Int32))) (fun σ15 => (if ((x2 + v5) + (1 : Int32)) = (σ15.1 r1 1) then (some ((-1 : Int32), σ15)) else (bp (f_X7_from σ15 r1 ((x2 + v5) + (1 : Int32)) (59 : Int32)) (fun v19 => (if v19 = (0 : Int32) then (f_X1_parseAll_b4 n4 σ15 r1 (((x2 + v5) + (1 : Int32)) + (1 : Int32)) (x3 + (1 : Int32))) else (some (((x2 + v5) + (1 : Int32)), σ15)))))))))))))))))))))
def f_X1_parseAll (σ0 : Mem) (q1 : Nat) : Option (Int32 × Mem) := (f_X1_parseAll_b4 300 σ0 q1 (0 : Int32) (0 : Int32))
set_option maxHeartbeats 4000000 in
set_option maxRecDepth 100000 in
theorem k_X1_parseAll {l : Launch} {D : va_G} {cy : Nat → ClassId} {ad : Nat → Nat} {ta tb : Nat} (hI : AdI ad) (σ0 : Mem) (q1 : Nat) (hq1 : isText q1) {o : Int32 × Mem} (h : f_X1_parseAll σ0 q1 = some o) : Met l yX1_parseAll (Cond.code yX1_parseAll cX1_parseAll 4 (some .int) :: wG) rm_X1_parseAll (CP D cy ad ta tb σ0 [.ref (ad 10), .ref (ad q1)]) (CQi D cy ad o.1 o.2) 0 0 (AA ad) := by
  refine Met.ofW (cc := cX1_parseAll) (maxL := 4) (ret := (some .int)) (by decide) rfl ?_
  intro p e s m args below meth c s₁ B hml hv
  obtain ⟨rfl, hE, hP⟩ := hv
  have hts := atoms_spec (ws := Cond.code yX1_parseAll cX1_parseAll 4 (some .int) :: wG) B.pre
  have F : CallFix p m c cX1_parseAll 4 s _ wG RX1 := ⟨B.exec, B.bytes, hml, findClass_of_methodNamed B.named, fun w hw => hts w (List.mem_cons_of_mem _ hw)⟩
  have hr := B.returns
  have hlocks := B.notSynchronized
  have hB : Bd D cy ad σ0 s.heap s.heap [] := ⟨hP, va_S.rf⟩
  have hl := lv_entry ([.ref (ad 10), .ref (ad q1)] : List Value) (n := 4) (Nat.le_of_ble_eq_true rfl)
  rw [lg_entry_eq]
  generalize (lg_sl ([.ref (ad 10), .ref (ad q1)] : List Value) ++ List.replicate (4 - (lg_sl ([.ref (ad 10), .ref (ad q1)] : List Value)).length) Slot.unset).toArray = ls at hl ⊢
  have hl : lv_has ls 4 [(0, .ref (ad 10)), (1, .ref (ad q1))] := hl
  have B4 : ∀ (n4 : Nat) (σ0 : Mem) (H : Heap) (locs : List Loc) (ls : Array Slot) (r1 : Nat) (x2 : Int32) (x3 : Int32) (hr1 : isText r1), f_X1_parseAll_b4 n4 σ0 r1 x2 x3 = some o → Bd D cy ad σ0 s.heap H locs → lv_has ls 4 [(0, .ref (ad 10)), (1, .ref (ad r1)), (2, .int x2), (3, .int x3)] → W p l e rm_X1_parseAll s m ([.ref (ad 10), .ref (ad q1)] : List Value).toArray below meth c H locs 0 0 (MQ below (CQi D cy ad o.1 o.2) ([.ref (ad 10), .ref (ad q1)] : List Value).toArray s 0 0 (AA ad)) (F0 m 4 ls []) := by
    intro n4
    induction n4 with
    | zero => intro σ0 H locs ls r1 x2 x3 hr1 h hB hl; cases h
    | succ n4 ih4 =>
      intro σ0 H locs ls r1 x2 x3 hr1 h hB hl
      rw [f_X1_parseAll_b4] at h
      refine lv_iload_n F.1 F.2.1 dX1_parseAll_4 rfl (lv_at hl 3 rfl) ?_
      refine lv_bipush (v := 8) F.1 F.2.1 dX1_parseAll_5 (by decide) ?_
      refine lv_icmp_ge (tgt := 94) F.1 F.2.1 dX1_parseAll_7 (by decide) (fun c1 => ?_) (fun c1 => ?_)
      · replace h := it_e c1 h
        refine lv_iload_n F.1 F.2.1 dX1_parseAll_94 rfl (lv_at hl 2 rfl) ?_
        exact q_iret F hlocks hr hB (so1 h) (so2 h) dX1_parseAll_95
      · replace h := ie_e c1 h
        refine lv_iload_n F.1 F.2.1 dX1_parseAll_10 rfl (lv_at hl 2 rfl) ?_
        refine lv_aload_n F.1 F.2.1 dX1_parseAll_11 rfl (lv_at hl 1 rfl) ?_
        refine lv_iload_n F.1 F.2.1 dX1_parseAll_12 rfl (lv_at hl 2 rfl) ?_
        refine lv_aload_n F.1 F.2.1 dX1_parseAll_13 rfl (lv_at hl 0 rfl) ?_
        refine gf_RX1_11 F hE hB po_10 rfl dX1_parseAll_14 ?_
        refine lv_iload_n F.1 F.2.1 dX1_parseAll_17 rfl (lv_at hl 3 rfl) ?_
        obtain ⟨hi2, h⟩ := ck_e h
        refine q_aldA F hE hB po_11 hi2 dX1_parseAll_18 ?_
        obtain ⟨v5, σ4, hc3, h⟩ := bi_e h
        refine q_ci hB (q_goS F hE hB (k_X1_parseMarks hI σ0 r1 hr1 x2 (13 + x3.toNatClampNeg) (mk_row hi2) hc3) (ca_RX1_34 F.2.2.2.2 ⟨Nat.le_of_ble_eq_true rfl, Nat.le_of_ble_eq_true rfl⟩) rfl hl.1 rfl (Nat.le_of_ble_eq_true rfl) dX1_parseAll_19 ⟨Nat.le_of_ble_eq_true rfl, Nat.le_of_ble_eq_true rfl⟩) (fun H locs hB => ?_)
        refine lv_iadd F.1 F.2.1 dX1_parseAll_22 ?_
        refine lv_istore_n (lv' := [(2, .int (x2 + v5)), (0, .ref (ad 10)), (1, .ref (ad r1)), (3, .int x3)]) F.1 F.2.1 dX1_parseAll_23 rfl hl (by decide) rfl (fun ls hl => ?_)
        refine lv_aload_n F.1 F.2.1 dX1_parseAll_24 rfl (lv_at hl 1 rfl) ?_
        refine gf_RX1_16 F hE hB po_10 rfl dX1_parseAll_25 ?_
        refine lv_iload_n F.1 F.2.1 dX1_parseAll_28 rfl (lv_at hl 3 rfl) ?_
        refine lv_aload_n F.1 F.2.1 dX1_parseAll_29 rfl (lv_at hl 2 rfl) ?_
        refine lv_iload_n F.1 F.2.1 dX1_parseAll_30 rfl (lv_at hl 0 rfl) ?_
        refine lv_bipush (v := 48) F.1 F.2.1 dX1_parseAll_31 (by decide) ?_
        obtain ⟨v7, hc6, h⟩ := bp_e h
        refine q_ci hB (q_goV F hE hB (k_X7_from hI σ4 r1 hr1 (x2 + v5) (48 : Int32) hc6) (ca_RX1_38 F.2.2.2.2 ⟨Nat.le_of_ble_eq_true rfl, Nat.le_of_ble_eq_true rfl⟩) rfl (po_Text hr1) rfl hl.1 rfl (Nat.le_of_ble_eq_true rfl) dX1_parseAll_33 ⟨Nat.le_of_ble_eq_true rfl, Nat.le_of_ble_eq_true rfl⟩) (fun H locs hB => ?_)
        obtain ⟨hi8, h⟩ := ck_e h
        obtain ⟨σ9, e10, h⟩ := lt_e h
        refine q_iast F hE hI hB row_12 hi8 dX1_parseAll_36 e10 (fun H locs hB => ?_)
        refine lv_aload_n F.1 F.2.1 dX1_parseAll_37 rfl (lv_at hl 1 rfl) ?_
        refine gf_RX1_16 F hE hB po_10 rfl dX1_parseAll_38 ?_
        refine lv_iload_n F.1 F.2.1 dX1_parseAll_41 rfl (lv_at hl 3 rfl) ?_
        obtain ⟨hi11, h⟩ := ck_e h
        refine q_iald F hE hB po_12 hi11 dX1_parseAll_42 ?_
        refine lv_bipush (v := 10) F.1 F.2.1 dX1_parseAll_43 (by decide) ?_
        obtain ⟨v13, hc12, h⟩ := bp_e h
        refine q_ci hB (q_goSN F hE hB (k_X9_isWithin hI σ9 (σ9.1 12 x3.toNatClampNeg) (10 : Int32) hc12) (ca_RX1_42 F.2.2.2.2 (hE.2.2.1 _ (List.mem_of_getElem? (i := 8) rfl)) ⟨Nat.le_of_ble_eq_true rfl, Nat.le_of_ble_eq_true rfl⟩) rfl hl.1 rfl (Nat.le_of_ble_eq_true rfl) dX1_parseAll_45 ⟨Nat.le_of_ble_eq_true rfl, Nat.le_of_ble_eq_true rfl⟩) (fun H locs hB => ?_)
        refine lv_if_ne (tgt := 53) F.1 F.2.1 dX1_parseAll_48 (by decide) (fun c14 => ?_) (fun c14 => ?_)
        · replace h := ie_e c14 h
          refine lv_aload_n F.1 F.2.1 dX1_parseAll_53 rfl (lv_at hl 1 rfl) ?_
          refine lv_iload_n F.1 F.2.1 dX1_parseAll_54 rfl (lv_at hl 3 rfl) ?_
          refine lv_iconst (v := 1) F.1 F.2.1 dX1_parseAll_55 (by decide) ?_
          refine lv_iadd F.1 F.2.1 dX1_parseAll_56 ?_
          obtain ⟨σ15, e16, h⟩ := lt_e h
          refine pf_RX1_24 F hE hI hB po_10 rfl rfl (Nat.le_of_ble_eq_true rfl) rfl dX1_parseAll_57 e16 (fun H locs hB => ?_)
          refine lv_iinc (v := ((x2 + v5) + (1 : Int32))) (lv' := [(2, .int ((x2 + v5) + (1 : Int32))), (0, .ref (ad 10)), (1, .ref (ad r1)), (3, .int x3)]) F.1 F.2.1 dX1_parseAll_60 hl (k := 0) rfl rfl (by decide) rfl (fun ls hl => ?_)
          refine lv_iload_n F.1 F.2.1 dX1_parseAll_63 rfl (lv_at hl 0 rfl) ?_
          refine lv_aload_n F.1 F.2.1 dX1_parseAll_64 rfl (lv_at hl 2 rfl) ?_
          refine gf_RX1_27 F hE hB (po_Text hr1) rfl dX1_parseAll_65 ?_
          refine lv_icmp_ne (tgt := 73) F.1 F.2.1 dX1_parseAll_68 (by decide) (fun c17 => ?_) (fun c17 => ?_)
          · replace h := ie_e c17 h
            refine lv_aload_n F.1 F.2.1 dX1_parseAll_73 rfl (lv_at hl 2 rfl) ?_
            refine lv_iload_n F.1 F.2.1 dX1_parseAll_74 rfl (lv_at hl 0 rfl) ?_
            refine lv_bipush (v := 59) F.1 F.2.1 dX1_parseAll_75 (by decide) ?_
            obtain ⟨v19, hc18, h⟩ := bp_e h
            refine q_ci hB (q_goV F hE hB (k_X7_from hI σ15 r1 hr1 ((x2 + v5) + (1 : Int32)) (59 : Int32) hc18) (ca_RX1_38 F.2.2.2.2 ⟨Nat.le_of_ble_eq_true rfl, Nat.le_of_ble_eq_true rfl⟩) rfl (po_Text hr1) rfl hl.1 rfl (Nat.le_of_ble_eq_true rfl) dX1_parseAll_77 ⟨Nat.le_of_ble_eq_true rfl, Nat.le_of_ble_eq_true rfl⟩) (fun H locs hB => ?_)
            refine lv_if_eq (tgt := 85) F.1 F.2.1 dX1_parseAll_80 (by decide) (fun c20 => ?_) (fun c20 => ?_)
            · replace h := it_e c20 h
              refine lv_iinc (v := (((x2 + v5) + (1 : Int32)) + (1 : Int32))) (lv' := [(2, .int (((x2 + v5) + (1 : Int32)) + (1 : Int32))), (0, .ref (ad 10)), (1, .ref (ad r1)), (3, .int x3)]) F.1 F.2.1 dX1_parseAll_85 hl (k := 0) rfl rfl (by decide) rfl (fun ls hl => ?_)
              refine lv_iinc (v := (x3 + (1 : Int32))) (lv' := [(3, .int (x3 + (1 : Int32))), (2, .int (((x2 + v5) + (1 : Int32)) + (1 : Int32))), (0, .ref (ad 10)), (1, .ref (ad r1))]) F.1 F.2.1 dX1_parseAll_88 hl (k := 3) rfl rfl (by decide) rfl (fun ls hl => ?_)
              refine lv_goto (tgt := 4) F.1 F.2.1 dX1_parseAll_91 (by decide) ?_
              exact ih4 σ15 _ _ _ r1 (((x2 + v5) + (1 : Int32)) + (1 : Int32)) (x3 + (1 : Int32)) hr1 h hB (lv_sub hl [2, 3, 1, 0] rfl)
            · replace h := ie_e c20 h
              refine lv_iload_n F.1 F.2.1 dX1_parseAll_83 rfl (lv_at hl 0 rfl) ?_
              exact q_iret F hlocks hr hB (so1 h) (so2 h) dX1_parseAll_84
          · replace h := it_e c17 h
            refine lv_iconst (v := (-1)) F.1 F.2.1 dX1_parseAll_71 (by decide) ?_
            exact q_iret F hlocks hr hB (so1 h) (so2 h) dX1_parseAll_72
        · replace h := it_e c14 h
          refine lv_iload_n F.1 F.2.1 dX1_parseAll_51 rfl (lv_at hl 0 rfl) ?_
          exact q_iret F hlocks hr hB (so1 h) (so2 h) dX1_parseAll_52
  unfold f_X1_parseAll at h
  refine lv_iconst (v := 0) F.1 F.2.1 dX1_parseAll_0 (by decide) ?_
  refine lv_istore_n (lv' := [(2, .int (0 : Int32)), (0, .ref (ad 10)), (1, .ref (ad q1))]) F.1 F.2.1 dX1_parseAll_1 rfl hl (by decide) rfl (fun ls hl => ?_)
  refine lv_iconst (v := 0) F.1 F.2.1 dX1_parseAll_2 (by decide) ?_
  refine lv_istore_n (lv' := [(3, .int (0 : Int32)), (2, .int (0 : Int32)), (0, .ref (ad 10)), (1, .ref (ad q1))]) F.1 F.2.1 dX1_parseAll_3 rfl hl (by decide) rfl (fun ls hl => ?_)
  exact B4 300 σ0 _ _ _ q1 (0 : Int32) (0 : Int32) hq1 h hB (lv_sub hl [2, 3, 1, 0] rfl)
def f_X1_parse_b22 (σ0 : Mem) (y0 : Int32) : Option (Mem) := (lt (ms σ0 10 3 y0) (fun σ7 => (if (σ7.1 10 3) = (-1 : Int32) then (some σ7) else (lt (ms σ7 10 2 (0 : Int32)) (fun σ10 => (some σ10))))))
def f_X1_parse (σ0 : Mem) (q1 : Nat) : Option (Mem) := (lt (ms σ0 10 2 (0 : Int32)) (fun σ1 => (if (σ1.1 q1 1) = (0 : Int32) then (f_X1_parse_b22 σ1 (-1 : Int32)) else (bi (f_X1_parseAll σ1 q1) (fun v6 σ5 => (f_X1_parse_b22 σ5 v6))))))
set_option maxHeartbeats 4000000 in
set_option maxRecDepth 100000 in
theorem k_X1_parse {l : Launch} {D : va_G} {cy : Nat → ClassId} {ad : Nat → Nat} {ta tb : Nat} (hI : AdI ad) (σ0 : Mem) (q1 : Nat) (hq1 : isText q1) {o : Mem} (h : f_X1_parse σ0 q1 = some o) : Met l yX1_parse (Cond.code yX1_parse cX1_parse 2 none :: wG) rm_X1_parse (CP D cy ad ta tb σ0 [.ref (ad 10), .ref (ad q1)]) (CQv D cy ad o) 0 0 (AA ad) := by
  refine Met.ofW (cc := cX1_parse) (maxL := 2) (ret := none) (by decide) rfl ?_
  intro p e s m args below meth c s₁ B hml hv
  obtain ⟨rfl, hE, hP⟩ := hv
  have hts := atoms_spec (ws := Cond.code yX1_parse cX1_parse 2 none :: wG) B.pre
  have F : CallFix p m c cX1_parse 2 s _ wG RX1 := ⟨B.exec, B.bytes, hml, findClass_of_methodNamed B.named, fun w hw => hts w (List.mem_cons_of_mem _ hw)⟩
  have hr := B.returns
  have hlocks := B.notSynchronized
  have hB : Bd D cy ad σ0 s.heap s.heap [] := ⟨hP, va_S.rf⟩
  have hl := lv_entry ([.ref (ad 10), .ref (ad q1)] : List Value) (n := 2) (Nat.le_of_ble_eq_true rfl)
  rw [lg_entry_eq]
  generalize (lg_sl ([.ref (ad 10), .ref (ad q1)] : List Value) ++ List.replicate (2 - (lg_sl ([.ref (ad 10), .ref (ad q1)] : List Value)).length) Slot.unset).toArray = ls at hl ⊢
  have hl : lv_has ls 2 [(0, .ref (ad 10)), (1, .ref (ad q1))] := hl
  have B22 : ∀ (σ0 : Mem) (H : Heap) (locs : List Loc) (ls : Array Slot) (y0 : Int32), f_X1_parse_b22 σ0 y0 = some o → Bd D cy ad σ0 s.heap H locs → lv_has ls 2 [(0, .ref (ad 10))] → W p l e rm_X1_parse s m ([.ref (ad 10), .ref (ad q1)] : List Value).toArray below meth c H locs 0 0 (MQ below (CQv D cy ad o) ([.ref (ad 10), .ref (ad q1)] : List Value).toArray s 0 0 (AA ad)) (F0 m 22 ls [.int y0, .ref (ad 10)]) := by
    intro σ0 H locs ls y0 h hB hl
    unfold f_X1_parse_b22 at h
    obtain ⟨σ7, e8, h⟩ := lt_e h
    refine pf_RX1_20 F hE hI hB po_10 rfl rfl (Nat.le_of_ble_eq_true rfl) rfl dX1_parse_22 e8 (fun H locs hB => ?_)
    refine lv_aload_n F.1 F.2.1 dX1_parse_25 rfl (lv_at hl 0 rfl) ?_
    refine gf_RX1_20 F hE hB po_10 rfl dX1_parse_26 ?_
    refine lv_iconst (v := (-1)) F.1 F.2.1 dX1_parse_29 (by decide) ?_
    refine lv_icmp_eq (tgt := 38) F.1 F.2.1 dX1_parse_30 (by decide) (fun c9 => ?_) (fun c9 => ?_)
    · replace h := it_e c9 h
      exact q_vret F hlocks hr hB (Option.some.inj h) dX1_parse_38
    · replace h := ie_e c9 h
      refine lv_aload_n F.1 F.2.1 dX1_parse_33 rfl (lv_at hl 0 rfl) ?_
      refine lv_iconst (v := 0) F.1 F.2.1 dX1_parse_34 (by decide) ?_
      obtain ⟨σ10, e11, h⟩ := lt_e h
      refine pf_RX1_24 F hE hI hB po_10 rfl rfl (Nat.le_of_ble_eq_true rfl) rfl dX1_parse_35 e11 (fun H locs hB => ?_)
      exact q_vret F hlocks hr hB (Option.some.inj h) dX1_parse_38
  unfold f_X1_parse at h
  refine lv_aload_n F.1 F.2.1 dX1_parse_0 rfl (lv_at hl 0 rfl) ?_
  refine lv_iconst (v := 0) F.1 F.2.1 dX1_parse_1 (by decide) ?_
  obtain ⟨σ1, e2, h⟩ := lt_e h
  refine pf_RX1_24 F hE hI hB po_10 rfl rfl (Nat.le_of_ble_eq_true rfl) rfl dX1_parse_2 e2 (fun H locs hB => ?_)
  refine lv_aload_n F.1 F.2.1 dX1_parse_5 rfl (lv_at hl 0 rfl) ?_
  refine lv_aload_n F.1 F.2.1 dX1_parse_6 rfl (lv_at hl 1 rfl) ?_
  refine gf_RX1_27 F hE hB (po_Text hq1) rfl dX1_parse_7 ?_
  refine lv_if_ne (tgt := 17) F.1 F.2.1 dX1_parse_10 (by decide) (fun c3 => ?_) (fun c3 => ?_)
  · replace h := ie_e c3 h
    refine lv_aload_n F.1 F.2.1 dX1_parse_17 rfl (lv_at hl 0 rfl) ?_
    refine lv_aload_n F.1 F.2.1 dX1_parse_18 rfl (lv_at hl 1 rfl) ?_
    obtain ⟨v6, σ5, hc4, h⟩ := bi_e h
    refine q_ci hB (q_goV F hE hB (k_X1_parseAll hI σ1 q1 hq1 hc4) (ca_RX1_30 F.2.2.2.2 ⟨Nat.le_of_ble_eq_true rfl, Nat.le_of_ble_eq_true rfl⟩) rfl po_10 rfl hl.1 rfl (Nat.le_of_ble_eq_true rfl) dX1_parse_19 ⟨Nat.le_of_ble_eq_true rfl, Nat.le_of_ble_eq_true rfl⟩) (fun H locs hB => ?_)
    exact B22 σ5 _ _ _ v6 h hB (lv_sub hl [0] rfl)
  · replace h := it_e c3 h
    refine lv_iconst (v := (-1)) F.1 F.2.1 dX1_parse_13 (by decide) ?_
    refine lv_goto (tgt := 22) F.1 F.2.1 dX1_parse_14 (by decide) ?_
    exact B22 σ1 _ _ _ (-1 : Int32) h hB (lv_sub hl [0] rfl)
def f_X4_mayBe (σ0 : Mem) (a0 : Int32) (a1 : Int32) : Option (Int32) := (bp (f_X9_isWithin σ0 a0 (8 : Int32)) (fun v2 => (if v2 = (0 : Int32) then (some (0 : Int32)) else (bp (f_X9_isWithin σ0 a1 (6 : Int32)) (fun v5 => (if v5 = (0 : Int32) then (some (0 : Int32)) else (some (1 : Int32))))))))
set_option maxHeartbeats 4000000 in
set_option maxRecDepth 100000 in
theorem k_X4_mayBe {l : Launch} {D : va_G} {cy : Nat → ClassId} {ad : Nat → Nat} {ta tb : Nat} (hI : AdI ad) (σ0 : Mem) (a0 : Int32) (a1 : Int32) {o : Int32} (h : f_X4_mayBe σ0 a0 a1 = some o) : Met l yX4_mayBe (Cond.code yX4_mayBe cX4_mayBe 2 (some .boolean) :: wG) rm_X4_mayBe (CP D cy ad ta tb σ0 [.int a0, .int a1]) (CQi D cy ad o σ0) 0 0 (AA ad) := by
  refine Met.ofW (cc := cX4_mayBe) (maxL := 2) (ret := (some .boolean)) (by decide) rfl ?_
  intro p e s m args below meth c s₁ B hml hv
  obtain ⟨rfl, hE, hP⟩ := hv
  have hts := atoms_spec (ws := Cond.code yX4_mayBe cX4_mayBe 2 (some .boolean) :: wG) B.pre
  have F : CallFix p m c cX4_mayBe 2 s _ wG RX4 := ⟨B.exec, B.bytes, hml, findClass_of_methodNamed B.named, fun w hw => hts w (List.mem_cons_of_mem _ hw)⟩
  have hr := B.returns
  have hlocks := B.notSynchronized
  have hB : Bd D cy ad σ0 s.heap s.heap [] := ⟨hP, va_S.rf⟩
  have hl := lv_entry ([.int a0, .int a1] : List Value) (n := 2) (Nat.le_of_ble_eq_true rfl)
  rw [lg_entry_eq]
  generalize (lg_sl ([.int a0, .int a1] : List Value) ++ List.replicate (2 - (lg_sl ([.int a0, .int a1] : List Value)).length) Slot.unset).toArray = ls at hl ⊢
  have hl : lv_has ls 2 [(0, .int a0), (1, .int a1)] := hl
  unfold f_X4_mayBe at h
  refine lv_iload_n F.1 F.2.1 dX4_mayBe_0 rfl (lv_at hl 0 rfl) ?_
  refine lv_bipush (v := 8) F.1 F.2.1 dX4_mayBe_1 (by decide) ?_
  obtain ⟨v2, hc1, h⟩ := bp_e h
  refine q_ci hB (q_goSN F hE hB (k_X9_isWithin hI σ0 a0 (8 : Int32) hc1) (ca_RX4_23 F.2.2.2.2 (hE.2.2.1 _ (List.mem_of_getElem? (i := 10) rfl)) ⟨Nat.le_of_ble_eq_true rfl, Nat.le_of_ble_eq_true rfl⟩) rfl hl.1 rfl (Nat.le_of_ble_eq_true rfl) dX4_mayBe_3 ⟨Nat.le_of_ble_eq_true rfl, Nat.le_of_ble_eq_true rfl⟩) (fun H locs hB => ?_)
  refine lv_if_eq (tgt := 22) F.1 F.2.1 dX4_mayBe_6 (by decide) (fun c3 => ?_) (fun c3 => ?_)
  · replace h := it_e c3 h
    refine lv_iconst (v := 0) F.1 F.2.1 dX4_mayBe_22 (by decide) ?_
    exact q_zret F hlocks hr rfl hB (Option.some.inj h) rfl dX4_mayBe_23
  · replace h := ie_e c3 h
    refine lv_iload_n F.1 F.2.1 dX4_mayBe_9 rfl (lv_at hl 1 rfl) ?_
    refine lv_bipush (v := 6) F.1 F.2.1 dX4_mayBe_10 (by decide) ?_
    obtain ⟨v5, hc4, h⟩ := bp_e h
    refine q_ci hB (q_goSN F hE hB (k_X9_isWithin hI σ0 a1 (6 : Int32) hc4) (ca_RX4_23 F.2.2.2.2 (hE.2.2.1 _ (List.mem_of_getElem? (i := 10) rfl)) ⟨Nat.le_of_ble_eq_true rfl, Nat.le_of_ble_eq_true rfl⟩) rfl hl.1 rfl (Nat.le_of_ble_eq_true rfl) dX4_mayBe_12 ⟨Nat.le_of_ble_eq_true rfl, Nat.le_of_ble_eq_true rfl⟩) (fun H locs hB => ?_)
    refine lv_if_eq (tgt := 22) F.1 F.2.1 dX4_mayBe_15 (by decide) (fun c6 => ?_) (fun c6 => ?_)
    · replace h := it_e c6 h
      refine lv_iconst (v := 0) F.1 F.2.1 dX4_mayBe_22 (by decide) ?_
      exact q_zret F hlocks hr rfl hB (Option.some.inj h) rfl dX4_mayBe_23
    · replace h := ie_e c6 h
      refine lv_iconst (v := 1) F.1 F.2.1 dX4_mayBe_18 (by decide) ?_
      refine lv_goto (tgt := 23) F.1 F.2.1 dX4_mayBe_19 (by decide) ?_
      exact q_zret F hlocks hr rfl hB (Option.some.inj h) rfl dX4_mayBe_23
def f_X4_isFull (σ0 : Mem) : Option (Int32) := (if (σ0.1 21 3) < (8 : Int32) then (some (0 : Int32)) else (some (1 : Int32)))
set_option maxHeartbeats 4000000 in
set_option maxRecDepth 100000 in
theorem k_X4_isFull {l : Launch} {D : va_G} {cy : Nat → ClassId} {ad : Nat → Nat} {ta tb : Nat} (hI : AdI ad) (σ0 : Mem) {o : Int32} (h : f_X4_isFull σ0 = some o) : Met l yX4_isFull (Cond.code yX4_isFull cX4_isFull 1 (some .boolean) :: wG) rm_X4_isFull (CP D cy ad ta tb σ0 [.ref (ad 21)]) (CQi D cy ad o σ0) 0 0 (AA ad) := by
  refine Met.ofW (cc := cX4_isFull) (maxL := 1) (ret := (some .boolean)) (by decide) rfl ?_
  intro p e s m args below meth c s₁ B hml hv
  obtain ⟨rfl, hE, hP⟩ := hv
  have hts := atoms_spec (ws := Cond.code yX4_isFull cX4_isFull 1 (some .boolean) :: wG) B.pre
  have F : CallFix p m c cX4_isFull 1 s _ wG RX4 := ⟨B.exec, B.bytes, hml, findClass_of_methodNamed B.named, fun w hw => hts w (List.mem_cons_of_mem _ hw)⟩
  have hr := B.returns
  have hlocks := B.notSynchronized
  have hB : Bd D cy ad σ0 s.heap s.heap [] := ⟨hP, va_S.rf⟩
  have hl := lv_entry ([.ref (ad 21)] : List Value) (n := 1) (Nat.le_of_ble_eq_true rfl)
  rw [lg_entry_eq]
  generalize (lg_sl ([.ref (ad 21)] : List Value) ++ List.replicate (1 - (lg_sl ([.ref (ad 21)] : List Value)).length) Slot.unset).toArray = ls at hl ⊢
  have hl : lv_has ls 1 [(0, .ref (ad 21))] := hl
  unfold f_X4_isFull at h
  refine lv_aload_n F.1 F.2.1 dX4_isFull_0 rfl (lv_at hl 0 rfl) ?_
  refine gf_RX4_27 F hE hB po_21 rfl dX4_isFull_1 ?_
  refine lv_bipush (v := 8) F.1 F.2.1 dX4_isFull_4 (by decide) ?_
  refine lv_icmp_lt (tgt := 13) F.1 F.2.1 dX4_isFull_6 (by decide) (fun c1 => ?_) (fun c1 => ?_)
  · replace h := it_e c1 h
    refine lv_iconst (v := 0) F.1 F.2.1 dX4_isFull_13 (by decide) ?_
    exact q_zret F hlocks hr rfl hB (Option.some.inj h) rfl dX4_isFull_14
  · replace h := ie_e c1 h
    refine lv_iconst (v := 1) F.1 F.2.1 dX4_isFull_9 (by decide) ?_
    refine lv_goto (tgt := 14) F.1 F.2.1 dX4_isFull_10 (by decide) ?_
    exact q_zret F hlocks hr rfl hB (Option.some.inj h) rfl dX4_isFull_14
def f_X4_append (σ0 : Mem) (a1 : Int32) (a2 : Int32) : Option (Mem) := (bp (f_X4_isFull σ0) (fun v2 => (if v2 = (0 : Int32) then (bp (f_X4_mayBe σ0 a1 a2) (fun v5 => (if v5 = (0 : Int32) then (some σ0) else (ck (σ0.1 21 3) 8 (lt (ms σ0 22 (σ0.1 21 3).toNatClampNeg a1) (fun σ8 => (ck (σ8.1 21 3) 8 (lt (ms σ8 23 (σ8.1 21 3).toNatClampNeg a2) (fun σ11 => (lt (ms σ11 21 3 ((σ11.1 21 3) + (1 : Int32))) (fun σ13 => (ck a1 8 (ck a2 6 (ck a2 6 (lt (ms σ13 (25 + a1.toNatClampNeg) a2.toNatClampNeg ((σ13.1 (25 + a1.toNatClampNeg) a2.toNatClampNeg) + (1 : Int32))) (fun σ18 => (some σ18))))))))))))))))) else (some σ0))))
set_option maxHeartbeats 4000000 in
set_option maxRecDepth 100000 in
theorem k_X4_append {l : Launch} {D : va_G} {cy : Nat → ClassId} {ad : Nat → Nat} {ta tb : Nat} (hI : AdI ad) (σ0 : Mem) (a1 : Int32) (a2 : Int32) {o : Mem} (h : f_X4_append σ0 a1 a2 = some o) : Met l yX4_append (Cond.code yX4_append cX4_append 3 none :: wG) rm_X4_append (CP D cy ad ta tb σ0 [.ref (ad 21), .int a1, .int a2]) (CQv D cy ad o) 0 0 (AA ad) := by
  refine Met.ofW (cc := cX4_append) (maxL := 3) (ret := none) (by decide) rfl ?_
  intro p e s m args below meth c s₁ B hml hv
  obtain ⟨rfl, hE, hP⟩ := hv
  have hts := atoms_spec (ws := Cond.code yX4_append cX4_append 3 none :: wG) B.pre
  have F : CallFix p m c cX4_append 3 s _ wG RX4 := ⟨B.exec, B.bytes, hml, findClass_of_methodNamed B.named, fun w hw => hts w (List.mem_cons_of_mem _ hw)⟩
  have hr := B.returns
  have hlocks := B.notSynchronized
  have hB : Bd D cy ad σ0 s.heap s.heap [] := ⟨hP, va_S.rf⟩
  have hl := lv_entry ([.ref (ad 21), .int a1, .int a2] : List Value) (n := 3) (Nat.le_of_ble_eq_true rfl)
  rw [lg_entry_eq]
  generalize (lg_sl ([.ref (ad 21), .int a1, .int a2] : List Value) ++ List.replicate (3 - (lg_sl ([.ref (ad 21), .int a1, .int a2] : List Value)).length) Slot.unset).toArray = ls at hl ⊢
  have hl : lv_has ls 3 [(0, .ref (ad 21)), (1, .int a1), (2, .int a2)] := hl
  unfold f_X4_append at h
  refine lv_aload_n F.1 F.2.1 dX4_append_0 rfl (lv_at hl 0 rfl) ?_
  obtain ⟨v2, hc1, h⟩ := bp_e h
  refine q_ci hB (q_goV F hE hB (k_X4_isFull hI σ0 hc1) (ca_RX4_31 F.2.2.2.2 ⟨Nat.le_of_ble_eq_true rfl, Nat.le_of_ble_eq_true rfl⟩) rfl po_21 rfl hl.1 rfl (Nat.le_of_ble_eq_true rfl) dX4_append_1 ⟨Nat.le_of_ble_eq_true rfl, Nat.le_of_ble_eq_true rfl⟩) (fun H locs hB => ?_)
  refine lv_if_ne (tgt := 57) F.1 F.2.1 dX4_append_4 (by decide) (fun c3 => ?_) (fun c3 => ?_)
  · replace h := ie_e c3 h
    exact q_vret F hlocks hr hB (Option.some.inj h) dX4_append_57
  · replace h := it_e c3 h
    refine lv_iload_n F.1 F.2.1 dX4_append_7 rfl (lv_at hl 1 rfl) ?_
    refine lv_iload_n F.1 F.2.1 dX4_append_8 rfl (lv_at hl 2 rfl) ?_
    obtain ⟨v5, hc4, h⟩ := bp_e h
    refine q_ci hB (q_goS F hE hB (k_X4_mayBe hI σ0 a1 a2 hc4) (ca_RX4_35 F.2.2.2.2 ⟨Nat.le_of_ble_eq_true rfl, Nat.le_of_ble_eq_true rfl⟩) rfl hl.1 rfl (Nat.le_of_ble_eq_true rfl) dX4_append_9 ⟨Nat.le_of_ble_eq_true rfl, Nat.le_of_ble_eq_true rfl⟩) (fun H locs hB => ?_)
    refine lv_if_eq (tgt := 57) F.1 F.2.1 dX4_append_12 (by decide) (fun c6 => ?_) (fun c6 => ?_)
    · replace h := it_e c6 h
      exact q_vret F hlocks hr hB (Option.some.inj h) dX4_append_57
    · replace h := ie_e c6 h
      refine lv_aload_n F.1 F.2.1 dX4_append_15 rfl (lv_at hl 0 rfl) ?_
      refine gf_RX4_9 F hE hB po_21 rfl dX4_append_16 ?_
      refine lv_aload_n F.1 F.2.1 dX4_append_19 rfl (lv_at hl 0 rfl) ?_
      refine gf_RX4_27 F hE hB po_21 rfl dX4_append_20 ?_
      refine lv_iload_n F.1 F.2.1 dX4_append_23 rfl (lv_at hl 1 rfl) ?_
      obtain ⟨hi7, h⟩ := ck_e h
      obtain ⟨σ8, e9, h⟩ := lt_e h
      refine q_iast F hE hI hB row_22 hi7 dX4_append_24 e9 (fun H locs hB => ?_)
      refine lv_aload_n F.1 F.2.1 dX4_append_25 rfl (lv_at hl 0 rfl) ?_
      refine gf_RX4_15 F hE hB po_21 rfl dX4_append_26 ?_
      refine lv_aload_n F.1 F.2.1 dX4_append_29 rfl (lv_at hl 0 rfl) ?_
      refine gf_RX4_27 F hE hB po_21 rfl dX4_append_30 ?_
      refine lv_iload_n F.1 F.2.1 dX4_append_33 rfl (lv_at hl 2 rfl) ?_
      obtain ⟨hi10, h⟩ := ck_e h
      obtain ⟨σ11, e12, h⟩ := lt_e h
      refine q_iast F hE hI hB row_23 hi10 dX4_append_34 e12 (fun H locs hB => ?_)
      refine lv_aload_n F.1 F.2.1 dX4_append_35 rfl (lv_at hl 0 rfl) ?_
      refine lv_dup F.1 F.2.1 dX4_append_36 rfl ?_
      refine gf_RX4_27 F hE hB po_21 rfl dX4_append_37 ?_
      refine lv_iconst (v := 1) F.1 F.2.1 dX4_append_40 (by decide) ?_
      refine lv_iadd F.1 F.2.1 dX4_append_41 ?_
      obtain ⟨σ13, e14, h⟩ := lt_e h
      refine pf_RX4_27 F hE hI hB po_21 rfl rfl (Nat.le_of_ble_eq_true rfl) rfl dX4_append_42 e14 (fun H locs hB => ?_)
      refine lv_aload_n F.1 F.2.1 dX4_append_45 rfl (lv_at hl 0 rfl) ?_
      refine gf_RX4_20 F hE hB po_21 rfl dX4_append_46 ?_
      refine lv_iload_n F.1 F.2.1 dX4_append_49 rfl (lv_at hl 1 rfl) ?_
      obtain ⟨hi15, h⟩ := ck_e h
      refine q_aldA F hE hB po_24 hi15 dX4_append_50 ?_
      refine lv_iload_n F.1 F.2.1 dX4_append_51 rfl (lv_at hl 2 rfl) ?_
      refine lv_dup2_11 F.1 F.2.1 dX4_append_52 rfl rfl ?_
      obtain ⟨hi16, h⟩ := ck_e h
      refine q_iald F hE hB (po_row (cr_row hi15)) hi16 dX4_append_53 ?_
      refine lv_iconst (v := 1) F.1 F.2.1 dX4_append_54 (by decide) ?_
      refine lv_iadd F.1 F.2.1 dX4_append_55 ?_
      obtain ⟨hi17, h⟩ := ck_e h
      obtain ⟨σ18, e19, h⟩ := lt_e h
      refine q_iast F hE hI hB (cr_row hi15) hi17 dX4_append_56 e19 (fun H locs hB => ?_)
      exact q_vret F hlocks hr hB (Option.some.inj h) dX4_append_57
def f_X4_dropLast (σ0 : Mem) : Option (Mem) := (if (σ0.1 21 3) ≤ (0 : Int32) then (some σ0) else (lt (ms σ0 21 3 ((σ0.1 21 3) - (1 : Int32))) (fun σ2 => (ck (σ2.1 21 3) 8 (ck (σ2.1 22 (σ2.1 21 3).toNatClampNeg) 8 (ck (σ2.1 21 3) 8 (ck (σ2.1 23 (σ2.1 21 3).toNatClampNeg) 6 (ck (σ2.1 23 (σ2.1 21 3).toNatClampNeg) 6 (lt (ms σ2 (25 + (σ2.1 22 (σ2.1 21 3).toNatClampNeg).toNatClampNeg) (σ2.1 23 (σ2.1 21 3).toNatClampNeg).toNatClampNeg ((σ2.1 (25 + (σ2.1 22 (σ2.1 21 3).toNatClampNeg).toNatClampNeg) (σ2.1 23 (σ2.1 21 3).toNatClampNeg).toNatClampNeg) - (1 : Int32))) (fun σ9 => (some σ9)))))))))))
set_option maxHeartbeats 4000000 in
set_option maxRecDepth 100000 in
theorem k_X4_dropLast {l : Launch} {D : va_G} {cy : Nat → ClassId} {ad : Nat → Nat} {ta tb : Nat} (hI : AdI ad) (σ0 : Mem) {o : Mem} (h : f_X4_dropLast σ0 = some o) : Met l yX4_dropLast (Cond.code yX4_dropLast cX4_dropLast 1 none :: wG) rm_X4_dropLast (CP D cy ad ta tb σ0 [.ref (ad 21)]) (CQv D cy ad o) 0 0 (AA ad) := by
  refine Met.ofW (cc := cX4_dropLast) (maxL := 1) (ret := none) (by decide) rfl ?_
  intro p e s m args below meth c s₁ B hml hv
  obtain ⟨rfl, hE, hP⟩ := hv
  have hts := atoms_spec (ws := Cond.code yX4_dropLast cX4_dropLast 1 none :: wG) B.pre
  have F : CallFix p m c cX4_dropLast 1 s _ wG RX4 := ⟨B.exec, B.bytes, hml, findClass_of_methodNamed B.named, fun w hw => hts w (List.mem_cons_of_mem _ hw)⟩
  have hr := B.returns
  have hlocks := B.notSynchronized
  have hB : Bd D cy ad σ0 s.heap s.heap [] := ⟨hP, va_S.rf⟩
  have hl := lv_entry ([.ref (ad 21)] : List Value) (n := 1) (Nat.le_of_ble_eq_true rfl)
  rw [lg_entry_eq]
  generalize (lg_sl ([.ref (ad 21)] : List Value) ++ List.replicate (1 - (lg_sl ([.ref (ad 21)] : List Value)).length) Slot.unset).toArray = ls at hl ⊢
  have hl : lv_has ls 1 [(0, .ref (ad 21))] := hl
  unfold f_X4_dropLast at h
  refine lv_aload_n F.1 F.2.1 dX4_dropLast_0 rfl (lv_at hl 0 rfl) ?_
  refine gf_RX4_27 F hE hB po_21 rfl dX4_dropLast_1 ?_
  refine lv_if_le (tgt := 45) F.1 F.2.1 dX4_dropLast_4 (by decide) (fun c1 => ?_) (fun c1 => ?_)
  · replace h := it_e c1 h
    exact q_vret F hlocks hr hB (Option.some.inj h) dX4_dropLast_45
  · replace h := ie_e c1 h
    refine lv_aload_n F.1 F.2.1 dX4_dropLast_7 rfl (lv_at hl 0 rfl) ?_
    refine lv_dup F.1 F.2.1 dX4_dropLast_8 rfl ?_
    refine gf_RX4_27 F hE hB po_21 rfl dX4_dropLast_9 ?_
    refine lv_iconst (v := 1) F.1 F.2.1 dX4_dropLast_12 (by decide) ?_
    refine lv_isub F.1 F.2.1 dX4_dropLast_13 ?_
    obtain ⟨σ2, e3, h⟩ := lt_e h
    refine pf_RX4_27 F hE hI hB po_21 rfl rfl (Nat.le_of_ble_eq_true rfl) rfl dX4_dropLast_14 e3 (fun H locs hB => ?_)
    refine lv_aload_n F.1 F.2.1 dX4_dropLast_17 rfl (lv_at hl 0 rfl) ?_
    refine gf_RX4_20 F hE hB po_21 rfl dX4_dropLast_18 ?_
    refine lv_aload_n F.1 F.2.1 dX4_dropLast_21 rfl (lv_at hl 0 rfl) ?_
    refine gf_RX4_9 F hE hB po_21 rfl dX4_dropLast_22 ?_
    refine lv_aload_n F.1 F.2.1 dX4_dropLast_25 rfl (lv_at hl 0 rfl) ?_
    refine gf_RX4_27 F hE hB po_21 rfl dX4_dropLast_26 ?_
    obtain ⟨hi4, h⟩ := ck_e h
    refine q_iald F hE hB po_22 hi4 dX4_dropLast_29 ?_
    obtain ⟨hi5, h⟩ := ck_e h
    refine q_aldA F hE hB po_24 hi5 dX4_dropLast_30 ?_
    refine lv_aload_n F.1 F.2.1 dX4_dropLast_31 rfl (lv_at hl 0 rfl) ?_
    refine gf_RX4_15 F hE hB po_21 rfl dX4_dropLast_32 ?_
    refine lv_aload_n F.1 F.2.1 dX4_dropLast_35 rfl (lv_at hl 0 rfl) ?_
    refine gf_RX4_27 F hE hB po_21 rfl dX4_dropLast_36 ?_
    obtain ⟨hi6, h⟩ := ck_e h
    refine q_iald F hE hB po_23 hi6 dX4_dropLast_39 ?_
    refine lv_dup2_11 F.1 F.2.1 dX4_dropLast_40 rfl rfl ?_
    obtain ⟨hi7, h⟩ := ck_e h
    refine q_iald F hE hB (po_row (cr_row hi5)) hi7 dX4_dropLast_41 ?_
    refine lv_iconst (v := 1) F.1 F.2.1 dX4_dropLast_42 (by decide) ?_
    refine lv_isub F.1 F.2.1 dX4_dropLast_43 ?_
    obtain ⟨hi8, h⟩ := ck_e h
    obtain ⟨σ9, e10, h⟩ := lt_e h
    refine q_iast F hE hI hB (cr_row hi5) hi8 dX4_dropLast_44 e10 (fun H locs hB => ?_)
    exact q_vret F hlocks hr hB (Option.some.inj h) dX4_dropLast_45
def f_X4_carryOnly_b26 : Nat → Mem → Int32 → Int32 → Option (Mem)
  | 0, _, _, _ => none
  | n26 + 1, σ0, x1, x2 => (if (σ0.1 21 3) ≤ x2 then (some σ0) else (ck x2 8 (ck (σ0.1 22 x2.toNatClampNeg) 8 (ck x2 8 (ck (σ0.1 23 x2.toNatClampNeg) 6 (ck (σ0.1 23 x2.toNatClampNeg) 6 (lt (ms σ0 (25 + (σ0.1 22 x2.toNatClampNeg).toNatClampNeg) (σ0.1 23 x2.toNatClampNeg).toNatClampNeg ((σ0.1 (25 + (σ0.1 22 x2.toNatClampNeg).toNatClampNeg) (σ0.1 23 x2.toNatClampNeg).toNatClampNeg) + ((x1 >>> (x2 &&& 31)) &&& (1 : Int32)))) (fun σ8 => (f_X4_carryOnly_b26 n26 σ8 x1 (x2 + (1 : Int32)))))))))))
def f_X4_carryOnly_b2 : Nat → Mem → Int32 → Int32 → Option (Mem)
  | 0, _, _, _ => none
  | n2 + 1, σ0, x1, x2 => (if (8 : Int32) ≤ x2 then (f_X4_carryOnly_b26 300 σ0 x1 (0 : Int32)) else (ck x2 8 (bv (f_J7_fill_53178 σ0 (25 + x2.toNatClampNeg) 6 (0 : Int32)) (fun σ12 => (f_X4_carryOnly_b2 n2 σ12 x1 (x2 + (1 : Int32)))))))
def f_X4_carryOnly (σ0 : Mem) (a1 : Int32) : Option (Mem) := (f_X4_carryOnly_b2 300 σ0 a1 (0 : Int32))
set_option maxHeartbeats 4000000 in
set_option maxRecDepth 100000 in
theorem k_X4_carryOnly {l : Launch} {D : va_G} {cy : Nat → ClassId} {ad : Nat → Nat} {ta tb : Nat} (hI : AdI ad) (σ0 : Mem) (a1 : Int32) {o : Mem} (h : f_X4_carryOnly σ0 a1 = some o) : Met l yX4_carryOnly (Cond.code yX4_carryOnly cX4_carryOnly 3 none :: wG) rm_X4_carryOnly (CP D cy ad ta tb σ0 [.ref (ad 21), .int a1]) (CQv D cy ad o) 0 0 (AA ad) := by
  refine Met.ofW (cc := cX4_carryOnly) (maxL := 3) (ret := none) (by decide) rfl ?_
  intro p e s m args below meth c s₁ B hml hv
  obtain ⟨rfl, hE, hP⟩ := hv
  have hts := atoms_spec (ws := Cond.code yX4_carryOnly cX4_carryOnly 3 none :: wG) B.pre
  have F : CallFix p m c cX4_carryOnly 3 s _ wG RX4 := ⟨B.exec, B.bytes, hml, findClass_of_methodNamed B.named, fun w hw => hts w (List.mem_cons_of_mem _ hw)⟩
  have hr := B.returns
  have hlocks := B.notSynchronized
  have hB : Bd D cy ad σ0 s.heap s.heap [] := ⟨hP, va_S.rf⟩
  have hl := lv_entry ([.ref (ad 21), .int a1] : List Value) (n := 3) (Nat.le_of_ble_eq_true rfl)
  rw [lg_entry_eq]
  generalize (lg_sl ([.ref (ad 21), .int a1] : List Value) ++ List.replicate (3 - (lg_sl ([.ref (ad 21), .int a1] : List Value)).length) Slot.unset).toArray = ls at hl ⊢
  have hl : lv_has ls 3 [(0, .ref (ad 21)), (1, .int a1)] := hl
  have B26 : ∀ (n26 : Nat) (σ0 : Mem) (H : Heap) (locs : List Loc) (ls : Array Slot) (x1 : Int32) (x2 : Int32), f_X4_carryOnly_b26 n26 σ0 x1 x2 = some o → Bd D cy ad σ0 s.heap H locs → lv_has ls 3 [(0, .ref (ad 21)), (1, .int x1), (2, .int x2)] → W p l e rm_X4_carryOnly s m ([.ref (ad 21), .int a1] : List Value).toArray below meth c H locs 0 0 (MQ below (CQv D cy ad o) ([.ref (ad 21), .int a1] : List Value).toArray s 0 0 (AA ad)) (F0 m 26 ls []) := by
    intro n26
    induction n26 with
    | zero => intro σ0 H locs ls x1 x2 h hB hl; cases h
    | succ n26 ih26 =>
      intro σ0 H locs ls x1 x2 h hB hl
      rw [f_X4_carryOnly_b26] at h
      refine lv_iload_n F.1 F.2.1 dX4_carryOnly_26 rfl (lv_at hl 2 rfl) ?_
      refine lv_aload_n F.1 F.2.1 dX4_carryOnly_27 rfl (lv_at hl 0 rfl) ?_
      refine gf_RX4_27 F hE hB po_21 rfl dX4_carryOnly_28 ?_
      refine lv_icmp_ge (tgt := 66) F.1 F.2.1 dX4_carryOnly_31 (by decide) (fun c2 => ?_) (fun c2 => ?_)
      · replace h := it_e c2 h
        exact q_vret F hlocks hr hB (Option.some.inj h) dX4_carryOnly_66
      · replace h := ie_e c2 h
        refine lv_aload_n F.1 F.2.1 dX4_carryOnly_34 rfl (lv_at hl 0 rfl) ?_
        refine gf_RX4_20 F hE hB po_21 rfl dX4_carryOnly_35 ?_
        refine lv_aload_n F.1 F.2.1 dX4_carryOnly_38 rfl (lv_at hl 0 rfl) ?_
        refine gf_RX4_9 F hE hB po_21 rfl dX4_carryOnly_39 ?_
        refine lv_iload_n F.1 F.2.1 dX4_carryOnly_42 rfl (lv_at hl 2 rfl) ?_
        obtain ⟨hi3, h⟩ := ck_e h
        refine q_iald F hE hB po_22 hi3 dX4_carryOnly_43 ?_
        obtain ⟨hi4, h⟩ := ck_e h
        refine q_aldA F hE hB po_24 hi4 dX4_carryOnly_44 ?_
        refine lv_aload_n F.1 F.2.1 dX4_carryOnly_45 rfl (lv_at hl 0 rfl) ?_
        refine gf_RX4_15 F hE hB po_21 rfl dX4_carryOnly_46 ?_
        refine lv_iload_n F.1 F.2.1 dX4_carryOnly_49 rfl (lv_at hl 2 rfl) ?_
        obtain ⟨hi5, h⟩ := ck_e h
        refine q_iald F hE hB po_23 hi5 dX4_carryOnly_50 ?_
        refine lv_dup2_11 F.1 F.2.1 dX4_carryOnly_51 rfl rfl ?_
        obtain ⟨hi6, h⟩ := ck_e h
        refine q_iald F hE hB (po_row (cr_row hi4)) hi6 dX4_carryOnly_52 ?_
        refine lv_iload_n F.1 F.2.1 dX4_carryOnly_53 rfl (lv_at hl 1 rfl) ?_
        refine lv_iload_n F.1 F.2.1 dX4_carryOnly_54 rfl (lv_at hl 2 rfl) ?_
        refine lv_ishr F.1 F.2.1 dX4_carryOnly_55 ?_
        refine lv_iconst (v := 1) F.1 F.2.1 dX4_carryOnly_56 (by decide) ?_
        refine lv_iand F.1 F.2.1 dX4_carryOnly_57 ?_
        refine lv_iadd F.1 F.2.1 dX4_carryOnly_58 ?_
        obtain ⟨hi7, h⟩ := ck_e h
        obtain ⟨σ8, e9, h⟩ := lt_e h
        refine q_iast F hE hI hB (cr_row hi4) hi7 dX4_carryOnly_59 e9 (fun H locs hB => ?_)
        refine lv_iinc (v := (x2 + (1 : Int32))) (lv' := [(2, .int (x2 + (1 : Int32))), (0, .ref (ad 21)), (1, .int x1)]) F.1 F.2.1 dX4_carryOnly_60 hl (k := 2) rfl rfl (by decide) rfl (fun ls hl => ?_)
        refine lv_goto (tgt := 26) F.1 F.2.1 dX4_carryOnly_63 (by decide) ?_
        exact ih26 σ8 _ _ _ x1 (x2 + (1 : Int32)) h hB (lv_sub hl [1, 2, 0] rfl)
  have B2 : ∀ (n2 : Nat) (σ0 : Mem) (H : Heap) (locs : List Loc) (ls : Array Slot) (x1 : Int32) (x2 : Int32), f_X4_carryOnly_b2 n2 σ0 x1 x2 = some o → Bd D cy ad σ0 s.heap H locs → lv_has ls 3 [(0, .ref (ad 21)), (1, .int x1), (2, .int x2)] → W p l e rm_X4_carryOnly s m ([.ref (ad 21), .int a1] : List Value).toArray below meth c H locs 0 0 (MQ below (CQv D cy ad o) ([.ref (ad 21), .int a1] : List Value).toArray s 0 0 (AA ad)) (F0 m 2 ls []) := by
    intro n2
    induction n2 with
    | zero => intro σ0 H locs ls x1 x2 h hB hl; cases h
    | succ n2 ih2 =>
      intro σ0 H locs ls x1 x2 h hB hl
      rw [f_X4_carryOnly_b2] at h
      refine lv_iload_n F.1 F.2.1 dX4_carryOnly_2 rfl (lv_at hl 2 rfl) ?_
      refine lv_bipush (v := 8) F.1 F.2.1 dX4_carryOnly_3 (by decide) ?_
      refine lv_icmp_ge (tgt := 24) F.1 F.2.1 dX4_carryOnly_5 (by decide) (fun c1 => ?_) (fun c1 => ?_)
      · replace h := it_e c1 h
        refine lv_iconst (v := 0) F.1 F.2.1 dX4_carryOnly_24 (by decide) ?_
        refine lv_istore_n (lv' := [(2, .int (0 : Int32)), (0, .ref (ad 21)), (1, .int x1)]) F.1 F.2.1 dX4_carryOnly_25 rfl hl (by decide) rfl (fun ls hl => ?_)
        exact B26 300 σ0 _ _ _ x1 (0 : Int32) h hB (lv_sub hl [1, 2, 0] rfl)
      · replace h := ie_e c1 h
        refine lv_aload_n F.1 F.2.1 dX4_carryOnly_8 rfl (lv_at hl 0 rfl) ?_
        refine gf_RX4_20 F hE hB po_21 rfl dX4_carryOnly_9 ?_
        refine lv_iload_n F.1 F.2.1 dX4_carryOnly_12 rfl (lv_at hl 2 rfl) ?_
        obtain ⟨hi10, h⟩ := ck_e h
        refine q_aldA F hE hB po_24 hi10 dX4_carryOnly_13 ?_
        refine lv_iconst (v := 0) F.1 F.2.1 dX4_carryOnly_14 (by decide) ?_
        obtain ⟨σ12, hc11, h⟩ := bv_e h
        refine q_cv hB (q_goS F hE hB (k_J7_fill_53178 hI σ0 (25 + x2.toNatClampNeg) 6 (cr_row hi10) (0 : Int32) hc11) (ca_RX4_42 F.2.2.2.2 ⟨Nat.le_of_ble_eq_true rfl, Nat.le_of_ble_eq_true rfl⟩) rfl hl.1 rfl (Nat.le_of_ble_eq_true rfl) dX4_carryOnly_15 ⟨Nat.le_of_ble_eq_true rfl, Nat.le_of_ble_eq_true rfl⟩) (fun H locs hB => ?_)
        refine lv_iinc (v := (x2 + (1 : Int32))) (lv' := [(2, .int (x2 + (1 : Int32))), (0, .ref (ad 21)), (1, .int x1)]) F.1 F.2.1 dX4_carryOnly_18 hl (k := 2) rfl rfl (by decide) rfl (fun ls hl => ?_)
        refine lv_goto (tgt := 2) F.1 F.2.1 dX4_carryOnly_21 (by decide) ?_
        exact ih2 σ12 _ _ _ x1 (x2 + (1 : Int32)) h hB (lv_sub hl [1, 2, 0] rfl)
  unfold f_X4_carryOnly at h
  refine lv_iconst (v := 0) F.1 F.2.1 dX4_carryOnly_0 (by decide) ?_
  refine lv_istore_n (lv' := [(2, .int (0 : Int32)), (0, .ref (ad 21)), (1, .int a1)]) F.1 F.2.1 dX4_carryOnly_1 rfl hl (by decide) rfl (fun ls hl => ?_)
  exact B2 300 σ0 _ _ _ a1 (0 : Int32) h hB (lv_sub hl [1, 2, 0] rfl)
def f_X4_carryAll (σ0 : Mem) : Option (Mem) := (bv (f_X4_carryOnly σ0 (255 : Int32)) (fun σ2 => (some σ2)))
set_option maxHeartbeats 4000000 in
set_option maxRecDepth 100000 in
theorem k_X4_carryAll {l : Launch} {D : va_G} {cy : Nat → ClassId} {ad : Nat → Nat} {ta tb : Nat} (hI : AdI ad) (σ0 : Mem) {o : Mem} (h : f_X4_carryAll σ0 = some o) : Met l yX4_carryAll (Cond.code yX4_carryAll cX4_carryAll 1 none :: wG) rm_X4_carryAll (CP D cy ad ta tb σ0 [.ref (ad 21)]) (CQv D cy ad o) 0 0 (AA ad) := by
  refine Met.ofW (cc := cX4_carryAll) (maxL := 1) (ret := none) (by decide) rfl ?_
  intro p e s m args below meth c s₁ B hml hv
  obtain ⟨rfl, hE, hP⟩ := hv
  have hts := atoms_spec (ws := Cond.code yX4_carryAll cX4_carryAll 1 none :: wG) B.pre
  have F : CallFix p m c cX4_carryAll 1 s _ wG RX4 := ⟨B.exec, B.bytes, hml, findClass_of_methodNamed B.named, fun w hw => hts w (List.mem_cons_of_mem _ hw)⟩
  have hr := B.returns
  have hlocks := B.notSynchronized
  have hB : Bd D cy ad σ0 s.heap s.heap [] := ⟨hP, va_S.rf⟩
  have hl := lv_entry ([.ref (ad 21)] : List Value) (n := 1) (Nat.le_of_ble_eq_true rfl)
  rw [lg_entry_eq]
  generalize (lg_sl ([.ref (ad 21)] : List Value) ++ List.replicate (1 - (lg_sl ([.ref (ad 21)] : List Value)).length) Slot.unset).toArray = ls at hl ⊢
  have hl : lv_has ls 1 [(0, .ref (ad 21))] := hl
  unfold f_X4_carryAll at h
  refine lv_aload_n F.1 F.2.1 dX4_carryAll_0 rfl (lv_at hl 0 rfl) ?_
  refine lv_sipush (v := 255) F.1 F.2.1 dX4_carryAll_1 (by decide) ?_
  obtain ⟨σ2, hc1, h⟩ := bv_e h
  refine q_cv hB (q_goV F hE hB (k_X4_carryOnly hI σ0 (255 : Int32) hc1) (ca_RX4_38 F.2.2.2.2 ⟨Nat.le_of_ble_eq_true rfl, Nat.le_of_ble_eq_true rfl⟩) rfl po_21 rfl hl.1 rfl (Nat.le_of_ble_eq_true rfl) dX4_carryAll_4 ⟨Nat.le_of_ble_eq_true rfl, Nat.le_of_ble_eq_true rfl⟩) (fun H locs hB => ?_)
  exact q_vret F hlocks hr hB (Option.some.inj h) dX4_carryAll_7
