def f_X9_read_b117 (σ0 : Mem) (x3 : Int32) : Option (Int32 × Mem) := (bv (f_X9_resail σ0) (fun σ8 => (some (((σ8.1 21 3) - x3), σ8))))
def f_X9_read_b42 : Nat → Mem → Nat → Int32 → Int32 → Option (Int32 × Mem)
  | 0, _, _, _, _ => none
  | n42 + 1, σ0, r2, x3, x4 => (if (σ0.1 r2 2) ≤ (x4 + (1 : Int32)) then (f_X9_read_b117 σ0 x3) else (bp (f_X4_isFull σ0) (fun v10 => (if v10 = (0 : Int32) then (ck x4 60 (ck (x4 + (1 : Int32)) 60 (bp (f_X4_mayBe σ0 (σ0.1 (r2 + 1) x4.toNatClampNeg) (σ0.1 (r2 + 1) (x4 + (1 : Int32)).toNatClampNeg)) (fun v15 => (if v15 = (0 : Int32) then (f_X9_read_b117 σ0 x3) else (ck x4 60 (ck (x4 + (1 : Int32)) 60 (bv (f_X4_append σ0 (σ0.1 (r2 + 1) x4.toNatClampNeg) (σ0.1 (r2 + 1) (x4 + (1 : Int32)).toNatClampNeg)) (fun σ20 => (f_X9_read_b42 n42 σ20 r2 x3 (x4 + (2 : Int32)))))))))))) else (f_X9_read_b117 σ0 x3)))))
def f_X9_read (σ0 : Mem) (a1 : Int32) : Option (Int32 × Mem) := (bp (f_X9_isWithin σ0 a1 (4 : Int32)) (fun v2 => (if v2 = (0 : Int32) then (some ((-2 : Int32), σ0)) else (ck a1 4 (if (σ0.1 (38 + 2 * a1.toNatClampNeg) 3) = (0 : Int32) then (f_X9_read_b42 300 σ0 (38 + 2 * a1.toNatClampNeg) (σ0.1 21 3) (0 : Int32)) else (bi (f_X9_find σ0 (1 : Int32)) (fun v23 σ22 => (some (v23, σ22)))))))))
set_option maxHeartbeats 4000000 in
set_option maxRecDepth 100000 in
theorem k_X9_read {l : Launch} {D : va_G} {cy : Nat → ClassId} {ad : Nat → Nat} {ta tb : Nat} (hI : AdI ad) (σ0 : Mem) (a1 : Int32) {o : Int32 × Mem} (h : f_X9_read σ0 a1 = some o) : Met l yX9_read (Cond.code yX9_read cX9_read 5 (some .int) :: wG) rm_X9_read (CP D cy ad ta tb σ0 [.ref (ad 0), .int a1]) (CQi D cy ad o.1 o.2) 0 0 (AA ad) := by
  refine Met.ofW (cc := cX9_read) (maxL := 5) (ret := (some .int)) (by decide) rfl ?_
  intro p e s m args below meth c s₁ B hml hv
  obtain ⟨rfl, hE, hP⟩ := hv
  have hts := atoms_spec (ws := Cond.code yX9_read cX9_read 5 (some .int) :: wG) B.pre
  have F : CallFix p m c cX9_read 5 s _ wG RX9 := ⟨B.exec, B.bytes, hml, findClass_of_methodNamed B.named, fun w hw => hts w (List.mem_cons_of_mem _ hw)⟩
  have hr := B.returns
  have hlocks := B.notSynchronized
  have hB : Bd D cy ad σ0 s.heap s.heap [] := ⟨hP, va_S.rf⟩
  have hl := lv_entry ([.ref (ad 0), .int a1] : List Value) (n := 5) (Nat.le_of_ble_eq_true rfl)
  rw [lg_entry_eq]
  generalize (lg_sl ([.ref (ad 0), .int a1] : List Value) ++ List.replicate (5 - (lg_sl ([.ref (ad 0), .int a1] : List Value)).length) Slot.unset).toArray = ls at hl ⊢
  have hl : lv_has ls 5 [(0, .ref (ad 0)), (1, .int a1)] := hl
  have B117 : ∀ (σ0 : Mem) (H : Heap) (locs : List Loc) (ls : Array Slot) (x3 : Int32), f_X9_read_b117 σ0 x3 = some o → Bd D cy ad σ0 s.heap H locs → lv_has ls 5 [(0, .ref (ad 0)), (3, .int x3)] → W p l e rm_X9_read s m ([.ref (ad 0), .int a1] : List Value).toArray below meth c H locs 0 0 (MQ below (CQi D cy ad o.1 o.2) ([.ref (ad 0), .int a1] : List Value).toArray s 0 0 (AA ad)) (F0 m 117 ls []) := by
    intro σ0 H locs ls x3 h hB hl
    unfold f_X9_read_b117 at h
    refine lv_aload_n F.1 F.2.1 dX9_read_117 rfl (lv_at hl 0 rfl) ?_
    obtain ⟨σ8, hc7, h⟩ := bv_e h
    refine q_cv hB (q_goV F hE hB (k_X9_resail hI σ0 hc7) (ca_RX9_131 F.2.2.2.2 ⟨Nat.le_of_ble_eq_true rfl, Nat.le_of_ble_eq_true rfl⟩) rfl po_0 rfl hl.1 rfl (Nat.le_of_ble_eq_true rfl) dX9_read_118 ⟨Nat.le_of_ble_eq_true rfl, Nat.le_of_ble_eq_true rfl⟩) (fun H locs hB => ?_)
    refine lv_aload_n F.1 F.2.1 dX9_read_121 rfl (lv_at hl 0 rfl) ?_
    refine gf_RX9_32 F hE hB po_0 rfl dX9_read_122 ?_
    refine gf_RX9_134 F hE hB po_21 rfl dX9_read_125 ?_
    refine lv_iload_n F.1 F.2.1 dX9_read_128 rfl (lv_at hl 1 rfl) ?_
    refine lv_isub F.1 F.2.1 dX9_read_129 ?_
    exact q_iret F hlocks hr hB (so1 h) (so2 h) dX9_read_130
  have B42 : ∀ (n42 : Nat) (σ0 : Mem) (H : Heap) (locs : List Loc) (ls : Array Slot) (r2 : Nat) (x3 : Int32) (x4 : Int32) (hr2 : isSheet r2), f_X9_read_b42 n42 σ0 r2 x3 x4 = some o → Bd D cy ad σ0 s.heap H locs → lv_has ls 5 [(0, .ref (ad 0)), (2, .ref (ad r2)), (3, .int x3), (4, .int x4)] → W p l e rm_X9_read s m ([.ref (ad 0), .int a1] : List Value).toArray below meth c H locs 0 0 (MQ below (CQi D cy ad o.1 o.2) ([.ref (ad 0), .int a1] : List Value).toArray s 0 0 (AA ad)) (F0 m 42 ls []) := by
    intro n42
    induction n42 with
    | zero => intro σ0 H locs ls r2 x3 x4 hr2 h hB hl; cases h
    | succ n42 ih42 =>
      intro σ0 H locs ls r2 x3 x4 hr2 h hB hl
      rw [f_X9_read_b42] at h
      refine lv_iload F.1 F.2.1 dX9_read_42 (lv_at hl 3 rfl) ?_
      refine lv_iconst (v := 1) F.1 F.2.1 dX9_read_44 (by decide) ?_
      refine lv_iadd F.1 F.2.1 dX9_read_45 ?_
      refine lv_aload_n F.1 F.2.1 dX9_read_46 rfl (lv_at hl 1 rfl) ?_
      refine gf_RX9_146 F hE hB (po_Sheet hr2) rfl dX9_read_47 ?_
      refine lv_icmp_ge (tgt := 117) F.1 F.2.1 dX9_read_50 (by decide) (fun c6 => ?_) (fun c6 => ?_)
      · replace h := it_e c6 h
        exact B117 σ0 _ _ _ x3 h hB (lv_sub hl [0, 2] rfl)
      · replace h := ie_e c6 h
        refine lv_aload_n F.1 F.2.1 dX9_read_53 rfl (lv_at hl 0 rfl) ?_
        refine gf_RX9_32 F hE hB po_0 rfl dX9_read_54 ?_
        obtain ⟨v10, hc9, h⟩ := bp_e h
        refine q_ci hB (q_goV F hE hB (k_X4_isFull hI σ0 hc9) (ca_RX9_127 F.2.2.2.2 ⟨Nat.le_of_ble_eq_true rfl, Nat.le_of_ble_eq_true rfl⟩) rfl po_21 rfl hl.1 rfl (Nat.le_of_ble_eq_true rfl) dX9_read_57 ⟨Nat.le_of_ble_eq_true rfl, Nat.le_of_ble_eq_true rfl⟩) (fun H locs hB => ?_)
        refine lv_if_ne (tgt := 117) F.1 F.2.1 dX9_read_60 (by decide) (fun c11 => ?_) (fun c11 => ?_)
        · replace h := ie_e c11 h
          exact B117 σ0 _ _ _ x3 h hB (lv_sub hl [0, 2] rfl)
        · replace h := it_e c11 h
          refine lv_aload_n F.1 F.2.1 dX9_read_63 rfl (lv_at hl 1 rfl) ?_
          refine gf_RX9_147 F hE hB (po_Sheet hr2) rfl dX9_read_64 ?_
          refine lv_iload F.1 F.2.1 dX9_read_67 (lv_at hl 3 rfl) ?_
          obtain ⟨hi12, h⟩ := ck_e h
          refine q_iald F hE hB (po_row (row_Sheet_1 hr2)) hi12 dX9_read_69 ?_
          refine lv_aload_n F.1 F.2.1 dX9_read_70 rfl (lv_at hl 1 rfl) ?_
          refine gf_RX9_147 F hE hB (po_Sheet hr2) rfl dX9_read_71 ?_
          refine lv_iload F.1 F.2.1 dX9_read_74 (lv_at hl 3 rfl) ?_
          refine lv_iconst (v := 1) F.1 F.2.1 dX9_read_76 (by decide) ?_
          refine lv_iadd F.1 F.2.1 dX9_read_77 ?_
          obtain ⟨hi13, h⟩ := ck_e h
          refine q_iald F hE hB (po_row (row_Sheet_1 hr2)) hi13 dX9_read_78 ?_
          obtain ⟨v15, hc14, h⟩ := bp_e h
          refine q_ci hB (q_goS F hE hB (k_X4_mayBe hI σ0 (σ0.1 (r2 + 1) x4.toNatClampNeg) (σ0.1 (r2 + 1) (x4 + (1 : Int32)).toNatClampNeg) hc14) (ca_RX9_124 F.2.2.2.2 ⟨Nat.le_of_ble_eq_true rfl, Nat.le_of_ble_eq_true rfl⟩) rfl hl.1 rfl (Nat.le_of_ble_eq_true rfl) dX9_read_79 ⟨Nat.le_of_ble_eq_true rfl, Nat.le_of_ble_eq_true rfl⟩) (fun H locs hB => ?_)
          refine lv_if_ne (tgt := 88) F.1 F.2.1 dX9_read_82 (by decide) (fun c16 => ?_) (fun c16 => ?_)
          · replace h := ie_e c16 h
            refine lv_aload_n F.1 F.2.1 dX9_read_88 rfl (lv_at hl 0 rfl) ?_
            refine gf_RX9_32 F hE hB po_0 rfl dX9_read_89 ?_
            refine lv_aload_n F.1 F.2.1 dX9_read_92 rfl (lv_at hl 1 rfl) ?_
            refine gf_RX9_147 F hE hB (po_Sheet hr2) rfl dX9_read_93 ?_
            refine lv_iload F.1 F.2.1 dX9_read_96 (lv_at hl 3 rfl) ?_
            obtain ⟨hi17, h⟩ := ck_e h
            refine q_iald F hE hB (po_row (row_Sheet_1 hr2)) hi17 dX9_read_98 ?_
            refine lv_aload_n F.1 F.2.1 dX9_read_99 rfl (lv_at hl 1 rfl) ?_
            refine gf_RX9_147 F hE hB (po_Sheet hr2) rfl dX9_read_100 ?_
            refine lv_iload F.1 F.2.1 dX9_read_103 (lv_at hl 3 rfl) ?_
            refine lv_iconst (v := 1) F.1 F.2.1 dX9_read_105 (by decide) ?_
            refine lv_iadd F.1 F.2.1 dX9_read_106 ?_
            obtain ⟨hi18, h⟩ := ck_e h
            refine q_iald F hE hB (po_row (row_Sheet_1 hr2)) hi18 dX9_read_107 ?_
            obtain ⟨σ20, hc19, h⟩ := bv_e h
            refine q_cv hB (q_goV F hE hB (k_X4_append hI σ0 (σ0.1 (r2 + 1) x4.toNatClampNeg) (σ0.1 (r2 + 1) (x4 + (1 : Int32)).toNatClampNeg) hc19) (ca_RX9_128 F.2.2.2.2 ⟨Nat.le_of_ble_eq_true rfl, Nat.le_of_ble_eq_true rfl⟩) rfl po_21 rfl hl.1 rfl (Nat.le_of_ble_eq_true rfl) dX9_read_108 ⟨Nat.le_of_ble_eq_true rfl, Nat.le_of_ble_eq_true rfl⟩) (fun H locs hB => ?_)
            refine lv_iinc (v := (x4 + (2 : Int32))) (lv' := [(4, .int (x4 + (2 : Int32))), (0, .ref (ad 0)), (2, .ref (ad r2)), (3, .int x3)]) F.1 F.2.1 dX9_read_111 hl (k := 3) rfl rfl (by decide) rfl (fun ls hl => ?_)
            refine lv_goto (tgt := 42) F.1 F.2.1 dX9_read_114 (by decide) ?_
            exact ih42 σ20 _ _ _ r2 x3 (x4 + (2 : Int32)) hr2 h hB (lv_sub hl [1, 2, 3, 0] rfl)
          · replace h := it_e c16 h
            refine lv_goto (tgt := 117) F.1 F.2.1 dX9_read_85 (by decide) ?_
            exact B117 σ0 _ _ _ x3 h hB (lv_sub hl [0, 2] rfl)
  unfold f_X9_read at h
  refine lv_iload_n F.1 F.2.1 dX9_read_0 rfl (lv_at hl 1 rfl) ?_
  refine lv_iconst (v := 4) F.1 F.2.1 dX9_read_1 (by decide) ?_
  obtain ⟨v2, hc1, h⟩ := bp_e h
  refine q_ci hB (q_goS F hE hB (k_X9_isWithin hI σ0 a1 (4 : Int32) hc1) (ca_RX9_84 F.2.2.2.2 ⟨Nat.le_of_ble_eq_true rfl, Nat.le_of_ble_eq_true rfl⟩) rfl hl.1 rfl (Nat.le_of_ble_eq_true rfl) dX9_read_2 ⟨Nat.le_of_ble_eq_true rfl, Nat.le_of_ble_eq_true rfl⟩) (fun H locs hB => ?_)
  refine lv_if_ne (tgt := 11) F.1 F.2.1 dX9_read_5 (by decide) (fun c3 => ?_) (fun c3 => ?_)
  · replace h := ie_e c3 h
    refine lv_aload_n F.1 F.2.1 dX9_read_11 rfl (lv_at hl 0 rfl) ?_
    refine gf_RX9_45 F hE hB po_0 rfl dX9_read_12 ?_
    refine lv_iload_n F.1 F.2.1 dX9_read_15 rfl (lv_at hl 1 rfl) ?_
    obtain ⟨hi4, h⟩ := ck_e h
    refine q_aldq (t0 := 3) F hE hB po_37 rfl hi4 dX9_read_16 ?_
    refine lv_astore_n (lv' := [(2, .ref (ad (38 + 2 * a1.toNatClampNeg))), (0, .ref (ad 0)), (1, .int a1)]) F.1 F.2.1 dX9_read_17 rfl hl (by decide) rfl (fun ls hl => ?_)
    refine lv_aload_n F.1 F.2.1 dX9_read_18 rfl (lv_at hl 0 rfl) ?_
    refine gf_RX9_138 F hE hB (po_Sheet (sh_role hi4)) rfl dX9_read_19 ?_
    refine lv_if_eq (tgt := 31) F.1 F.2.1 dX9_read_22 (by decide) (fun c5 => ?_) (fun c5 => ?_)
    · replace h := it_e c5 h
      refine lv_aload_n F.1 F.2.1 dX9_read_31 rfl (lv_at hl 1 rfl) ?_
      refine gf_RX9_32 F hE hB po_0 rfl dX9_read_32 ?_
      refine gf_RX9_134 F hE hB po_21 rfl dX9_read_35 ?_
      refine lv_istore_n (lv' := [(3, .int (σ0.1 21 3)), (2, .ref (ad (38 + 2 * a1.toNatClampNeg))), (0, .ref (ad 0)), (1, .int a1)]) F.1 F.2.1 dX9_read_38 rfl hl (by decide) rfl (fun ls hl => ?_)
      refine lv_iconst (v := 0) F.1 F.2.1 dX9_read_39 (by decide) ?_
      refine lv_istore (lv' := [(4, .int (0 : Int32)), (3, .int (σ0.1 21 3)), (2, .ref (ad (38 + 2 * a1.toNatClampNeg))), (0, .ref (ad 0)), (1, .int a1)]) F.1 F.2.1 dX9_read_40 hl (by decide) rfl (fun ls hl => ?_)
      exact B42 300 σ0 _ _ _ (38 + 2 * a1.toNatClampNeg) (σ0.1 21 3) (0 : Int32) (sh_role hi4) h hB (lv_sub hl [3, 2, 1, 0] rfl)
    · replace h := ie_e c5 h
      refine lv_aload_n F.1 F.2.1 dX9_read_25 rfl (lv_at hl 1 rfl) ?_
      refine lv_iconst (v := 1) F.1 F.2.1 dX9_read_26 (by decide) ?_
      obtain ⟨v23, σ22, hc21, h⟩ := bi_e h
      refine q_ci hB (q_goV F hE hB (k_X9_find hI σ0 (1 : Int32) hc21) (ca_RX9_142 F.2.2.2.2 ⟨Nat.le_of_ble_eq_true rfl, Nat.le_of_ble_eq_true rfl⟩) rfl po_0 rfl hl.1 rfl (Nat.le_of_ble_eq_true rfl) dX9_read_27 ⟨Nat.le_of_ble_eq_true rfl, Nat.le_of_ble_eq_true rfl⟩) (fun H locs hB => ?_)
      exact q_iret F hlocks hr hB (so1 h) (so2 h) dX9_read_30
  · replace h := it_e c3 h
    refine lv_bipush (v := (-2)) F.1 F.2.1 dX9_read_8 (by decide) ?_
    exact q_iret F hlocks hr hB (so1 h) (so2 h) dX9_read_10
def f_X9_lifts (σ0 : Mem) (a1 : Int32) (a2 : Int32) : Option (Int32) := (bp (f_X9_isBridge σ0 a1) (fun v2 => (if v2 = (0 : Int32) then (some (-2 : Int32)) else (bp (f_X9_isBoat σ0 a2) (fun v5 => (if v5 = (0 : Int32) then (some (-2 : Int32)) else (bp (f_X8_isLifted σ0 46 a1 a2) (fun v8 => (if v8 = (0 : Int32) then (some (0 : Int32)) else (some (1 : Int32)))))))))))
set_option maxHeartbeats 4000000 in
set_option maxRecDepth 100000 in
theorem k_X9_lifts {l : Launch} {D : va_G} {cy : Nat → ClassId} {ad : Nat → Nat} {ta tb : Nat} (hI : AdI ad) (σ0 : Mem) (a1 : Int32) (a2 : Int32) {o : Int32} (h : f_X9_lifts σ0 a1 a2 = some o) : Met l yX9_lifts (Cond.code yX9_lifts cX9_lifts 3 (some .int) :: wG) rm_X9_lifts (CP D cy ad ta tb σ0 [.ref (ad 0), .int a1, .int a2]) (CQi D cy ad o σ0) 0 0 (AA ad) := by
  refine Met.ofW (cc := cX9_lifts) (maxL := 3) (ret := (some .int)) (by decide) rfl ?_
  intro p e s m args below meth c s₁ B hml hv
  obtain ⟨rfl, hE, hP⟩ := hv
  have hts := atoms_spec (ws := Cond.code yX9_lifts cX9_lifts 3 (some .int) :: wG) B.pre
  have F : CallFix p m c cX9_lifts 3 s _ wG RX9 := ⟨B.exec, B.bytes, hml, findClass_of_methodNamed B.named, fun w hw => hts w (List.mem_cons_of_mem _ hw)⟩
  have hr := B.returns
  have hlocks := B.notSynchronized
  have hB : Bd D cy ad σ0 s.heap s.heap [] := ⟨hP, va_S.rf⟩
  have hl := lv_entry ([.ref (ad 0), .int a1, .int a2] : List Value) (n := 3) (Nat.le_of_ble_eq_true rfl)
  rw [lg_entry_eq]
  generalize (lg_sl ([.ref (ad 0), .int a1, .int a2] : List Value) ++ List.replicate (3 - (lg_sl ([.ref (ad 0), .int a1, .int a2] : List Value)).length) Slot.unset).toArray = ls at hl ⊢
  have hl : lv_has ls 3 [(0, .ref (ad 0)), (1, .int a1), (2, .int a2)] := hl
  unfold f_X9_lifts at h
  refine lv_aload_n F.1 F.2.1 dX9_lifts_0 rfl (lv_at hl 0 rfl) ?_
  refine lv_iload_n F.1 F.2.1 dX9_lifts_1 rfl (lv_at hl 1 rfl) ?_
  obtain ⟨v2, hc1, h⟩ := bp_e h
  refine q_ci hB (q_goV F hE hB (k_X9_isBridge hI σ0 a1 hc1) (ca_RX9_106 F.2.2.2.2 ⟨Nat.le_of_ble_eq_true rfl, Nat.le_of_ble_eq_true rfl⟩) rfl po_0 rfl hl.1 rfl (Nat.le_of_ble_eq_true rfl) dX9_lifts_2 ⟨Nat.le_of_ble_eq_true rfl, Nat.le_of_ble_eq_true rfl⟩) (fun H locs hB => ?_)
  refine lv_if_eq (tgt := 16) F.1 F.2.1 dX9_lifts_5 (by decide) (fun c3 => ?_) (fun c3 => ?_)
  · replace h := it_e c3 h
    refine lv_bipush (v := (-2)) F.1 F.2.1 dX9_lifts_16 (by decide) ?_
    exact q_iret F hlocks hr hB (Option.some.inj h) rfl dX9_lifts_18
  · replace h := ie_e c3 h
    refine lv_aload_n F.1 F.2.1 dX9_lifts_8 rfl (lv_at hl 0 rfl) ?_
    refine lv_iload_n F.1 F.2.1 dX9_lifts_9 rfl (lv_at hl 2 rfl) ?_
    obtain ⟨v5, hc4, h⟩ := bp_e h
    refine q_ci hB (q_goV F hE hB (k_X9_isBoat hI σ0 a2 hc4) (ca_RX9_114 F.2.2.2.2 ⟨Nat.le_of_ble_eq_true rfl, Nat.le_of_ble_eq_true rfl⟩) rfl po_0 rfl hl.1 rfl (Nat.le_of_ble_eq_true rfl) dX9_lifts_10 ⟨Nat.le_of_ble_eq_true rfl, Nat.le_of_ble_eq_true rfl⟩) (fun H locs hB => ?_)
    refine lv_if_ne (tgt := 19) F.1 F.2.1 dX9_lifts_13 (by decide) (fun c6 => ?_) (fun c6 => ?_)
    · replace h := ie_e c6 h
      refine lv_aload_n F.1 F.2.1 dX9_lifts_19 rfl (lv_at hl 0 rfl) ?_
      refine gf_RX9_52 F hE hB po_0 rfl dX9_lifts_20 ?_
      refine lv_iload_n F.1 F.2.1 dX9_lifts_23 rfl (lv_at hl 1 rfl) ?_
      refine lv_iload_n F.1 F.2.1 dX9_lifts_24 rfl (lv_at hl 2 rfl) ?_
      obtain ⟨v8, hc7, h⟩ := bp_e h
      refine q_ci hB (q_goV F hE hB (k_X8_isLifted hI σ0 46 (Or.inl rfl) a1 a2 hc7) (ca_RX9_150 F.2.2.2.2 ⟨Nat.le_of_ble_eq_true rfl, Nat.le_of_ble_eq_true rfl⟩) rfl po_46 rfl hl.1 rfl (Nat.le_of_ble_eq_true rfl) dX9_lifts_25 ⟨Nat.le_of_ble_eq_true rfl, Nat.le_of_ble_eq_true rfl⟩) (fun H locs hB => ?_)
      refine lv_if_eq (tgt := 35) F.1 F.2.1 dX9_lifts_28 (by decide) (fun c9 => ?_) (fun c9 => ?_)
      · replace h := it_e c9 h
        refine lv_iconst (v := 0) F.1 F.2.1 dX9_lifts_35 (by decide) ?_
        exact q_iret F hlocks hr hB (Option.some.inj h) rfl dX9_lifts_36
      · replace h := ie_e c9 h
        refine lv_iconst (v := 1) F.1 F.2.1 dX9_lifts_31 (by decide) ?_
        refine lv_goto (tgt := 36) F.1 F.2.1 dX9_lifts_32 (by decide) ?_
        exact q_iret F hlocks hr hB (Option.some.inj h) rfl dX9_lifts_36
    · replace h := it_e c6 h
      refine lv_bipush (v := (-2)) F.1 F.2.1 dX9_lifts_16 (by decide) ?_
      exact q_iret F hlocks hr hB (Option.some.inj h) rfl dX9_lifts_18
def f_X9_at (σ0 : Mem) (a1 : Int32) (a2 : Int32) : Option (Int32) := (bp (f_X9_isWithin σ0 a1 (100 : Int32)) (fun v2 => (if v2 = (0 : Int32) then (some (-2 : Int32)) else (bp (f_X9_isBoat σ0 a2) (fun v5 => (if v5 = (0 : Int32) then (some (-2 : Int32)) else (bp (f_X8_placeOf σ0 46 a1 a2) (fun v8 => (some v8)))))))))
set_option maxHeartbeats 4000000 in
set_option maxRecDepth 100000 in
theorem k_X9_at {l : Launch} {D : va_G} {cy : Nat → ClassId} {ad : Nat → Nat} {ta tb : Nat} (hI : AdI ad) (σ0 : Mem) (a1 : Int32) (a2 : Int32) {o : Int32} (h : f_X9_at σ0 a1 a2 = some o) : Met l yX9_at (Cond.code yX9_at cX9_at 3 (some .int) :: wG) rm_X9_at (CP D cy ad ta tb σ0 [.ref (ad 0), .int a1, .int a2]) (CQi D cy ad o σ0) 0 0 (AA ad) := by
  refine Met.ofW (cc := cX9_at) (maxL := 3) (ret := (some .int)) (by decide) rfl ?_
  intro p e s m args below meth c s₁ B hml hv
  obtain ⟨rfl, hE, hP⟩ := hv
  have hts := atoms_spec (ws := Cond.code yX9_at cX9_at 3 (some .int) :: wG) B.pre
  have F : CallFix p m c cX9_at 3 s _ wG RX9 := ⟨B.exec, B.bytes, hml, findClass_of_methodNamed B.named, fun w hw => hts w (List.mem_cons_of_mem _ hw)⟩
  have hr := B.returns
  have hlocks := B.notSynchronized
  have hB : Bd D cy ad σ0 s.heap s.heap [] := ⟨hP, va_S.rf⟩
  have hl := lv_entry ([.ref (ad 0), .int a1, .int a2] : List Value) (n := 3) (Nat.le_of_ble_eq_true rfl)
  rw [lg_entry_eq]
  generalize (lg_sl ([.ref (ad 0), .int a1, .int a2] : List Value) ++ List.replicate (3 - (lg_sl ([.ref (ad 0), .int a1, .int a2] : List Value)).length) Slot.unset).toArray = ls at hl ⊢
  have hl : lv_has ls 3 [(0, .ref (ad 0)), (1, .int a1), (2, .int a2)] := hl
  unfold f_X9_at at h
  refine lv_iload_n F.1 F.2.1 dX9_at_0 rfl (lv_at hl 1 rfl) ?_
  refine lv_bipush (v := 100) F.1 F.2.1 dX9_at_1 (by decide) ?_
  obtain ⟨v2, hc1, h⟩ := bp_e h
  refine q_ci hB (q_goS F hE hB (k_X9_isWithin hI σ0 a1 (100 : Int32) hc1) (ca_RX9_84 F.2.2.2.2 ⟨Nat.le_of_ble_eq_true rfl, Nat.le_of_ble_eq_true rfl⟩) rfl hl.1 rfl (Nat.le_of_ble_eq_true rfl) dX9_at_3 ⟨Nat.le_of_ble_eq_true rfl, Nat.le_of_ble_eq_true rfl⟩) (fun H locs hB => ?_)
  refine lv_if_eq (tgt := 17) F.1 F.2.1 dX9_at_6 (by decide) (fun c3 => ?_) (fun c3 => ?_)
  · replace h := it_e c3 h
    refine lv_bipush (v := (-2)) F.1 F.2.1 dX9_at_17 (by decide) ?_
    exact q_iret F hlocks hr hB (Option.some.inj h) rfl dX9_at_19
  · replace h := ie_e c3 h
    refine lv_aload_n F.1 F.2.1 dX9_at_9 rfl (lv_at hl 0 rfl) ?_
    refine lv_iload_n F.1 F.2.1 dX9_at_10 rfl (lv_at hl 2 rfl) ?_
    obtain ⟨v5, hc4, h⟩ := bp_e h
    refine q_ci hB (q_goV F hE hB (k_X9_isBoat hI σ0 a2 hc4) (ca_RX9_114 F.2.2.2.2 ⟨Nat.le_of_ble_eq_true rfl, Nat.le_of_ble_eq_true rfl⟩) rfl po_0 rfl hl.1 rfl (Nat.le_of_ble_eq_true rfl) dX9_at_11 ⟨Nat.le_of_ble_eq_true rfl, Nat.le_of_ble_eq_true rfl⟩) (fun H locs hB => ?_)
    refine lv_if_ne (tgt := 20) F.1 F.2.1 dX9_at_14 (by decide) (fun c6 => ?_) (fun c6 => ?_)
    · replace h := ie_e c6 h
      refine lv_aload_n F.1 F.2.1 dX9_at_20 rfl (lv_at hl 0 rfl) ?_
      refine gf_RX9_52 F hE hB po_0 rfl dX9_at_21 ?_
      refine lv_iload_n F.1 F.2.1 dX9_at_24 rfl (lv_at hl 1 rfl) ?_
      refine lv_iload_n F.1 F.2.1 dX9_at_25 rfl (lv_at hl 2 rfl) ?_
      obtain ⟨v8, hc7, h⟩ := bp_e h
      refine q_ci hB (q_goV F hE hB (k_X8_placeOf hI σ0 46 (Or.inl rfl) a1 a2 hc7) (ca_RX9_153 F.2.2.2.2 ⟨Nat.le_of_ble_eq_true rfl, Nat.le_of_ble_eq_true rfl⟩) rfl po_46 rfl hl.1 rfl (Nat.le_of_ble_eq_true rfl) dX9_at_26 ⟨Nat.le_of_ble_eq_true rfl, Nat.le_of_ble_eq_true rfl⟩) (fun H locs hB => ?_)
      exact q_iret F hlocks hr hB (Option.some.inj h) rfl dX9_at_29
    · replace h := it_e c6 h
      refine lv_bipush (v := (-2)) F.1 F.2.1 dX9_at_17 (by decide) ?_
      exact q_iret F hlocks hr hB (Option.some.inj h) rfl dX9_at_19
def f_X9_passes (σ0 : Mem) (a1 : Int32) (a2 : Int32) (a3 : Int32) : Option (Int32) := (bp (f_X9_isBridge σ0 a1) (fun v2 => (if v2 = (0 : Int32) then (some (-2 : Int32)) else (bp (f_X9_isBoat σ0 a2) (fun v5 => (if v5 = (0 : Int32) then (some (-2 : Int32)) else (bp (f_X9_isWithin σ0 a3 (2 : Int32)) (fun v8 => (if v8 = (0 : Int32) then (some (-2 : Int32)) else (if a3 = (1 : Int32) then (bp (f_X8_hasSlipped σ0 46 a1 a2) (fun v15 => (if v15 = (0 : Int32) then (some (0 : Int32)) else (some (1 : Int32))))) else (bp (f_X8_passStep σ0 46 a1 a2) (fun v12 => (if v12 = (100 : Int32) then (some (-1 : Int32)) else (some v12))))))))))))))
set_option maxHeartbeats 4000000 in
set_option maxRecDepth 100000 in
theorem k_X9_passes {l : Launch} {D : va_G} {cy : Nat → ClassId} {ad : Nat → Nat} {ta tb : Nat} (hI : AdI ad) (σ0 : Mem) (a1 : Int32) (a2 : Int32) (a3 : Int32) {o : Int32} (h : f_X9_passes σ0 a1 a2 a3 = some o) : Met l yX9_passes (Cond.code yX9_passes cX9_passes 5 (some .int) :: wG) rm_X9_passes (CP D cy ad ta tb σ0 [.ref (ad 0), .int a1, .int a2, .int a3]) (CQi D cy ad o σ0) 0 0 (AA ad) := by
  refine Met.ofW (cc := cX9_passes) (maxL := 5) (ret := (some .int)) (by decide) rfl ?_
  intro p e s m args below meth c s₁ B hml hv
  obtain ⟨rfl, hE, hP⟩ := hv
  have hts := atoms_spec (ws := Cond.code yX9_passes cX9_passes 5 (some .int) :: wG) B.pre
  have F : CallFix p m c cX9_passes 5 s _ wG RX9 := ⟨B.exec, B.bytes, hml, findClass_of_methodNamed B.named, fun w hw => hts w (List.mem_cons_of_mem _ hw)⟩
  have hr := B.returns
  have hlocks := B.notSynchronized
  have hB : Bd D cy ad σ0 s.heap s.heap [] := ⟨hP, va_S.rf⟩
  have hl := lv_entry ([.ref (ad 0), .int a1, .int a2, .int a3] : List Value) (n := 5) (Nat.le_of_ble_eq_true rfl)
  rw [lg_entry_eq]
  generalize (lg_sl ([.ref (ad 0), .int a1, .int a2, .int a3] : List Value) ++ List.replicate (5 - (lg_sl ([.ref (ad 0), .int a1, .int a2, .int a3] : List Value)).length) Slot.unset).toArray = ls at hl ⊢
  have hl : lv_has ls 5 [(0, .ref (ad 0)), (1, .int a1), (2, .int a2), (3, .int a3)] := hl
  unfold f_X9_passes at h
  refine lv_aload_n F.1 F.2.1 dX9_passes_0 rfl (lv_at hl 0 rfl) ?_
  refine lv_iload_n F.1 F.2.1 dX9_passes_1 rfl (lv_at hl 1 rfl) ?_
  obtain ⟨v2, hc1, h⟩ := bp_e h
  refine q_ci hB (q_goV F hE hB (k_X9_isBridge hI σ0 a1 hc1) (ca_RX9_106 F.2.2.2.2 ⟨Nat.le_of_ble_eq_true rfl, Nat.le_of_ble_eq_true rfl⟩) rfl po_0 rfl hl.1 rfl (Nat.le_of_ble_eq_true rfl) dX9_passes_2 ⟨Nat.le_of_ble_eq_true rfl, Nat.le_of_ble_eq_true rfl⟩) (fun H locs hB => ?_)
  refine lv_if_eq (tgt := 24) F.1 F.2.1 dX9_passes_5 (by decide) (fun c3 => ?_) (fun c3 => ?_)
  · replace h := it_e c3 h
    refine lv_bipush (v := (-2)) F.1 F.2.1 dX9_passes_24 (by decide) ?_
    exact q_iret F hlocks hr hB (Option.some.inj h) rfl dX9_passes_26
  · replace h := ie_e c3 h
    refine lv_aload_n F.1 F.2.1 dX9_passes_8 rfl (lv_at hl 0 rfl) ?_
    refine lv_iload_n F.1 F.2.1 dX9_passes_9 rfl (lv_at hl 2 rfl) ?_
    obtain ⟨v5, hc4, h⟩ := bp_e h
    refine q_ci hB (q_goV F hE hB (k_X9_isBoat hI σ0 a2 hc4) (ca_RX9_114 F.2.2.2.2 ⟨Nat.le_of_ble_eq_true rfl, Nat.le_of_ble_eq_true rfl⟩) rfl po_0 rfl hl.1 rfl (Nat.le_of_ble_eq_true rfl) dX9_passes_10 ⟨Nat.le_of_ble_eq_true rfl, Nat.le_of_ble_eq_true rfl⟩) (fun H locs hB => ?_)
    refine lv_if_eq (tgt := 24) F.1 F.2.1 dX9_passes_13 (by decide) (fun c6 => ?_) (fun c6 => ?_)
    · replace h := it_e c6 h
      refine lv_bipush (v := (-2)) F.1 F.2.1 dX9_passes_24 (by decide) ?_
      exact q_iret F hlocks hr hB (Option.some.inj h) rfl dX9_passes_26
    · replace h := ie_e c6 h
      refine lv_iload_n F.1 F.2.1 dX9_passes_16 rfl (lv_at hl 3 rfl) ?_
      refine lv_iconst (v := 2) F.1 F.2.1 dX9_passes_17 (by decide) ?_
      obtain ⟨v8, hc7, h⟩ := bp_e h
      refine q_ci hB (q_goS F hE hB (k_X9_isWithin hI σ0 a3 (2 : Int32) hc7) (ca_RX9_84 F.2.2.2.2 ⟨Nat.le_of_ble_eq_true rfl, Nat.le_of_ble_eq_true rfl⟩) rfl hl.1 rfl (Nat.le_of_ble_eq_true rfl) dX9_passes_18 ⟨Nat.le_of_ble_eq_true rfl, Nat.le_of_ble_eq_true rfl⟩) (fun H locs hB => ?_)
      refine lv_if_ne (tgt := 27) F.1 F.2.1 dX9_passes_21 (by decide) (fun c9 => ?_) (fun c9 => ?_)
      · replace h := ie_e c9 h
        refine lv_iload_n F.1 F.2.1 dX9_passes_27 rfl (lv_at hl 3 rfl) ?_
        refine lv_iconst (v := 1) F.1 F.2.1 dX9_passes_28 (by decide) ?_
        refine lv_icmp_ne (tgt := 50) F.1 F.2.1 dX9_passes_29 (by decide) (fun c10 => ?_) (fun c10 => ?_)
        · replace h := ie_e c10 h
          refine lv_aload_n F.1 F.2.1 dX9_passes_50 rfl (lv_at hl 0 rfl) ?_
          refine gf_RX9_52 F hE hB po_0 rfl dX9_passes_51 ?_
          refine lv_iload_n F.1 F.2.1 dX9_passes_54 rfl (lv_at hl 1 rfl) ?_
          refine lv_iload_n F.1 F.2.1 dX9_passes_55 rfl (lv_at hl 2 rfl) ?_
          obtain ⟨v12, hc11, h⟩ := bp_e h
          refine q_ci hB (q_goV F hE hB (k_X8_passStep hI σ0 46 (Or.inl rfl) a1 a2 hc11) (ca_RX9_159 F.2.2.2.2 ⟨Nat.le_of_ble_eq_true rfl, Nat.le_of_ble_eq_true rfl⟩) rfl po_46 rfl hl.1 rfl (Nat.le_of_ble_eq_true rfl) dX9_passes_56 ⟨Nat.le_of_ble_eq_true rfl, Nat.le_of_ble_eq_true rfl⟩) (fun H locs hB => ?_)
          refine lv_istore (lv' := [(4, .int v12), (0, .ref (ad 0)), (1, .int a1), (2, .int a2), (3, .int a3)]) F.1 F.2.1 dX9_passes_59 hl (by decide) rfl (fun ls hl => ?_)
          refine lv_iload F.1 F.2.1 dX9_passes_61 (lv_at hl 0 rfl) ?_
          refine lv_bipush (v := 100) F.1 F.2.1 dX9_passes_63 (by decide) ?_
          refine lv_icmp_ne (tgt := 72) F.1 F.2.1 dX9_passes_65 (by decide) (fun c13 => ?_) (fun c13 => ?_)
          · replace h := ie_e c13 h
            refine lv_iload F.1 F.2.1 dX9_passes_72 (lv_at hl 0 rfl) ?_
            exact q_iret F hlocks hr hB (Option.some.inj h) rfl dX9_passes_74
          · replace h := it_e c13 h
            refine lv_iconst (v := (-1)) F.1 F.2.1 dX9_passes_68 (by decide) ?_
            refine lv_goto (tgt := 74) F.1 F.2.1 dX9_passes_69 (by decide) ?_
            exact q_iret F hlocks hr hB (Option.some.inj h) rfl dX9_passes_74
        · replace h := it_e c10 h
          refine lv_aload_n F.1 F.2.1 dX9_passes_32 rfl (lv_at hl 0 rfl) ?_
          refine gf_RX9_52 F hE hB po_0 rfl dX9_passes_33 ?_
          refine lv_iload_n F.1 F.2.1 dX9_passes_36 rfl (lv_at hl 1 rfl) ?_
          refine lv_iload_n F.1 F.2.1 dX9_passes_37 rfl (lv_at hl 2 rfl) ?_
          obtain ⟨v15, hc14, h⟩ := bp_e h
          refine q_ci hB (q_goV F hE hB (k_X8_hasSlipped hI σ0 46 (Or.inl rfl) a1 a2 hc14) (ca_RX9_156 F.2.2.2.2 ⟨Nat.le_of_ble_eq_true rfl, Nat.le_of_ble_eq_true rfl⟩) rfl po_46 rfl hl.1 rfl (Nat.le_of_ble_eq_true rfl) dX9_passes_38 ⟨Nat.le_of_ble_eq_true rfl, Nat.le_of_ble_eq_true rfl⟩) (fun H locs hB => ?_)
          refine lv_if_eq (tgt := 48) F.1 F.2.1 dX9_passes_41 (by decide) (fun c16 => ?_) (fun c16 => ?_)
          · replace h := it_e c16 h
            refine lv_iconst (v := 0) F.1 F.2.1 dX9_passes_48 (by decide) ?_
            exact q_iret F hlocks hr hB (Option.some.inj h) rfl dX9_passes_49
          · replace h := ie_e c16 h
            refine lv_iconst (v := 1) F.1 F.2.1 dX9_passes_44 (by decide) ?_
            refine lv_goto (tgt := 49) F.1 F.2.1 dX9_passes_45 (by decide) ?_
            exact q_iret F hlocks hr hB (Option.some.inj h) rfl dX9_passes_49
      · replace h := it_e c9 h
        refine lv_bipush (v := (-2)) F.1 F.2.1 dX9_passes_24 (by decide) ?_
        exact q_iret F hlocks hr hB (Option.some.inj h) rfl dX9_passes_26
def f_X9_waits (σ0 : Mem) (a1 : Int32) : Option (Int32) := (bp (f_X9_isBoat σ0 a1) (fun v2 => (if v2 = (0 : Int32) then (some (-2 : Int32)) else (bp (f_X8_waitOf σ0 46 a1) (fun v5 => (some v5))))))
set_option maxHeartbeats 4000000 in
set_option maxRecDepth 100000 in
theorem k_X9_waits {l : Launch} {D : va_G} {cy : Nat → ClassId} {ad : Nat → Nat} {ta tb : Nat} (hI : AdI ad) (σ0 : Mem) (a1 : Int32) {o : Int32} (h : f_X9_waits σ0 a1 = some o) : Met l yX9_waits (Cond.code yX9_waits cX9_waits 2 (some .int) :: wG) rm_X9_waits (CP D cy ad ta tb σ0 [.ref (ad 0), .int a1]) (CQi D cy ad o σ0) 0 0 (AA ad) := by
  refine Met.ofW (cc := cX9_waits) (maxL := 2) (ret := (some .int)) (by decide) rfl ?_
  intro p e s m args below meth c s₁ B hml hv
  obtain ⟨rfl, hE, hP⟩ := hv
  have hts := atoms_spec (ws := Cond.code yX9_waits cX9_waits 2 (some .int) :: wG) B.pre
  have F : CallFix p m c cX9_waits 2 s _ wG RX9 := ⟨B.exec, B.bytes, hml, findClass_of_methodNamed B.named, fun w hw => hts w (List.mem_cons_of_mem _ hw)⟩
  have hr := B.returns
  have hlocks := B.notSynchronized
  have hB : Bd D cy ad σ0 s.heap s.heap [] := ⟨hP, va_S.rf⟩
  have hl := lv_entry ([.ref (ad 0), .int a1] : List Value) (n := 2) (Nat.le_of_ble_eq_true rfl)
  rw [lg_entry_eq]
  generalize (lg_sl ([.ref (ad 0), .int a1] : List Value) ++ List.replicate (2 - (lg_sl ([.ref (ad 0), .int a1] : List Value)).length) Slot.unset).toArray = ls at hl ⊢
  have hl : lv_has ls 2 [(0, .ref (ad 0)), (1, .int a1)] := hl
  unfold f_X9_waits at h
  refine lv_aload_n F.1 F.2.1 dX9_waits_0 rfl (lv_at hl 0 rfl) ?_
  refine lv_iload_n F.1 F.2.1 dX9_waits_1 rfl (lv_at hl 1 rfl) ?_
  obtain ⟨v2, hc1, h⟩ := bp_e h
  refine q_ci hB (q_goV F hE hB (k_X9_isBoat hI σ0 a1 hc1) (ca_RX9_114 F.2.2.2.2 ⟨Nat.le_of_ble_eq_true rfl, Nat.le_of_ble_eq_true rfl⟩) rfl po_0 rfl hl.1 rfl (Nat.le_of_ble_eq_true rfl) dX9_waits_2 ⟨Nat.le_of_ble_eq_true rfl, Nat.le_of_ble_eq_true rfl⟩) (fun H locs hB => ?_)
  refine lv_if_ne (tgt := 11) F.1 F.2.1 dX9_waits_5 (by decide) (fun c3 => ?_) (fun c3 => ?_)
  · replace h := ie_e c3 h
    refine lv_aload_n F.1 F.2.1 dX9_waits_11 rfl (lv_at hl 0 rfl) ?_
    refine gf_RX9_52 F hE hB po_0 rfl dX9_waits_12 ?_
    refine lv_iload_n F.1 F.2.1 dX9_waits_15 rfl (lv_at hl 1 rfl) ?_
    obtain ⟨v5, hc4, h⟩ := bp_e h
    refine q_ci hB (q_goV F hE hB (k_X8_waitOf hI σ0 46 (Or.inl rfl) a1 hc4) (ca_RX9_162 F.2.2.2.2 ⟨Nat.le_of_ble_eq_true rfl, Nat.le_of_ble_eq_true rfl⟩) rfl po_46 rfl hl.1 rfl (Nat.le_of_ble_eq_true rfl) dX9_waits_16 ⟨Nat.le_of_ble_eq_true rfl, Nat.le_of_ble_eq_true rfl⟩) (fun H locs hB => ?_)
    exact q_iret F hlocks hr hB (Option.some.inj h) rfl dX9_waits_19
  · replace h := it_e c3 h
    refine lv_bipush (v := (-2)) F.1 F.2.1 dX9_waits_8 (by decide) ?_
    exact q_iret F hlocks hr hB (Option.some.inj h) rfl dX9_waits_10
def f_X9_through (σ0 : Mem) (a1 : Int32) : Option (Int32) := (bp (f_X9_isWithin σ0 a1 (100 : Int32)) (fun v2 => (if v2 = (0 : Int32) then (some (-2 : Int32)) else (bp (f_X8_throughBits σ0 46 a1) (fun v5 => (some v5))))))
set_option maxHeartbeats 4000000 in
set_option maxRecDepth 100000 in
theorem k_X9_through {l : Launch} {D : va_G} {cy : Nat → ClassId} {ad : Nat → Nat} {ta tb : Nat} (hI : AdI ad) (σ0 : Mem) (a1 : Int32) {o : Int32} (h : f_X9_through σ0 a1 = some o) : Met l yX9_through (Cond.code yX9_through cX9_through 2 (some .int) :: wG) rm_X9_through (CP D cy ad ta tb σ0 [.ref (ad 0), .int a1]) (CQi D cy ad o σ0) 0 0 (AA ad) := by
  refine Met.ofW (cc := cX9_through) (maxL := 2) (ret := (some .int)) (by decide) rfl ?_
  intro p e s m args below meth c s₁ B hml hv
  obtain ⟨rfl, hE, hP⟩ := hv
  have hts := atoms_spec (ws := Cond.code yX9_through cX9_through 2 (some .int) :: wG) B.pre
  have F : CallFix p m c cX9_through 2 s _ wG RX9 := ⟨B.exec, B.bytes, hml, findClass_of_methodNamed B.named, fun w hw => hts w (List.mem_cons_of_mem _ hw)⟩
  have hr := B.returns
  have hlocks := B.notSynchronized
  have hB : Bd D cy ad σ0 s.heap s.heap [] := ⟨hP, va_S.rf⟩
  have hl := lv_entry ([.ref (ad 0), .int a1] : List Value) (n := 2) (Nat.le_of_ble_eq_true rfl)
  rw [lg_entry_eq]
  generalize (lg_sl ([.ref (ad 0), .int a1] : List Value) ++ List.replicate (2 - (lg_sl ([.ref (ad 0), .int a1] : List Value)).length) Slot.unset).toArray = ls at hl ⊢
  have hl : lv_has ls 2 [(0, .ref (ad 0)), (1, .int a1)] := hl
  unfold f_X9_through at h
  refine lv_iload_n F.1 F.2.1 dX9_through_0 rfl (lv_at hl 1 rfl) ?_
  refine lv_bipush (v := 100) F.1 F.2.1 dX9_through_1 (by decide) ?_
  obtain ⟨v2, hc1, h⟩ := bp_e h
  refine q_ci hB (q_goS F hE hB (k_X9_isWithin hI σ0 a1 (100 : Int32) hc1) (ca_RX9_84 F.2.2.2.2 ⟨Nat.le_of_ble_eq_true rfl, Nat.le_of_ble_eq_true rfl⟩) rfl hl.1 rfl (Nat.le_of_ble_eq_true rfl) dX9_through_3 ⟨Nat.le_of_ble_eq_true rfl, Nat.le_of_ble_eq_true rfl⟩) (fun H locs hB => ?_)
  refine lv_if_ne (tgt := 12) F.1 F.2.1 dX9_through_6 (by decide) (fun c3 => ?_) (fun c3 => ?_)
  · replace h := ie_e c3 h
    refine lv_aload_n F.1 F.2.1 dX9_through_12 rfl (lv_at hl 0 rfl) ?_
    refine gf_RX9_52 F hE hB po_0 rfl dX9_through_13 ?_
    refine lv_iload_n F.1 F.2.1 dX9_through_16 rfl (lv_at hl 1 rfl) ?_
    obtain ⟨v5, hc4, h⟩ := bp_e h
    refine q_ci hB (q_goV F hE hB (k_X8_throughBits hI σ0 46 (Or.inl rfl) a1 hc4) (ca_RX9_165 F.2.2.2.2 ⟨Nat.le_of_ble_eq_true rfl, Nat.le_of_ble_eq_true rfl⟩) rfl po_46 rfl hl.1 rfl (Nat.le_of_ble_eq_true rfl) dX9_through_17 ⟨Nat.le_of_ble_eq_true rfl, Nat.le_of_ble_eq_true rfl⟩) (fun H locs hB => ?_)
    exact q_iret F hlocks hr hB (Option.some.inj h) rfl dX9_through_20
  · replace h := it_e c3 h
    refine lv_bipush (v := (-2)) F.1 F.2.1 dX9_through_9 (by decide) ?_
    exact q_iret F hlocks hr hB (Option.some.inj h) rfl dX9_through_11
def f_X9_first_b54 (σ0 : Mem) (k19 : Int32 → Int32 → Int32 → Int32 → Option (Int32)) (x1 : Int32) (x2 : Int32) (x3 : Int32) (x4 : Int32) : Option (Int32) := (k19 x1 x2 x3 (x4 + (1 : Int32)))
def f_X9_first_b19 (σ0 : Mem) : Nat → Int32 → Int32 → Int32 → Int32 → Option (Int32)
  | 0, _, _, _, _ => none
  | n19 + 1, x1, x2, x3, x4 => (if (σ0.1 10 2) ≤ x4 then (if x3 = (-1 : Int32) then (some (-1 : Int32)) else (if x1 = (0 : Int32) then (some x2) else (some x3))) else (bp (f_X8_firstWaitOf σ0 46 x4) (fun v8 => (if x2 ≤ v8 then (f_X9_first_b54 σ0 (f_X9_first_b19 σ0 n19) x1 x2 x3 x4) else (f_X9_first_b54 σ0 (f_X9_first_b19 σ0 n19) x1 v8 x4 x4)))))
def f_X9_first (σ0 : Mem) (a1 : Int32) : Option (Int32) := (bp (f_X9_isWithin σ0 a1 (2 : Int32)) (fun v2 => (if v2 = (0 : Int32) then (some (-2 : Int32)) else (f_X9_first_b19 σ0 300 a1 (100 : Int32) (-1 : Int32) (0 : Int32)))))
set_option maxHeartbeats 4000000 in
set_option maxRecDepth 100000 in
theorem k_X9_first {l : Launch} {D : va_G} {cy : Nat → ClassId} {ad : Nat → Nat} {ta tb : Nat} (hI : AdI ad) (σ0 : Mem) (a1 : Int32) {o : Int32} (h : f_X9_first σ0 a1 = some o) : Met l yX9_first (Cond.code yX9_first cX9_first 6 (some .int) :: wG) rm_X9_first (CP D cy ad ta tb σ0 [.ref (ad 0), .int a1]) (CQi D cy ad o σ0) 0 0 (AA ad) := by
  refine Met.ofW (cc := cX9_first) (maxL := 6) (ret := (some .int)) (by decide) rfl ?_
  intro p e s m args below meth c s₁ B hml hv
  obtain ⟨rfl, hE, hP⟩ := hv
  have hts := atoms_spec (ws := Cond.code yX9_first cX9_first 6 (some .int) :: wG) B.pre
  have F : CallFix p m c cX9_first 6 s _ wG RX9 := ⟨B.exec, B.bytes, hml, findClass_of_methodNamed B.named, fun w hw => hts w (List.mem_cons_of_mem _ hw)⟩
  have hr := B.returns
  have hlocks := B.notSynchronized
  have hB : Bd D cy ad σ0 s.heap s.heap [] := ⟨hP, va_S.rf⟩
  have hl := lv_entry ([.ref (ad 0), .int a1] : List Value) (n := 6) (Nat.le_of_ble_eq_true rfl)
  rw [lg_entry_eq]
  generalize (lg_sl ([.ref (ad 0), .int a1] : List Value) ++ List.replicate (6 - (lg_sl ([.ref (ad 0), .int a1] : List Value)).length) Slot.unset).toArray = ls at hl ⊢
  have hl : lv_has ls 6 [(0, .ref (ad 0)), (1, .int a1)] := hl
  have B19 : ∀ (n19 : Nat) (H : Heap) (locs : List Loc) (ls : Array Slot) (x1 : Int32) (x2 : Int32) (x3 : Int32) (x4 : Int32), f_X9_first_b19 σ0 n19 x1 x2 x3 x4 = some o → Bd D cy ad σ0 s.heap H locs → lv_has ls 6 [(0, .ref (ad 0)), (1, .int x1), (2, .int x2), (3, .int x3), (4, .int x4)] → W p l e rm_X9_first s m ([.ref (ad 0), .int a1] : List Value).toArray below meth c H locs 0 0 (MQ below (CQi D cy ad o σ0) ([.ref (ad 0), .int a1] : List Value).toArray s 0 0 (AA ad)) (F0 m 19 ls []) := by
    intro n19
    induction n19 with
    | zero => intro H locs ls x1 x2 x3 x4 h hB hl; cases h
    | succ n19 ih19 =>
      have B54 : ∀ (H : Heap) (locs : List Loc) (ls : Array Slot) (x1 : Int32) (x2 : Int32) (x3 : Int32) (x4 : Int32), f_X9_first_b54 σ0 (f_X9_first_b19 σ0 n19) x1 x2 x3 x4 = some o → Bd D cy ad σ0 s.heap H locs → lv_has ls 6 [(0, .ref (ad 0)), (1, .int x1), (2, .int x2), (3, .int x3), (4, .int x4)] → W p l e rm_X9_first s m ([.ref (ad 0), .int a1] : List Value).toArray below meth c H locs 0 0 (MQ below (CQi D cy ad o σ0) ([.ref (ad 0), .int a1] : List Value).toArray s 0 0 (AA ad)) (F0 m 54 ls []) := by
        intro H locs ls x1 x2 x3 x4 h hB hl
        unfold f_X9_first_b54 at h
        refine lv_iinc (v := (x4 + (1 : Int32))) (lv' := [(4, .int (x4 + (1 : Int32))), (0, .ref (ad 0)), (1, .int x1), (2, .int x2), (3, .int x3)]) F.1 F.2.1 dX9_first_54 hl (k := 4) rfl rfl (by decide) rfl (fun ls hl => ?_)
        refine lv_goto (tgt := 19) F.1 F.2.1 dX9_first_57 (by decide) ?_
        exact ih19 _ _ _ x1 x2 x3 (x4 + (1 : Int32)) h hB (lv_sub hl [1, 2, 3, 4, 0] rfl)
      intro H locs ls x1 x2 x3 x4 h hB hl
      rw [f_X9_first_b19] at h
      refine lv_iload F.1 F.2.1 dX9_first_19 (lv_at hl 4 rfl) ?_
      refine lv_aload_n F.1 F.2.1 dX9_first_21 rfl (lv_at hl 0 rfl) ?_
      refine gf_RX9_25 F hE hB po_0 rfl dX9_first_22 ?_
      refine gf_RX9_168 F hE hB po_10 rfl dX9_first_25 ?_
      refine lv_icmp_ge (tgt := 60) F.1 F.2.1 dX9_first_28 (by decide) (fun c4 => ?_) (fun c4 => ?_)
      · replace h := it_e c4 h
        refine lv_iload_n F.1 F.2.1 dX9_first_60 rfl (lv_at hl 3 rfl) ?_
        refine lv_iconst (v := (-1)) F.1 F.2.1 dX9_first_61 (by decide) ?_
        refine lv_icmp_ne (tgt := 67) F.1 F.2.1 dX9_first_62 (by decide) (fun c5 => ?_) (fun c5 => ?_)
        · replace h := ie_e c5 h
          refine lv_iload_n F.1 F.2.1 dX9_first_67 rfl (lv_at hl 1 rfl) ?_
          refine lv_if_ne (tgt := 75) F.1 F.2.1 dX9_first_68 (by decide) (fun c6 => ?_) (fun c6 => ?_)
          · replace h := ie_e c6 h
            refine lv_iload_n F.1 F.2.1 dX9_first_75 rfl (lv_at hl 3 rfl) ?_
            exact q_iret F hlocks hr hB (Option.some.inj h) rfl dX9_first_76
          · replace h := it_e c6 h
            refine lv_iload_n F.1 F.2.1 dX9_first_71 rfl (lv_at hl 2 rfl) ?_
            refine lv_goto (tgt := 76) F.1 F.2.1 dX9_first_72 (by decide) ?_
            exact q_iret F hlocks hr hB (Option.some.inj h) rfl dX9_first_76
        · replace h := it_e c5 h
          refine lv_iconst (v := (-1)) F.1 F.2.1 dX9_first_65 (by decide) ?_
          exact q_iret F hlocks hr hB (Option.some.inj h) rfl dX9_first_66
      · replace h := ie_e c4 h
        refine lv_aload_n F.1 F.2.1 dX9_first_31 rfl (lv_at hl 0 rfl) ?_
        refine gf_RX9_52 F hE hB po_0 rfl dX9_first_32 ?_
        refine lv_iload F.1 F.2.1 dX9_first_35 (lv_at hl 4 rfl) ?_
        obtain ⟨v8, hc7, h⟩ := bp_e h
        refine q_ci hB (q_goV F hE hB (k_X8_firstWaitOf hI σ0 46 (Or.inl rfl) x4 hc7) (ca_RX9_169 F.2.2.2.2 ⟨Nat.le_of_ble_eq_true rfl, Nat.le_of_ble_eq_true rfl⟩) rfl po_46 rfl hl.1 rfl (Nat.le_of_ble_eq_true rfl) dX9_first_37 ⟨Nat.le_of_ble_eq_true rfl, Nat.le_of_ble_eq_true rfl⟩) (fun H locs hB => ?_)
        refine lv_istore (lv' := [(5, .int v8), (0, .ref (ad 0)), (1, .int x1), (2, .int x2), (3, .int x3), (4, .int x4)]) F.1 F.2.1 dX9_first_40 hl (by decide) rfl (fun ls hl => ?_)
        refine lv_iload F.1 F.2.1 dX9_first_42 (lv_at hl 0 rfl) ?_
        refine lv_iload_n F.1 F.2.1 dX9_first_44 rfl (lv_at hl 3 rfl) ?_
        refine lv_icmp_ge (tgt := 54) F.1 F.2.1 dX9_first_45 (by decide) (fun c9 => ?_) (fun c9 => ?_)
        · replace h := it_e c9 h
          exact B54 _ _ _ x1 x2 x3 x4 h hB (lv_sub hl [1, 2, 3, 4, 5] rfl)
        · replace h := ie_e c9 h
          refine lv_iload F.1 F.2.1 dX9_first_48 (lv_at hl 0 rfl) ?_
          refine lv_istore_n (lv' := [(2, .int v8), (5, .int v8), (0, .ref (ad 0)), (1, .int x1), (3, .int x3), (4, .int x4)]) F.1 F.2.1 dX9_first_50 rfl hl (by decide) rfl (fun ls hl => ?_)
          refine lv_iload F.1 F.2.1 dX9_first_51 (lv_at hl 5 rfl) ?_
          refine lv_istore_n (lv' := [(3, .int x4), (2, .int v8), (5, .int v8), (0, .ref (ad 0)), (1, .int x1), (4, .int x4)]) F.1 F.2.1 dX9_first_53 rfl hl (by decide) rfl (fun ls hl => ?_)
          exact B54 _ _ _ x1 v8 x4 x4 h hB (lv_sub hl [3, 4, 1, 0, 5] rfl)
  unfold f_X9_first at h
  refine lv_iload_n F.1 F.2.1 dX9_first_0 rfl (lv_at hl 1 rfl) ?_
  refine lv_iconst (v := 2) F.1 F.2.1 dX9_first_1 (by decide) ?_
  obtain ⟨v2, hc1, h⟩ := bp_e h
  refine q_ci hB (q_goS F hE hB (k_X9_isWithin hI σ0 a1 (2 : Int32) hc1) (ca_RX9_84 F.2.2.2.2 ⟨Nat.le_of_ble_eq_true rfl, Nat.le_of_ble_eq_true rfl⟩) rfl hl.1 rfl (Nat.le_of_ble_eq_true rfl) dX9_first_2 ⟨Nat.le_of_ble_eq_true rfl, Nat.le_of_ble_eq_true rfl⟩) (fun H locs hB => ?_)
  refine lv_if_ne (tgt := 11) F.1 F.2.1 dX9_first_5 (by decide) (fun c3 => ?_) (fun c3 => ?_)
  · replace h := ie_e c3 h
    refine lv_bipush (v := 100) F.1 F.2.1 dX9_first_11 (by decide) ?_
    refine lv_istore_n (lv' := [(2, .int (100 : Int32)), (0, .ref (ad 0)), (1, .int a1)]) F.1 F.2.1 dX9_first_13 rfl hl (by decide) rfl (fun ls hl => ?_)
    refine lv_iconst (v := (-1)) F.1 F.2.1 dX9_first_14 (by decide) ?_
    refine lv_istore_n (lv' := [(3, .int (-1 : Int32)), (2, .int (100 : Int32)), (0, .ref (ad 0)), (1, .int a1)]) F.1 F.2.1 dX9_first_15 rfl hl (by decide) rfl (fun ls hl => ?_)
    refine lv_iconst (v := 0) F.1 F.2.1 dX9_first_16 (by decide) ?_
    refine lv_istore (lv' := [(4, .int (0 : Int32)), (3, .int (-1 : Int32)), (2, .int (100 : Int32)), (0, .ref (ad 0)), (1, .int a1)]) F.1 F.2.1 dX9_first_17 hl (by decide) rfl (fun ls hl => ?_)
    exact B19 300 _ _ _ a1 (100 : Int32) (-1 : Int32) (0 : Int32) h hB (lv_sub hl [3, 4, 2, 1, 0] rfl)
  · replace h := it_e c3 h
    refine lv_bipush (v := (-2)) F.1 F.2.1 dX9_first_8 (by decide) ?_
    exact q_iret F hlocks hr hB (Option.some.inj h) rfl dX9_first_10
def f_X9_loadAsCarried (σ0 : Mem) (a1 : Int32) : Option (Mem) := (ck a1 8 (cp (0 : Int32) (0 : Int32) (6 : Int32) 6 6 (lt (mw σ0 62 (va_cpy (σ0.1 (13 + a1.toNatClampNeg)) (σ0.1 62) (0 : Int32).toNatClampNeg (0 : Int32).toNatClampNeg (6 : Int32).toNatClampNeg)) (fun σ3 => (some σ3)))))
set_option maxHeartbeats 4000000 in
set_option maxRecDepth 100000 in
theorem k_X9_loadAsCarried {l : Launch} {D : va_G} {cy : Nat → ClassId} {ad : Nat → Nat} {ta tb : Nat} (hI : AdI ad) (σ0 : Mem) (a1 : Int32) {o : Mem} (h : f_X9_loadAsCarried σ0 a1 = some o) : Met l yX9_loadAsCarried (Cond.code yX9_loadAsCarried cX9_loadAsCarried 2 none :: wG) rm_X9_loadAsCarried (CP D cy ad ta tb σ0 [.ref (ad 0), .int a1]) (CQv D cy ad o) 0 0 (AA ad) := by
  refine Met.ofW (cc := cX9_loadAsCarried) (maxL := 2) (ret := none) (by decide) rfl ?_
  intro p e s m args below meth c s₁ B hml hv
  obtain ⟨rfl, hE, hP⟩ := hv
  have hts := atoms_spec (ws := Cond.code yX9_loadAsCarried cX9_loadAsCarried 2 none :: wG) B.pre
  have F : CallFix p m c cX9_loadAsCarried 2 s _ wG RX9 := ⟨B.exec, B.bytes, hml, findClass_of_methodNamed B.named, fun w hw => hts w (List.mem_cons_of_mem _ hw)⟩
  have hr := B.returns
  have hlocks := B.notSynchronized
  have hB : Bd D cy ad σ0 s.heap s.heap [] := ⟨hP, va_S.rf⟩
  have hl := lv_entry ([.ref (ad 0), .int a1] : List Value) (n := 2) (Nat.le_of_ble_eq_true rfl)
  rw [lg_entry_eq]
  generalize (lg_sl ([.ref (ad 0), .int a1] : List Value) ++ List.replicate (2 - (lg_sl ([.ref (ad 0), .int a1] : List Value)).length) Slot.unset).toArray = ls at hl ⊢
  have hl : lv_has ls 2 [(0, .ref (ad 0)), (1, .int a1)] := hl
  unfold f_X9_loadAsCarried at h
  refine lv_aload_n F.1 F.2.1 dX9_loadAsCarried_0 rfl (lv_at hl 0 rfl) ?_
  refine gf_RX9_25 F hE hB po_0 rfl dX9_loadAsCarried_1 ?_
  refine gf_RX9_120 F hE hB po_10 rfl dX9_loadAsCarried_4 ?_
  refine lv_iload_n F.1 F.2.1 dX9_loadAsCarried_7 rfl (lv_at hl 1 rfl) ?_
  obtain ⟨hi1, h⟩ := ck_e h
  refine q_aldA F hE hB po_11 hi1 dX9_loadAsCarried_8 ?_
  refine lv_iconst (v := 0) F.1 F.2.1 dX9_loadAsCarried_9 (by decide) ?_
  refine lv_aload_n F.1 F.2.1 dX9_loadAsCarried_10 rfl (lv_at hl 0 rfl) ?_
  refine gf_RX9_73 F hE hB po_0 rfl dX9_loadAsCarried_11 ?_
  refine lv_iconst (v := 0) F.1 F.2.1 dX9_loadAsCarried_14 (by decide) ?_
  refine lv_bipush (v := 6) F.1 F.2.1 dX9_loadAsCarried_15 (by decide) ?_
  obtain ⟨hp2, h⟩ := cp_e h
  obtain ⟨σ3, e4, h⟩ := lt_e h
  refine q_copy F hE hI hl.1 hB (mk_row hi1) row_62 wm_l_RX9_268 wm_ac_n wm_ac_s wm_ac_i hp2 (Nat.le_of_ble_eq_true rfl) (Nat.le_of_ble_eq_true rfl) dX9_loadAsCarried_17 e4 (fun H locs hB => ?_)
  exact q_vret F hlocks hr hB (Option.some.inj h) dX9_loadAsCarried_20
def f_X9_tryLoad_b13 : Nat → Mem → Int32 → Int32 → Option (Mem)
  | 0, _, _, _ => none
  | n13 + 1, σ0, x1, x2 => (if (σ0.1 6 3) ≤ x2 then (bv (f_X8_run σ0 52) (fun σ5 => (some σ5))) else (ck x2 8 (ck x2 8 (ck x1 8 (bp (f_X2_wouldLift σ0 x2 (σ0.1 8 x2.toNatClampNeg) (σ0.1 9 x2.toNatClampNeg) 62 (25 + x1.toNatClampNeg)) (fun v10 => (bv (f_X8_setLifted σ0 52 x2 x1 v10) (fun σ12 => (f_X9_tryLoad_b13 n13 σ12 x1 (x2 + (1 : Int32)))))))))))
def f_X9_tryLoad (σ0 : Mem) (a1 : Int32) : Option (Mem) := (bv (f_X8_takeOver σ0 52 46) (fun σ2 => (f_X9_tryLoad_b13 300 σ2 a1 (0 : Int32))))
set_option maxHeartbeats 4000000 in
set_option maxRecDepth 100000 in
theorem k_X9_tryLoad {l : Launch} {D : va_G} {cy : Nat → ClassId} {ad : Nat → Nat} {ta tb : Nat} (hI : AdI ad) (σ0 : Mem) (a1 : Int32) {o : Mem} (h : f_X9_tryLoad σ0 a1 = some o) : Met l yX9_tryLoad (Cond.code yX9_tryLoad cX9_tryLoad 3 none :: wG) rm_X9_tryLoad (CP D cy ad ta tb σ0 [.ref (ad 0), .int a1]) (CQv D cy ad o) 0 0 (AA ad) := by
  refine Met.ofW (cc := cX9_tryLoad) (maxL := 3) (ret := none) (by decide) rfl ?_
  intro p e s m args below meth c s₁ B hml hv
  obtain ⟨rfl, hE, hP⟩ := hv
  have hts := atoms_spec (ws := Cond.code yX9_tryLoad cX9_tryLoad 3 none :: wG) B.pre
  have F : CallFix p m c cX9_tryLoad 3 s _ wG RX9 := ⟨B.exec, B.bytes, hml, findClass_of_methodNamed B.named, fun w hw => hts w (List.mem_cons_of_mem _ hw)⟩
  have hr := B.returns
  have hlocks := B.notSynchronized
  have hB : Bd D cy ad σ0 s.heap s.heap [] := ⟨hP, va_S.rf⟩
  have hl := lv_entry ([.ref (ad 0), .int a1] : List Value) (n := 3) (Nat.le_of_ble_eq_true rfl)
  rw [lg_entry_eq]
  generalize (lg_sl ([.ref (ad 0), .int a1] : List Value) ++ List.replicate (3 - (lg_sl ([.ref (ad 0), .int a1] : List Value)).length) Slot.unset).toArray = ls at hl ⊢
  have hl : lv_has ls 3 [(0, .ref (ad 0)), (1, .int a1)] := hl
  have B13 : ∀ (n13 : Nat) (σ0 : Mem) (H : Heap) (locs : List Loc) (ls : Array Slot) (x1 : Int32) (x2 : Int32), f_X9_tryLoad_b13 n13 σ0 x1 x2 = some o → Bd D cy ad σ0 s.heap H locs → lv_has ls 3 [(0, .ref (ad 0)), (1, .int x1), (2, .int x2)] → W p l e rm_X9_tryLoad s m ([.ref (ad 0), .int a1] : List Value).toArray below meth c H locs 0 0 (MQ below (CQv D cy ad o) ([.ref (ad 0), .int a1] : List Value).toArray s 0 0 (AA ad)) (F0 m 13 ls []) := by
    intro n13
    induction n13 with
    | zero => intro σ0 H locs ls x1 x2 h hB hl; cases h
    | succ n13 ih13 =>
      intro σ0 H locs ls x1 x2 h hB hl
      rw [f_X9_tryLoad_b13] at h
      refine lv_iload_n F.1 F.2.1 dX9_tryLoad_13 rfl (lv_at hl 2 rfl) ?_
      refine lv_aload_n F.1 F.2.1 dX9_tryLoad_14 rfl (lv_at hl 0 rfl) ?_
      refine gf_RX9_18 F hE hB po_0 rfl dX9_tryLoad_15 ?_
      refine gf_RX9_279 F hE hB po_6 rfl dX9_tryLoad_18 ?_
      refine lv_icmp_ge (tgt := 78) F.1 F.2.1 dX9_tryLoad_21 (by decide) (fun c3 => ?_) (fun c3 => ?_)
      · replace h := it_e c3 h
        refine lv_aload_n F.1 F.2.1 dX9_tryLoad_78 rfl (lv_at hl 0 rfl) ?_
        refine gf_RX9_56 F hE hB po_0 rfl dX9_tryLoad_79 ?_
        obtain ⟨σ5, hc4, h⟩ := bv_e h
        refine q_cv hB (q_goV F hE hB (k_X8_run hI σ0 52 (Or.inr rfl) hc4) (ca_RX9_364 F.2.2.2.2 ⟨Nat.le_of_ble_eq_true rfl, Nat.le_of_ble_eq_true rfl⟩) rfl po_52 rfl hl.1 rfl (Nat.le_of_ble_eq_true rfl) dX9_tryLoad_82 ⟨Nat.le_of_ble_eq_true rfl, Nat.le_of_ble_eq_true rfl⟩) (fun H locs hB => ?_)
        exact q_vret F hlocks hr hB (Option.some.inj h) dX9_tryLoad_85
      · replace h := ie_e c3 h
        refine lv_aload_n F.1 F.2.1 dX9_tryLoad_24 rfl (lv_at hl 0 rfl) ?_
        refine gf_RX9_56 F hE hB po_0 rfl dX9_tryLoad_25 ?_
        refine lv_iload_n F.1 F.2.1 dX9_tryLoad_28 rfl (lv_at hl 2 rfl) ?_
        refine lv_iload_n F.1 F.2.1 dX9_tryLoad_29 rfl (lv_at hl 1 rfl) ?_
        refine lv_aload_n F.1 F.2.1 dX9_tryLoad_30 rfl (lv_at hl 0 rfl) ?_
        refine gf_RX9_18 F hE hB po_0 rfl dX9_tryLoad_31 ?_
        refine lv_iload_n F.1 F.2.1 dX9_tryLoad_34 rfl (lv_at hl 2 rfl) ?_
        refine lv_aload_n F.1 F.2.1 dX9_tryLoad_35 rfl (lv_at hl 0 rfl) ?_
        refine gf_RX9_18 F hE hB po_0 rfl dX9_tryLoad_36 ?_
        refine gf_RX9_358 F hE hB po_6 rfl dX9_tryLoad_39 ?_
        refine lv_iload_n F.1 F.2.1 dX9_tryLoad_42 rfl (lv_at hl 2 rfl) ?_
        obtain ⟨hi6, h⟩ := ck_e h
        refine q_iald F hE hB po_8 hi6 dX9_tryLoad_43 ?_
        refine lv_aload_n F.1 F.2.1 dX9_tryLoad_44 rfl (lv_at hl 0 rfl) ?_
        refine gf_RX9_18 F hE hB po_0 rfl dX9_tryLoad_45 ?_
        refine gf_RX9_217 F hE hB po_6 rfl dX9_tryLoad_48 ?_
        refine lv_iload_n F.1 F.2.1 dX9_tryLoad_51 rfl (lv_at hl 2 rfl) ?_
        obtain ⟨hi7, h⟩ := ck_e h
        refine q_iald F hE hB po_9 hi7 dX9_tryLoad_52 ?_
        refine lv_aload_n F.1 F.2.1 dX9_tryLoad_53 rfl (lv_at hl 0 rfl) ?_
        refine gf_RX9_73 F hE hB po_0 rfl dX9_tryLoad_54 ?_
        refine lv_aload_n F.1 F.2.1 dX9_tryLoad_57 rfl (lv_at hl 0 rfl) ?_
        refine gf_RX9_32 F hE hB po_0 rfl dX9_tryLoad_58 ?_
        refine gf_RX9_367 F hE hB po_21 rfl dX9_tryLoad_61 ?_
        refine lv_iload_n F.1 F.2.1 dX9_tryLoad_64 rfl (lv_at hl 1 rfl) ?_
        obtain ⟨hi8, h⟩ := ck_e h
        refine q_aldA F hE hB po_24 hi8 dX9_tryLoad_65 ?_
        obtain ⟨v10, hc9, h⟩ := bp_e h
        refine q_ci hB (q_goV F hE hB (k_X2_wouldLift hI σ0 x2 (σ0.1 8 x2.toNatClampNeg) (σ0.1 9 x2.toNatClampNeg) 62 row_62 (25 + x1.toNatClampNeg) (cr_row hi8) hc9) (ca_RX9_370 F.2.2.2.2 ⟨Nat.le_of_ble_eq_true rfl, Nat.le_of_ble_eq_true rfl⟩) rfl po_6 rfl hl.1 rfl (Nat.le_of_ble_eq_true rfl) dX9_tryLoad_66 ⟨Nat.le_of_ble_eq_true rfl, Nat.le_of_ble_eq_true rfl⟩) (fun H locs hB => ?_)
        obtain ⟨σ12, hc11, h⟩ := bv_e h
        refine q_cv hB (q_goV F hE hB (k_X8_setLifted hI σ0 52 (Or.inr rfl) x2 x1 v10 hc11) (ca_RX9_379 F.2.2.2.2 ⟨Nat.le_of_ble_eq_true rfl, Nat.le_of_ble_eq_true rfl⟩) rfl po_52 rfl hl.1 rfl (Nat.le_of_ble_eq_true rfl) dX9_tryLoad_69 ⟨Nat.le_of_ble_eq_true rfl, Nat.le_of_ble_eq_true rfl⟩) (fun H locs hB => ?_)
        refine lv_iinc (v := (x2 + (1 : Int32))) (lv' := [(2, .int (x2 + (1 : Int32))), (0, .ref (ad 0)), (1, .int x1)]) F.1 F.2.1 dX9_tryLoad_72 hl (k := 2) rfl rfl (by decide) rfl (fun ls hl => ?_)
        refine lv_goto (tgt := 13) F.1 F.2.1 dX9_tryLoad_75 (by decide) ?_
        exact ih13 σ12 _ _ _ x1 (x2 + (1 : Int32)) h hB (lv_sub hl [1, 2, 0] rfl)
  unfold f_X9_tryLoad at h
  refine lv_aload_n F.1 F.2.1 dX9_tryLoad_0 rfl (lv_at hl 0 rfl) ?_
  refine gf_RX9_56 F hE hB po_0 rfl dX9_tryLoad_1 ?_
  refine lv_aload_n F.1 F.2.1 dX9_tryLoad_4 rfl (lv_at hl 0 rfl) ?_
  refine gf_RX9_52 F hE hB po_0 rfl dX9_tryLoad_5 ?_
  obtain ⟨σ2, hc1, h⟩ := bv_e h
  refine q_cv hB (q_goV F hE hB (k_X8_takeOver hI σ0 52 (Or.inr rfl) 46 (Or.inl rfl) hc1) (ca_RX9_375 F.2.2.2.2 ⟨Nat.le_of_ble_eq_true rfl, Nat.le_of_ble_eq_true rfl⟩) rfl po_52 rfl hl.1 rfl (Nat.le_of_ble_eq_true rfl) dX9_tryLoad_8 ⟨Nat.le_of_ble_eq_true rfl, Nat.le_of_ble_eq_true rfl⟩) (fun H locs hB => ?_)
  refine lv_iconst (v := 0) F.1 F.2.1 dX9_tryLoad_11 (by decide) ?_
  refine lv_istore_n (lv' := [(2, .int (0 : Int32)), (0, .ref (ad 0)), (1, .int a1)]) F.1 F.2.1 dX9_tryLoad_12 rfl hl (by decide) rfl (fun ls hl => ?_)
  exact B13 300 σ2 _ _ _ a1 (0 : Int32) h hB (lv_sub hl [1, 2, 0] rfl)
