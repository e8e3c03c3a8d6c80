def f_X9_liftBits_b60 (σ0 : Mem) (k6 : Int32 → Int32 → Int32 → Int32 → Int32 → Option (Int32)) (x1 : Int32) (x2 : Int32) (x3 : Int32) (x4 : Int32) (x5 : Int32) : Option (Int32) := (k6 x1 x2 x3 x4 (x5 + (1 : Int32)))
def f_X9_liftBits_b6 (σ0 : Mem) : Nat → Int32 → Int32 → Int32 → Int32 → Int32 → Option (Int32)
  | 0, _, _, _, _, _ => none
  | n6 + 1, x1, x2, x3, x4, x5 => (if (σ0.1 10 2) ≤ x5 then (some x4) else (ck x5 8 (ck x5 8 (bp (f_X2_wouldLift σ0 x1 x2 x3 (13 + x5.toNatClampNeg) (25 + x5.toNatClampNeg)) (fun v5 => (if v5 = (0 : Int32) then (f_X9_liftBits_b60 σ0 (f_X9_liftBits_b6 σ0 n6) x1 x2 x3 x4 x5) else (f_X9_liftBits_b60 σ0 (f_X9_liftBits_b6 σ0 n6) x1 x2 x3 (x4 ||| ((1 : Int32) <<< (x5 &&& 31))) x5)))))))
def f_X9_liftBits (σ0 : Mem) (a1 : Int32) (a2 : Int32) (a3 : Int32) : Option (Int32) := (f_X9_liftBits_b6 σ0 300 a1 a2 a3 (0 : Int32) (0 : Int32))
set_option maxHeartbeats 4000000 in
set_option maxRecDepth 100000 in
theorem k_X9_liftBits {l : Launch} {D : va_G} {cy : Nat → ClassId} {ad : Nat → Nat} {ta tb : Nat} (hI : AdI ad) (σ0 : Mem) (a1 : Int32) (a2 : Int32) (a3 : Int32) {o : Int32} (h : f_X9_liftBits σ0 a1 a2 a3 = some o) : Met l yX9_liftBits (Cond.code yX9_liftBits cX9_liftBits 6 (some .int) :: wG) rm_X9_liftBits (CP D cy ad ta tb σ0 [.ref (ad 0), .int a1, .int a2, .int a3]) (CQi D cy ad o σ0) 0 0 (AA ad) := by
  refine Met.ofW (cc := cX9_liftBits) (maxL := 6) (ret := (some .int)) (by decide) rfl ?_
  intro p e s m args below meth c s₁ B hml hv
  obtain ⟨rfl, hE, hP⟩ := hv
  have hts := atoms_spec (ws := Cond.code yX9_liftBits cX9_liftBits 6 (some .int) :: wG) B.pre
  have F : CallFix p m c cX9_liftBits 6 s _ wG RX9 := ⟨B.exec, B.bytes, hml, findClass_of_methodNamed B.named, fun w hw => hts w (List.mem_cons_of_mem _ hw)⟩
  have hr := B.returns
  have hlocks := B.notSynchronized
  have hB : Bd D cy ad σ0 s.heap s.heap [] := ⟨hP, va_S.rf⟩
  have hl := lv_entry ([.ref (ad 0), .int a1, .int a2, .int a3] : List Value) (n := 6) (Nat.le_of_ble_eq_true rfl)
  rw [lg_entry_eq]
  generalize (lg_sl ([.ref (ad 0), .int a1, .int a2, .int a3] : List Value) ++ List.replicate (6 - (lg_sl ([.ref (ad 0), .int a1, .int a2, .int a3] : List Value)).length) Slot.unset).toArray = ls at hl ⊢
  have hl : lv_has ls 6 [(0, .ref (ad 0)), (1, .int a1), (2, .int a2), (3, .int a3)] := hl
  have B6 : ∀ (n6 : Nat) (H : Heap) (locs : List Loc) (ls : Array Slot) (x1 : Int32) (x2 : Int32) (x3 : Int32) (x4 : Int32) (x5 : Int32), f_X9_liftBits_b6 σ0 n6 x1 x2 x3 x4 x5 = some o → Bd D cy ad σ0 s.heap H locs → lv_has ls 6 [(0, .ref (ad 0)), (1, .int x1), (2, .int x2), (3, .int x3), (4, .int x4), (5, .int x5)] → W p l e rm_X9_liftBits s m ([.ref (ad 0), .int a1, .int a2, .int a3] : List Value).toArray below meth c H locs 0 0 (MQ below (CQi D cy ad o σ0) ([.ref (ad 0), .int a1, .int a2, .int a3] : List Value).toArray s 0 0 (AA ad)) (F0 m 6 ls []) := by
    intro n6
    induction n6 with
    | zero => intro H locs ls x1 x2 x3 x4 x5 h hB hl; cases h
    | succ n6 ih6 =>
      have B60 : ∀ (H : Heap) (locs : List Loc) (ls : Array Slot) (x1 : Int32) (x2 : Int32) (x3 : Int32) (x4 : Int32) (x5 : Int32), f_X9_liftBits_b60 σ0 (f_X9_liftBits_b6 σ0 n6) x1 x2 x3 x4 x5 = some o → Bd D cy ad σ0 s.heap H locs → lv_has ls 6 [(0, .ref (ad 0)), (1, .int x1), (2, .int x2), (3, .int x3), (4, .int x4), (5, .int x5)] → W p l e rm_X9_liftBits s m ([.ref (ad 0), .int a1, .int a2, .int a3] : List Value).toArray below meth c H locs 0 0 (MQ below (CQi D cy ad o σ0) ([.ref (ad 0), .int a1, .int a2, .int a3] : List Value).toArray s 0 0 (AA ad)) (F0 m 60 ls []) := by
        intro H locs ls x1 x2 x3 x4 x5 h hB hl
        unfold f_X9_liftBits_b60 at h
        refine lv_iinc (v := (x5 + (1 : Int32))) (lv' := [(5, .int (x5 + (1 : Int32))), (0, .ref (ad 0)), (1, .int x1), (2, .int x2), (3, .int x3), (4, .int x4)]) F.1 F.2.1 dX9_liftBits_60 hl (k := 5) rfl rfl (by decide) rfl (fun ls hl => ?_)
        refine lv_goto (tgt := 6) F.1 F.2.1 dX9_liftBits_63 (by decide) ?_
        exact ih6 _ _ _ x1 x2 x3 x4 (x5 + (1 : Int32)) h hB (lv_sub hl [1, 2, 3, 4, 5, 0] rfl)
      intro H locs ls x1 x2 x3 x4 x5 h hB hl
      rw [f_X9_liftBits_b6] at h
      refine lv_iload F.1 F.2.1 dX9_liftBits_6 (lv_at hl 5 rfl) ?_
      refine lv_aload_n F.1 F.2.1 dX9_liftBits_8 rfl (lv_at hl 0 rfl) ?_
      refine gf_RX9_25 F hE hB po_0 rfl dX9_liftBits_9 ?_
      refine gf_RX9_168 F hE hB po_10 rfl dX9_liftBits_12 ?_
      refine lv_icmp_ge (tgt := 66) F.1 F.2.1 dX9_liftBits_15 (by decide) (fun c1 => ?_) (fun c1 => ?_)
      · replace h := it_e c1 h
        refine lv_iload F.1 F.2.1 dX9_liftBits_66 (lv_at hl 4 rfl) ?_
        exact q_iret F hlocks hr hB (Option.some.inj h) rfl dX9_liftBits_68
      · replace h := ie_e c1 h
        refine lv_aload_n F.1 F.2.1 dX9_liftBits_18 rfl (lv_at hl 0 rfl) ?_
        refine gf_RX9_18 F hE hB po_0 rfl dX9_liftBits_19 ?_
        refine lv_iload_n F.1 F.2.1 dX9_liftBits_22 rfl (lv_at hl 1 rfl) ?_
        refine lv_iload_n F.1 F.2.1 dX9_liftBits_23 rfl (lv_at hl 2 rfl) ?_
        refine lv_iload_n F.1 F.2.1 dX9_liftBits_24 rfl (lv_at hl 3 rfl) ?_
        refine lv_aload_n F.1 F.2.1 dX9_liftBits_25 rfl (lv_at hl 0 rfl) ?_
        refine gf_RX9_25 F hE hB po_0 rfl dX9_liftBits_26 ?_
        refine gf_RX9_120 F hE hB po_10 rfl dX9_liftBits_29 ?_
        refine lv_iload F.1 F.2.1 dX9_liftBits_32 (lv_at hl 5 rfl) ?_
        obtain ⟨hi2, h⟩ := ck_e h
        refine q_aldA F hE hB po_11 hi2 dX9_liftBits_34 ?_
        refine lv_aload_n F.1 F.2.1 dX9_liftBits_35 rfl (lv_at hl 0 rfl) ?_
        refine gf_RX9_32 F hE hB po_0 rfl dX9_liftBits_36 ?_
        refine gf_RX9_367 F hE hB po_21 rfl dX9_liftBits_39 ?_
        refine lv_iload F.1 F.2.1 dX9_liftBits_42 (lv_at hl 5 rfl) ?_
        obtain ⟨hi3, h⟩ := ck_e h
        refine q_aldA F hE hB po_24 hi3 dX9_liftBits_44 ?_
        obtain ⟨v5, hc4, h⟩ := bp_e h
        refine q_ci hB (q_goV F hE hB (k_X2_wouldLift hI σ0 x1 x2 x3 (13 + x5.toNatClampNeg) (mk_row hi2) (25 + x5.toNatClampNeg) (cr_row hi3) hc4) (ca_RX9_370 F.2.2.2.2 ⟨Nat.le_of_ble_eq_true rfl, Nat.le_of_ble_eq_true rfl⟩) rfl po_6 rfl hl.1 rfl (Nat.le_of_ble_eq_true rfl) dX9_liftBits_45 ⟨Nat.le_of_ble_eq_true rfl, Nat.le_of_ble_eq_true rfl⟩) (fun H locs hB => ?_)
        refine lv_if_eq (tgt := 60) F.1 F.2.1 dX9_liftBits_48 (by decide) (fun c6 => ?_) (fun c6 => ?_)
        · replace h := it_e c6 h
          exact B60 _ _ _ x1 x2 x3 x4 x5 h hB (lv_sub hl [0, 1, 2, 3, 4, 5] rfl)
        · replace h := ie_e c6 h
          refine lv_iload F.1 F.2.1 dX9_liftBits_51 (lv_at hl 4 rfl) ?_
          refine lv_iconst (v := 1) F.1 F.2.1 dX9_liftBits_53 (by decide) ?_
          refine lv_iload F.1 F.2.1 dX9_liftBits_54 (lv_at hl 5 rfl) ?_
          refine lv_ishl F.1 F.2.1 dX9_liftBits_56 ?_
          refine lv_ior F.1 F.2.1 dX9_liftBits_57 ?_
          refine lv_istore (lv' := [(4, .int (x4 ||| ((1 : Int32) <<< (x5 &&& 31)))), (0, .ref (ad 0)), (1, .int x1), (2, .int x2), (3, .int x3), (5, .int x5)]) F.1 F.2.1 dX9_liftBits_58 hl (by decide) rfl (fun ls hl => ?_)
          exact B60 _ _ _ x1 x2 x3 (x4 ||| ((1 : Int32) <<< (x5 &&& 31))) x5 h hB (lv_sub hl [1, 2, 3, 4, 0, 5] rfl)
  unfold f_X9_liftBits at h
  refine lv_iconst (v := 0) F.1 F.2.1 dX9_liftBits_0 (by decide) ?_
  refine lv_istore (lv' := [(4, .int (0 : Int32)), (0, .ref (ad 0)), (1, .int a1), (2, .int a2), (3, .int a3)]) F.1 F.2.1 dX9_liftBits_1 hl (by decide) rfl (fun ls hl => ?_)
  refine lv_iconst (v := 0) F.1 F.2.1 dX9_liftBits_3 (by decide) ?_
  refine lv_istore (lv' := [(5, .int (0 : Int32)), (4, .int (0 : Int32)), (0, .ref (ad 0)), (1, .int a1), (2, .int a2), (3, .int a3)]) F.1 F.2.1 dX9_liftBits_4 hl (by decide) rfl (fun ls hl => ?_)
  exact B6 300 _ _ _ a1 a2 a3 (0 : Int32) (0 : Int32) h hB (lv_sub hl [2, 3, 4, 5, 1, 0] rfl)
def f_X9_resail_b59 : Nat → Mem → Int32 → Option (Mem)
  | 0, _, _ => none
  | n59 + 1, σ0, x1 => (if (σ0.1 6 3) ≤ x1 then (bv (f_X8_run σ0 46) (fun σ12 => (some σ12))) else (ck x1 8 (ck x1 8 (bp (f_X9_liftBits σ0 x1 (σ0.1 8 x1.toNatClampNeg) (σ0.1 9 x1.toNatClampNeg)) (fun v16 => (ck x1 8 (lt (ms σ0 47 x1.toNatClampNeg v16) (fun σ18 => (f_X9_resail_b59 n59 σ18 (x1 + (1 : Int32)))))))))))
def f_X9_resail (σ0 : Mem) : Option (Mem) := (lt (ms σ0 58 3 (0 : Int32)) (fun σ1 => (lt (ms σ1 46 5 (σ1.1 6 3)) (fun σ3 => (lt (ms σ3 46 6 (σ3.1 10 2)) (fun σ5 => (cp (0 : Int32) (0 : Int32) (8 : Int32) 8 8 (lt (mw σ5 48 (va_cpy (σ5.1 12) (σ5.1 48) (0 : Int32).toNatClampNeg (0 : Int32).toNatClampNeg (8 : Int32).toNatClampNeg)) (fun σ8 => (f_X9_resail_b59 300 σ8 (0 : Int32)))))))))))
set_option maxHeartbeats 4000000 in
set_option maxRecDepth 100000 in
theorem k_X9_resail {l : Launch} {D : va_G} {cy : Nat → ClassId} {ad : Nat → Nat} {ta tb : Nat} (hI : AdI ad) (σ0 : Mem) {o : Mem} (h : f_X9_resail σ0 = some o) : Met l yX9_resail (Cond.code yX9_resail cX9_resail 2 none :: wG) rm_X9_resail (CP D cy ad ta tb σ0 [.ref (ad 0)]) (CQv D cy ad o) 0 0 (AA ad) := by
  refine Met.ofW (cc := cX9_resail) (maxL := 2) (ret := none) (by decide) rfl ?_
  intro p e s m args below meth c s₁ B hml hv
  obtain ⟨rfl, hE, hP⟩ := hv
  have hts := atoms_spec (ws := Cond.code yX9_resail cX9_resail 2 none :: wG) B.pre
  have F : CallFix p m c cX9_resail 2 s _ wG RX9 := ⟨B.exec, B.bytes, hml, findClass_of_methodNamed B.named, fun w hw => hts w (List.mem_cons_of_mem _ hw)⟩
  have hr := B.returns
  have hlocks := B.notSynchronized
  have hB : Bd D cy ad σ0 s.heap s.heap [] := ⟨hP, va_S.rf⟩
  have hl := lv_entry ([.ref (ad 0)] : List Value) (n := 2) (Nat.le_of_ble_eq_true rfl)
  rw [lg_entry_eq]
  generalize (lg_sl ([.ref (ad 0)] : List Value) ++ List.replicate (2 - (lg_sl ([.ref (ad 0)] : List Value)).length) Slot.unset).toArray = ls at hl ⊢
  have hl : lv_has ls 2 [(0, .ref (ad 0))] := hl
  have B59 : ∀ (n59 : Nat) (σ0 : Mem) (H : Heap) (locs : List Loc) (ls : Array Slot) (x1 : Int32), f_X9_resail_b59 n59 σ0 x1 = some o → Bd D cy ad σ0 s.heap H locs → lv_has ls 2 [(0, .ref (ad 0)), (1, .int x1)] → W p l e rm_X9_resail s m ([.ref (ad 0)] : List Value).toArray below meth c H locs 0 0 (MQ below (CQv D cy ad o) ([.ref (ad 0)] : List Value).toArray s 0 0 (AA ad)) (F0 m 59 ls []) := by
    intro n59
    induction n59 with
    | zero => intro σ0 H locs ls x1 h hB hl; cases h
    | succ n59 ih59 =>
      intro σ0 H locs ls x1 h hB hl
      rw [f_X9_resail_b59] at h
      refine lv_iload_n F.1 F.2.1 dX9_resail_59 rfl (lv_at hl 1 rfl) ?_
      refine lv_aload_n F.1 F.2.1 dX9_resail_60 rfl (lv_at hl 0 rfl) ?_
      refine gf_RX9_18 F hE hB po_0 rfl dX9_resail_61 ?_
      refine gf_RX9_279 F hE hB po_6 rfl dX9_resail_64 ?_
      refine lv_icmp_ge (tgt := 108) F.1 F.2.1 dX9_resail_67 (by decide) (fun c10 => ?_) (fun c10 => ?_)
      · replace h := it_e c10 h
        refine lv_aload_n F.1 F.2.1 dX9_resail_108 rfl (lv_at hl 0 rfl) ?_
        refine gf_RX9_52 F hE hB po_0 rfl dX9_resail_109 ?_
        obtain ⟨σ12, hc11, h⟩ := bv_e h
        refine q_cv hB (q_goV F hE hB (k_X8_run hI σ0 46 (Or.inl rfl) hc11) (ca_RX9_364 F.2.2.2.2 ⟨Nat.le_of_ble_eq_true rfl, Nat.le_of_ble_eq_true rfl⟩) rfl po_46 rfl hl.1 rfl (Nat.le_of_ble_eq_true rfl) dX9_resail_112 ⟨Nat.le_of_ble_eq_true rfl, Nat.le_of_ble_eq_true rfl⟩) (fun H locs hB => ?_)
        exact q_vret F hlocks hr hB (Option.some.inj h) dX9_resail_115
      · replace h := ie_e c10 h
        refine lv_aload_n F.1 F.2.1 dX9_resail_70 rfl (lv_at hl 0 rfl) ?_
        refine gf_RX9_52 F hE hB po_0 rfl dX9_resail_71 ?_
        refine gf_RX9_355 F hE hB po_46 rfl dX9_resail_74 ?_
        refine lv_iload_n F.1 F.2.1 dX9_resail_77 rfl (lv_at hl 1 rfl) ?_
        refine lv_aload_n F.1 F.2.1 dX9_resail_78 rfl (lv_at hl 0 rfl) ?_
        refine lv_iload_n F.1 F.2.1 dX9_resail_79 rfl (lv_at hl 1 rfl) ?_
        refine lv_aload_n F.1 F.2.1 dX9_resail_80 rfl (lv_at hl 0 rfl) ?_
        refine gf_RX9_18 F hE hB po_0 rfl dX9_resail_81 ?_
        refine gf_RX9_358 F hE hB po_6 rfl dX9_resail_84 ?_
        refine lv_iload_n F.1 F.2.1 dX9_resail_87 rfl (lv_at hl 1 rfl) ?_
        obtain ⟨hi13, h⟩ := ck_e h
        refine q_iald F hE hB po_8 hi13 dX9_resail_88 ?_
        refine lv_aload_n F.1 F.2.1 dX9_resail_89 rfl (lv_at hl 0 rfl) ?_
        refine gf_RX9_18 F hE hB po_0 rfl dX9_resail_90 ?_
        refine gf_RX9_217 F hE hB po_6 rfl dX9_resail_93 ?_
        refine lv_iload_n F.1 F.2.1 dX9_resail_96 rfl (lv_at hl 1 rfl) ?_
        obtain ⟨hi14, h⟩ := ck_e h
        refine q_iald F hE hB po_9 hi14 dX9_resail_97 ?_
        obtain ⟨v16, hc15, h⟩ := bp_e h
        refine q_ci hB (q_goV F hE hB (k_X9_liftBits hI σ0 x1 (σ0.1 8 x1.toNatClampNeg) (σ0.1 9 x1.toNatClampNeg) hc15) (ca_RX9_361 F.2.2.2.2 ⟨Nat.le_of_ble_eq_true rfl, Nat.le_of_ble_eq_true rfl⟩) rfl po_0 rfl hl.1 rfl (Nat.le_of_ble_eq_true rfl) dX9_resail_98 ⟨Nat.le_of_ble_eq_true rfl, Nat.le_of_ble_eq_true rfl⟩) (fun H locs hB => ?_)
        obtain ⟨hi17, h⟩ := ck_e h
        obtain ⟨σ18, e19, h⟩ := lt_e h
        refine q_iast F hE hI hB row_47 hi17 dX9_resail_101 e19 (fun H locs hB => ?_)
        refine lv_iinc (v := (x1 + (1 : Int32))) (lv' := [(1, .int (x1 + (1 : Int32))), (0, .ref (ad 0))]) F.1 F.2.1 dX9_resail_102 hl (k := 1) rfl rfl (by decide) rfl (fun ls hl => ?_)
        refine lv_goto (tgt := 59) F.1 F.2.1 dX9_resail_105 (by decide) ?_
        exact ih59 σ18 _ _ _ (x1 + (1 : Int32)) h hB (lv_sub hl [1, 0] rfl)
  unfold f_X9_resail at h
  refine lv_aload_n F.1 F.2.1 dX9_resail_0 rfl (lv_at hl 0 rfl) ?_
  refine gf_RX9_62 F hE hB po_0 rfl dX9_resail_1 ?_
  refine lv_iconst (v := 0) F.1 F.2.1 dX9_resail_4 (by decide) ?_
  obtain ⟨σ1, e2, h⟩ := lt_e h
  refine pf_RX9_345 F hE hI hB po_58 rfl rfl (Nat.le_of_ble_eq_true rfl) rfl dX9_resail_5 e2 (fun H locs hB => ?_)
  refine lv_aload_n F.1 F.2.1 dX9_resail_8 rfl (lv_at hl 0 rfl) ?_
  refine gf_RX9_52 F hE hB po_0 rfl dX9_resail_9 ?_
  refine lv_aload_n F.1 F.2.1 dX9_resail_12 rfl (lv_at hl 0 rfl) ?_
  refine gf_RX9_18 F hE hB po_0 rfl dX9_resail_13 ?_
  refine gf_RX9_279 F hE hB po_6 rfl dX9_resail_16 ?_
  obtain ⟨σ3, e4, h⟩ := lt_e h
  refine pf_RX9_348 F hE hI hB po_46 rfl rfl (Nat.le_of_ble_eq_true rfl) rfl dX9_resail_19 e4 (fun H locs hB => ?_)
  refine lv_aload_n F.1 F.2.1 dX9_resail_22 rfl (lv_at hl 0 rfl) ?_
  refine gf_RX9_52 F hE hB po_0 rfl dX9_resail_23 ?_
  refine lv_aload_n F.1 F.2.1 dX9_resail_26 rfl (lv_at hl 0 rfl) ?_
  refine gf_RX9_25 F hE hB po_0 rfl dX9_resail_27 ?_
  refine gf_RX9_168 F hE hB po_10 rfl dX9_resail_30 ?_
  obtain ⟨σ5, e6, h⟩ := lt_e h
  refine pf_RX9_351 F hE hI hB po_46 rfl rfl (Nat.le_of_ble_eq_true rfl) rfl dX9_resail_33 e6 (fun H locs hB => ?_)
  refine lv_aload_n F.1 F.2.1 dX9_resail_36 rfl (lv_at hl 0 rfl) ?_
  refine gf_RX9_25 F hE hB po_0 rfl dX9_resail_37 ?_
  refine gf_RX9_117 F hE hB po_10 rfl dX9_resail_40 ?_
  refine lv_iconst (v := 0) F.1 F.2.1 dX9_resail_43 (by decide) ?_
  refine lv_aload_n F.1 F.2.1 dX9_resail_44 rfl (lv_at hl 0 rfl) ?_
  refine gf_RX9_52 F hE hB po_0 rfl dX9_resail_45 ?_
  refine gf_RX9_354 F hE hB po_46 rfl dX9_resail_48 ?_
  refine lv_iconst (v := 0) F.1 F.2.1 dX9_resail_51 (by decide) ?_
  refine lv_bipush (v := 8) F.1 F.2.1 dX9_resail_52 (by decide) ?_
  obtain ⟨hp7, h⟩ := cp_e h
  obtain ⟨σ8, e9, h⟩ := lt_e h
  refine q_copy F hE hI hl.1 hB row_12 row_48 wm_l_RX9_268 wm_ac_n wm_ac_s wm_ac_i hp7 (Nat.le_of_ble_eq_true rfl) (Nat.le_of_ble_eq_true rfl) dX9_resail_54 e9 (fun H locs hB => ?_)
  refine lv_iconst (v := 0) F.1 F.2.1 dX9_resail_57 (by decide) ?_
  refine lv_istore_n (lv' := [(1, .int (0 : Int32)), (0, .ref (ad 0))]) F.1 F.2.1 dX9_resail_58 rfl hl (by decide) rfl (fun ls hl => ?_)
  exact B59 300 σ8 _ _ _ (0 : Int32) h hB (lv_sub hl [1, 0] rfl)
def f_X9_understand_b33 (σ0 : Mem) : Option (Mem) := (bv (f_X9_resail σ0) (fun σ6 => (some σ6)))
def f_X9_understand (σ0 : Mem) (a1 : Int32) : Option (Mem) := (if a1 = (0 : Int32) then (ck (0 : Int32) 2 (bv (f_X2_parse σ0 (2 + 2 * (0 : Int32).toNatClampNeg)) (fun σ9 => (f_X9_understand_b33 σ9)))) else (ck (1 : Int32) 2 (bv (f_X1_parse σ0 (2 + 2 * (1 : Int32).toNatClampNeg)) (fun σ4 => (f_X9_understand_b33 σ4)))))
set_option maxHeartbeats 4000000 in
set_option maxRecDepth 100000 in
theorem k_X9_understand {l : Launch} {D : va_G} {cy : Nat → ClassId} {ad : Nat → Nat} {ta tb : Nat} (hI : AdI ad) (σ0 : Mem) (a1 : Int32) {o : Mem} (h : f_X9_understand σ0 a1 = some o) : Met l yX9_understand (Cond.code yX9_understand cX9_understand 2 none :: wG) rm_X9_understand (CP D cy ad ta tb σ0 [.ref (ad 0), .int a1]) (CQv D cy ad o) 0 0 (AA ad) := by
  refine Met.ofW (cc := cX9_understand) (maxL := 2) (ret := none) (by decide) rfl ?_
  intro p e s m args below meth c s₁ B hml hv
  obtain ⟨rfl, hE, hP⟩ := hv
  have hts := atoms_spec (ws := Cond.code yX9_understand cX9_understand 2 none :: wG) B.pre
  have F : CallFix p m c cX9_understand 2 s _ wG RX9 := ⟨B.exec, B.bytes, hml, findClass_of_methodNamed B.named, fun w hw => hts w (List.mem_cons_of_mem _ hw)⟩
  have hr := B.returns
  have hlocks := B.notSynchronized
  have hB : Bd D cy ad σ0 s.heap s.heap [] := ⟨hP, va_S.rf⟩
  have hl := lv_entry ([.ref (ad 0), .int a1] : List Value) (n := 2) (Nat.le_of_ble_eq_true rfl)
  rw [lg_entry_eq]
  generalize (lg_sl ([.ref (ad 0), .int a1] : List Value) ++ List.replicate (2 - (lg_sl ([.ref (ad 0), .int a1] : List Value)).length) Slot.unset).toArray = ls at hl ⊢
  have hl : lv_has ls 2 [(0, .ref (ad 0)), (1, .int a1)] := hl
  have B33 : ∀ (σ0 : Mem) (H : Heap) (locs : List Loc) (ls : Array Slot), f_X9_understand_b33 σ0 = some o → Bd D cy ad σ0 s.heap H locs → lv_has ls 2 [(0, .ref (ad 0))] → W p l e rm_X9_understand s m ([.ref (ad 0), .int a1] : List Value).toArray below meth c H locs 0 0 (MQ below (CQv D cy ad o) ([.ref (ad 0), .int a1] : List Value).toArray s 0 0 (AA ad)) (F0 m 33 ls []) := by
    intro σ0 H locs ls h hB hl
    unfold f_X9_understand_b33 at h
    refine lv_aload_n F.1 F.2.1 dX9_understand_33 rfl (lv_at hl 0 rfl) ?_
    obtain ⟨σ6, hc5, h⟩ := bv_e h
    refine q_cv hB (q_goV F hE hB (k_X9_resail hI σ0 hc5) (ca_RX9_131 F.2.2.2.2 ⟨Nat.le_of_ble_eq_true rfl, Nat.le_of_ble_eq_true rfl⟩) rfl po_0 rfl hl.1 rfl (Nat.le_of_ble_eq_true rfl) dX9_understand_34 ⟨Nat.le_of_ble_eq_true rfl, Nat.le_of_ble_eq_true rfl⟩) (fun H locs hB => ?_)
    exact q_vret F hlocks hr hB (Option.some.inj h) dX9_understand_37
  unfold f_X9_understand at h
  refine lv_iload_n F.1 F.2.1 dX9_understand_0 rfl (lv_at hl 1 rfl) ?_
  refine lv_if_ne (tgt := 20) F.1 F.2.1 dX9_understand_1 (by decide) (fun c1 => ?_) (fun c1 => ?_)
  · replace h := ie_e c1 h
    refine lv_aload_n F.1 F.2.1 dX9_understand_20 rfl (lv_at hl 0 rfl) ?_
    refine gf_RX9_25 F hE hB po_0 rfl dX9_understand_21 ?_
    refine lv_aload_n F.1 F.2.1 dX9_understand_24 rfl (lv_at hl 0 rfl) ?_
    refine gf_RX9_11 F hE hB po_0 rfl dX9_understand_25 ?_
    refine lv_iconst (v := 1) F.1 F.2.1 dX9_understand_28 (by decide) ?_
    obtain ⟨hi2, h⟩ := ck_e h
    refine q_aldq (t0 := 2) F hE hB po_1 rfl hi2 dX9_understand_29 ?_
    obtain ⟨σ4, hc3, h⟩ := bv_e h
    refine q_cv hB (q_goV F hE hB (k_X1_parse hI σ0 (2 + 2 * (1 : Int32).toNatClampNeg) (tx_role hi2) hc3) (ca_RX9_344 F.2.2.2.2 ⟨Nat.le_of_ble_eq_true rfl, Nat.le_of_ble_eq_true rfl⟩) rfl po_10 rfl hl.1 rfl (Nat.le_of_ble_eq_true rfl) dX9_understand_30 ⟨Nat.le_of_ble_eq_true rfl, Nat.le_of_ble_eq_true rfl⟩) (fun H locs hB => ?_)
    exact B33 σ4 _ _ _ h hB (lv_sub hl [0] rfl)
  · replace h := it_e c1 h
    refine lv_aload_n F.1 F.2.1 dX9_understand_4 rfl (lv_at hl 0 rfl) ?_
    refine gf_RX9_18 F hE hB po_0 rfl dX9_understand_5 ?_
    refine lv_aload_n F.1 F.2.1 dX9_understand_8 rfl (lv_at hl 0 rfl) ?_
    refine gf_RX9_11 F hE hB po_0 rfl dX9_understand_9 ?_
    refine lv_iconst (v := 0) F.1 F.2.1 dX9_understand_12 (by decide) ?_
    obtain ⟨hi7, h⟩ := ck_e h
    refine q_aldq (t0 := 2) F hE hB po_1 rfl hi7 dX9_understand_13 ?_
    obtain ⟨σ9, hc8, h⟩ := bv_e h
    refine q_cv hB (q_goV F hE hB (k_X2_parse hI σ0 (2 + 2 * (0 : Int32).toNatClampNeg) (tx_role hi7) hc8) (ca_RX9_340 F.2.2.2.2 ⟨Nat.le_of_ble_eq_true rfl, Nat.le_of_ble_eq_true rfl⟩) rfl po_6 rfl hl.1 rfl (Nat.le_of_ble_eq_true rfl) dX9_understand_14 ⟨Nat.le_of_ble_eq_true rfl, Nat.le_of_ble_eq_true rfl⟩) (fun H locs hB => ?_)
    refine lv_goto (tgt := 33) F.1 F.2.1 dX9_understand_17 (by decide) ?_
    exact B33 σ9 _ _ _ h hB (lv_sub hl [0] rfl)
def f_X9_type (σ0 : Mem) (a1 : Int32) (a2 : Int32) : Option (Int32 × Mem) := (bp (f_X9_isWithin σ0 a1 (2 : Int32)) (fun v2 => (if v2 = (0 : Int32) then (some ((-2 : Int32), σ0)) else (bp (f_X9_isWithin σ0 a2 (256 : Int32)) (fun v5 => (if v5 = (0 : Int32) then (some ((-2 : Int32), σ0)) else (ck a1 2 (bp (f_X7_isFull σ0 (2 + 2 * a1.toNatClampNeg)) (fun v9 => (if v9 = (0 : Int32) then (bv (f_X7_append σ0 (2 + 2 * a1.toNatClampNeg) a2) (fun σ12 => (bv (f_X9_understand σ12 a1) (fun σ14 => (some ((σ14.1 (2 + 2 * a1.toNatClampNeg) 1), σ14)))))) else (some ((-4 : Int32), σ0))))))))))))
set_option maxHeartbeats 4000000 in
set_option maxRecDepth 100000 in
theorem k_X9_type {l : Launch} {D : va_G} {cy : Nat → ClassId} {ad : Nat → Nat} {ta tb : Nat} (hI : AdI ad) (σ0 : Mem) (a1 : Int32) (a2 : Int32) {o : Int32 × Mem} (h : f_X9_type σ0 a1 a2 = some o) : Met l yX9_type (Cond.code yX9_type cX9_type 4 (some .int) :: wG) rm_X9_type (CP D cy ad ta tb σ0 [.ref (ad 0), .int a1, .int a2]) (CQi D cy ad o.1 o.2) 0 0 (AA ad) := by
  refine Met.ofW (cc := cX9_type) (maxL := 4) (ret := (some .int)) (by decide) rfl ?_
  intro p e s m args below meth c s₁ B hml hv
  obtain ⟨rfl, hE, hP⟩ := hv
  have hts := atoms_spec (ws := Cond.code yX9_type cX9_type 4 (some .int) :: wG) B.pre
  have F : CallFix p m c cX9_type 4 s _ wG RX9 := ⟨B.exec, B.bytes, hml, findClass_of_methodNamed B.named, fun w hw => hts w (List.mem_cons_of_mem _ hw)⟩
  have hr := B.returns
  have hlocks := B.notSynchronized
  have hB : Bd D cy ad σ0 s.heap s.heap [] := ⟨hP, va_S.rf⟩
  have hl := lv_entry ([.ref (ad 0), .int a1, .int a2] : List Value) (n := 4) (Nat.le_of_ble_eq_true rfl)
  rw [lg_entry_eq]
  generalize (lg_sl ([.ref (ad 0), .int a1, .int a2] : List Value) ++ List.replicate (4 - (lg_sl ([.ref (ad 0), .int a1, .int a2] : List Value)).length) Slot.unset).toArray = ls at hl ⊢
  have hl : lv_has ls 4 [(0, .ref (ad 0)), (1, .int a1), (2, .int a2)] := hl
  unfold f_X9_type at h
  refine lv_iload_n F.1 F.2.1 dX9_type_0 rfl (lv_at hl 1 rfl) ?_
  refine lv_iconst (v := 2) F.1 F.2.1 dX9_type_1 (by decide) ?_
  obtain ⟨v2, hc1, h⟩ := bp_e h
  refine q_ci hB (q_goS F hE hB (k_X9_isWithin hI σ0 a1 (2 : Int32) hc1) (ca_RX9_84 F.2.2.2.2 ⟨Nat.le_of_ble_eq_true rfl, Nat.le_of_ble_eq_true rfl⟩) rfl hl.1 rfl (Nat.le_of_ble_eq_true rfl) dX9_type_2 ⟨Nat.le_of_ble_eq_true rfl, Nat.le_of_ble_eq_true rfl⟩) (fun H locs hB => ?_)
  refine lv_if_eq (tgt := 18) F.1 F.2.1 dX9_type_5 (by decide) (fun c3 => ?_) (fun c3 => ?_)
  · replace h := it_e c3 h
    refine lv_bipush (v := (-2)) F.1 F.2.1 dX9_type_18 (by decide) ?_
    exact q_iret F hlocks hr hB (so1 h) (so2 h) dX9_type_20
  · replace h := ie_e c3 h
    refine lv_iload_n F.1 F.2.1 dX9_type_8 rfl (lv_at hl 2 rfl) ?_
    refine lv_sipush (v := 256) F.1 F.2.1 dX9_type_9 (by decide) ?_
    obtain ⟨v5, hc4, h⟩ := bp_e h
    refine q_ci hB (q_goS F hE hB (k_X9_isWithin hI σ0 a2 (256 : Int32) hc4) (ca_RX9_84 F.2.2.2.2 ⟨Nat.le_of_ble_eq_true rfl, Nat.le_of_ble_eq_true rfl⟩) rfl hl.1 rfl (Nat.le_of_ble_eq_true rfl) dX9_type_12 ⟨Nat.le_of_ble_eq_true rfl, Nat.le_of_ble_eq_true rfl⟩) (fun H locs hB => ?_)
    refine lv_if_ne (tgt := 21) F.1 F.2.1 dX9_type_15 (by decide) (fun c6 => ?_) (fun c6 => ?_)
    · replace h := ie_e c6 h
      refine lv_aload_n F.1 F.2.1 dX9_type_21 rfl (lv_at hl 0 rfl) ?_
      refine gf_RX9_11 F hE hB po_0 rfl dX9_type_22 ?_
      refine lv_iload_n F.1 F.2.1 dX9_type_25 rfl (lv_at hl 1 rfl) ?_
      obtain ⟨hi7, h⟩ := ck_e h
      refine q_aldq (t0 := 2) F hE hB po_1 rfl hi7 dX9_type_26 ?_
      refine lv_astore_n (lv' := [(3, .ref (ad (2 + 2 * a1.toNatClampNeg))), (0, .ref (ad 0)), (1, .int a1), (2, .int a2)]) F.1 F.2.1 dX9_type_27 rfl hl (by decide) rfl (fun ls hl => ?_)
      refine lv_aload_n F.1 F.2.1 dX9_type_28 rfl (lv_at hl 0 rfl) ?_
      obtain ⟨v9, hc8, h⟩ := bp_e h
      refine q_ci hB (q_goV F hE hB (k_X7_isFull hI σ0 (2 + 2 * a1.toNatClampNeg) (tx_role hi7) hc8) (ca_RX9_88 F.2.2.2.2 ⟨Nat.le_of_ble_eq_true rfl, Nat.le_of_ble_eq_true rfl⟩) rfl (po_Text (tx_role hi7)) rfl hl.1 rfl (Nat.le_of_ble_eq_true rfl) dX9_type_29 ⟨Nat.le_of_ble_eq_true rfl, Nat.le_of_ble_eq_true rfl⟩) (fun H locs hB => ?_)
      refine lv_if_eq (tgt := 38) F.1 F.2.1 dX9_type_32 (by decide) (fun c10 => ?_) (fun c10 => ?_)
      · replace h := it_e c10 h
        refine lv_aload_n F.1 F.2.1 dX9_type_38 rfl (lv_at hl 0 rfl) ?_
        refine lv_iload_n F.1 F.2.1 dX9_type_39 rfl (lv_at hl 3 rfl) ?_
        obtain ⟨σ12, hc11, h⟩ := bv_e h
        refine q_cv hB (q_goV F hE hB (k_X7_append hI σ0 (2 + 2 * a1.toNatClampNeg) (tx_role hi7) a2 hc11) (ca_RX9_92 F.2.2.2.2 ⟨Nat.le_of_ble_eq_true rfl, Nat.le_of_ble_eq_true rfl⟩) rfl (po_Text (tx_role hi7)) rfl hl.1 rfl (Nat.le_of_ble_eq_true rfl) dX9_type_40 ⟨Nat.le_of_ble_eq_true rfl, Nat.le_of_ble_eq_true rfl⟩) (fun H locs hB => ?_)
        refine lv_aload_n F.1 F.2.1 dX9_type_43 rfl (lv_at hl 1 rfl) ?_
        refine lv_iload_n F.1 F.2.1 dX9_type_44 rfl (lv_at hl 2 rfl) ?_
        obtain ⟨σ14, hc13, h⟩ := bv_e h
        refine q_cv hB (q_goV F hE hB (k_X9_understand hI σ12 a1 hc13) (ca_RX9_95 F.2.2.2.2 ⟨Nat.le_of_ble_eq_true rfl, Nat.le_of_ble_eq_true rfl⟩) rfl po_0 rfl hl.1 rfl (Nat.le_of_ble_eq_true rfl) dX9_type_45 ⟨Nat.le_of_ble_eq_true rfl, Nat.le_of_ble_eq_true rfl⟩) (fun H locs hB => ?_)
        refine lv_aload_n F.1 F.2.1 dX9_type_48 rfl (lv_at hl 0 rfl) ?_
        refine gf_RX9_98 F hE hB (po_Text (tx_role hi7)) rfl dX9_type_49 ?_
        exact q_iret F hlocks hr hB (so1 h) (so2 h) dX9_type_52
      · replace h := ie_e c10 h
        refine lv_bipush (v := (-4)) F.1 F.2.1 dX9_type_35 (by decide) ?_
        exact q_iret F hlocks hr hB (so1 h) (so2 h) dX9_type_37
    · replace h := it_e c6 h
      refine lv_bipush (v := (-2)) F.1 F.2.1 dX9_type_18 (by decide) ?_
      exact q_iret F hlocks hr hB (so1 h) (so2 h) dX9_type_20
def f_X9_wipe (σ0 : Mem) (a1 : Int32) : Option (Int32 × Mem) := (bp (f_X9_isWithin σ0 a1 (2 : Int32)) (fun v2 => (if v2 = (0 : Int32) then (some ((-2 : Int32), σ0)) else (ck a1 2 (ck a1 2 (lt (ms σ0 (2 + 2 * a1.toNatClampNeg) 1 (0 : Int32)) (fun σ6 => (bv (f_X9_understand σ6 a1) (fun σ9 => (some ((σ0.1 (2 + 2 * a1.toNatClampNeg) 1), σ9)))))))))))
set_option maxHeartbeats 4000000 in
set_option maxRecDepth 100000 in
theorem k_X9_wipe {l : Launch} {D : va_G} {cy : Nat → ClassId} {ad : Nat → Nat} {ta tb : Nat} (hI : AdI ad) (σ0 : Mem) (a1 : Int32) {o : Int32 × Mem} (h : f_X9_wipe σ0 a1 = some o) : Met l yX9_wipe (Cond.code yX9_wipe cX9_wipe 3 (some .int) :: wG) rm_X9_wipe (CP D cy ad ta tb σ0 [.ref (ad 0), .int a1]) (CQi D cy ad o.1 o.2) 0 0 (AA ad) := by
  refine Met.ofW (cc := cX9_wipe) (maxL := 3) (ret := (some .int)) (by decide) rfl ?_
  intro p e s m args below meth c s₁ B hml hv
  obtain ⟨rfl, hE, hP⟩ := hv
  have hts := atoms_spec (ws := Cond.code yX9_wipe cX9_wipe 3 (some .int) :: wG) B.pre
  have F : CallFix p m c cX9_wipe 3 s _ wG RX9 := ⟨B.exec, B.bytes, hml, findClass_of_methodNamed B.named, fun w hw => hts w (List.mem_cons_of_mem _ hw)⟩
  have hr := B.returns
  have hlocks := B.notSynchronized
  have hB : Bd D cy ad σ0 s.heap s.heap [] := ⟨hP, va_S.rf⟩
  have hl := lv_entry ([.ref (ad 0), .int a1] : List Value) (n := 3) (Nat.le_of_ble_eq_true rfl)
  rw [lg_entry_eq]
  generalize (lg_sl ([.ref (ad 0), .int a1] : List Value) ++ List.replicate (3 - (lg_sl ([.ref (ad 0), .int a1] : List Value)).length) Slot.unset).toArray = ls at hl ⊢
  have hl : lv_has ls 3 [(0, .ref (ad 0)), (1, .int a1)] := hl
  unfold f_X9_wipe at h
  refine lv_iload_n F.1 F.2.1 dX9_wipe_0 rfl (lv_at hl 1 rfl) ?_
  refine lv_iconst (v := 2) F.1 F.2.1 dX9_wipe_1 (by decide) ?_
  obtain ⟨v2, hc1, h⟩ := bp_e h
  refine q_ci hB (q_goS F hE hB (k_X9_isWithin hI σ0 a1 (2 : Int32) hc1) (ca_RX9_84 F.2.2.2.2 ⟨Nat.le_of_ble_eq_true rfl, Nat.le_of_ble_eq_true rfl⟩) rfl hl.1 rfl (Nat.le_of_ble_eq_true rfl) dX9_wipe_2 ⟨Nat.le_of_ble_eq_true rfl, Nat.le_of_ble_eq_true rfl⟩) (fun H locs hB => ?_)
  refine lv_if_ne (tgt := 11) F.1 F.2.1 dX9_wipe_5 (by decide) (fun c3 => ?_) (fun c3 => ?_)
  · replace h := ie_e c3 h
    refine lv_aload_n F.1 F.2.1 dX9_wipe_11 rfl (lv_at hl 0 rfl) ?_
    refine gf_RX9_11 F hE hB po_0 rfl dX9_wipe_12 ?_
    refine lv_iload_n F.1 F.2.1 dX9_wipe_15 rfl (lv_at hl 1 rfl) ?_
    obtain ⟨hi4, h⟩ := ck_e h
    refine q_aldq (t0 := 2) F hE hB po_1 rfl hi4 dX9_wipe_16 ?_
    refine gf_RX9_98 F hE hB (po_Text (tx_role hi4)) rfl dX9_wipe_17 ?_
    refine lv_istore_n (lv' := [(2, .int (σ0.1 (2 + 2 * a1.toNatClampNeg) 1)), (0, .ref (ad 0)), (1, .int a1)]) F.1 F.2.1 dX9_wipe_20 rfl hl (by decide) rfl (fun ls hl => ?_)
    refine lv_aload_n F.1 F.2.1 dX9_wipe_21 rfl (lv_at hl 1 rfl) ?_
    refine gf_RX9_11 F hE hB po_0 rfl dX9_wipe_22 ?_
    refine lv_iload_n F.1 F.2.1 dX9_wipe_25 rfl (lv_at hl 2 rfl) ?_
    obtain ⟨hi5, h⟩ := ck_e h
    refine q_aldq (t0 := 2) F hE hB po_1 rfl hi5 dX9_wipe_26 ?_
    refine lv_iconst (v := 0) F.1 F.2.1 dX9_wipe_27 (by decide) ?_
    obtain ⟨σ6, e7, h⟩ := lt_e h
    refine pf_RX9_98 F hE hI hB (po_Text (tx_role hi5)) rfl rfl (Nat.le_of_ble_eq_true rfl) (ph_Text_1 (tx_role hi5)) dX9_wipe_28 e7 (fun H locs hB => ?_)
    refine lv_aload_n F.1 F.2.1 dX9_wipe_31 rfl (lv_at hl 1 rfl) ?_
    refine lv_iload_n F.1 F.2.1 dX9_wipe_32 rfl (lv_at hl 2 rfl) ?_
    obtain ⟨σ9, hc8, h⟩ := bv_e h
    refine q_cv hB (q_goV F hE hB (k_X9_understand hI σ6 a1 hc8) (ca_RX9_95 F.2.2.2.2 ⟨Nat.le_of_ble_eq_true rfl, Nat.le_of_ble_eq_true rfl⟩) rfl po_0 rfl hl.1 rfl (Nat.le_of_ble_eq_true rfl) dX9_wipe_33 ⟨Nat.le_of_ble_eq_true rfl, Nat.le_of_ble_eq_true rfl⟩) (fun H locs hB => ?_)
    refine lv_iload_n F.1 F.2.1 dX9_wipe_36 rfl (lv_at hl 0 rfl) ?_
    exact q_iret F hlocks hr hB (so1 h) (so2 h) dX9_wipe_37
  · replace h := it_e c3 h
    refine lv_bipush (v := (-2)) F.1 F.2.1 dX9_wipe_8 (by decide) ?_
    exact q_iret F hlocks hr hB (so1 h) (so2 h) dX9_wipe_10
def f_X9_undo (σ0 : Mem) (a1 : Int32) : Option (Int32 × Mem) := (bp (f_X9_isWithin σ0 a1 (2 : Int32)) (fun v2 => (if v2 = (0 : Int32) then (some ((-2 : Int32), σ0)) else (ck a1 2 (if (σ0.1 (2 + 2 * a1.toNatClampNeg) 1) = (0 : Int32) then (some ((-3 : Int32), σ0)) else (lt (ms σ0 (2 + 2 * a1.toNatClampNeg) 1 ((σ0.1 (2 + 2 * a1.toNatClampNeg) 1) - (1 : Int32))) (fun σ6 => (bv (f_X9_understand σ6 a1) (fun σ9 => (some ((σ9.1 (2 + 2 * a1.toNatClampNeg) 1), σ9)))))))))))
set_option maxHeartbeats 4000000 in
set_option maxRecDepth 100000 in
theorem k_X9_undo {l : Launch} {D : va_G} {cy : Nat → ClassId} {ad : Nat → Nat} {ta tb : Nat} (hI : AdI ad) (σ0 : Mem) (a1 : Int32) {o : Int32 × Mem} (h : f_X9_undo σ0 a1 = some o) : Met l yX9_undo (Cond.code yX9_undo cX9_undo 3 (some .int) :: wG) rm_X9_undo (CP D cy ad ta tb σ0 [.ref (ad 0), .int a1]) (CQi D cy ad o.1 o.2) 0 0 (AA ad) := by
  refine Met.ofW (cc := cX9_undo) (maxL := 3) (ret := (some .int)) (by decide) rfl ?_
  intro p e s m args below meth c s₁ B hml hv
  obtain ⟨rfl, hE, hP⟩ := hv
  have hts := atoms_spec (ws := Cond.code yX9_undo cX9_undo 3 (some .int) :: wG) B.pre
  have F : CallFix p m c cX9_undo 3 s _ wG RX9 := ⟨B.exec, B.bytes, hml, findClass_of_methodNamed B.named, fun w hw => hts w (List.mem_cons_of_mem _ hw)⟩
  have hr := B.returns
  have hlocks := B.notSynchronized
  have hB : Bd D cy ad σ0 s.heap s.heap [] := ⟨hP, va_S.rf⟩
  have hl := lv_entry ([.ref (ad 0), .int a1] : List Value) (n := 3) (Nat.le_of_ble_eq_true rfl)
  rw [lg_entry_eq]
  generalize (lg_sl ([.ref (ad 0), .int a1] : List Value) ++ List.replicate (3 - (lg_sl ([.ref (ad 0), .int a1] : List Value)).length) Slot.unset).toArray = ls at hl ⊢
  have hl : lv_has ls 3 [(0, .ref (ad 0)), (1, .int a1)] := hl
  unfold f_X9_undo at h
  refine lv_iload_n F.1 F.2.1 dX9_undo_0 rfl (lv_at hl 1 rfl) ?_
  refine lv_iconst (v := 2) F.1 F.2.1 dX9_undo_1 (by decide) ?_
  obtain ⟨v2, hc1, h⟩ := bp_e h
  refine q_ci hB (q_goS F hE hB (k_X9_isWithin hI σ0 a1 (2 : Int32) hc1) (ca_RX9_84 F.2.2.2.2 ⟨Nat.le_of_ble_eq_true rfl, Nat.le_of_ble_eq_true rfl⟩) rfl hl.1 rfl (Nat.le_of_ble_eq_true rfl) dX9_undo_2 ⟨Nat.le_of_ble_eq_true rfl, Nat.le_of_ble_eq_true rfl⟩) (fun H locs hB => ?_)
  refine lv_if_ne (tgt := 11) F.1 F.2.1 dX9_undo_5 (by decide) (fun c3 => ?_) (fun c3 => ?_)
  · replace h := ie_e c3 h
    refine lv_aload_n F.1 F.2.1 dX9_undo_11 rfl (lv_at hl 0 rfl) ?_
    refine gf_RX9_11 F hE hB po_0 rfl dX9_undo_12 ?_
    refine lv_iload_n F.1 F.2.1 dX9_undo_15 rfl (lv_at hl 1 rfl) ?_
    obtain ⟨hi4, h⟩ := ck_e h
    refine q_aldq (t0 := 2) F hE hB po_1 rfl hi4 dX9_undo_16 ?_
    refine lv_astore_n (lv' := [(2, .ref (ad (2 + 2 * a1.toNatClampNeg))), (0, .ref (ad 0)), (1, .int a1)]) F.1 F.2.1 dX9_undo_17 rfl hl (by decide) rfl (fun ls hl => ?_)
    refine lv_aload_n F.1 F.2.1 dX9_undo_18 rfl (lv_at hl 0 rfl) ?_
    refine gf_RX9_98 F hE hB (po_Text (tx_role hi4)) rfl dX9_undo_19 ?_
    refine lv_if_ne (tgt := 28) F.1 F.2.1 dX9_undo_22 (by decide) (fun c5 => ?_) (fun c5 => ?_)
    · replace h := ie_e c5 h
      refine lv_aload_n F.1 F.2.1 dX9_undo_28 rfl (lv_at hl 0 rfl) ?_
      refine lv_dup F.1 F.2.1 dX9_undo_29 rfl ?_
      refine gf_RX9_98 F hE hB (po_Text (tx_role hi4)) rfl dX9_undo_30 ?_
      refine lv_iconst (v := 1) F.1 F.2.1 dX9_undo_33 (by decide) ?_
      refine lv_isub F.1 F.2.1 dX9_undo_34 ?_
      obtain ⟨σ6, e7, h⟩ := lt_e h
      refine pf_RX9_98 F hE hI hB (po_Text (tx_role hi4)) rfl rfl (Nat.le_of_ble_eq_true rfl) (ph_Text_1 (tx_role hi4)) dX9_undo_35 e7 (fun H locs hB => ?_)
      refine lv_aload_n F.1 F.2.1 dX9_undo_38 rfl (lv_at hl 1 rfl) ?_
      refine lv_iload_n F.1 F.2.1 dX9_undo_39 rfl (lv_at hl 2 rfl) ?_
      obtain ⟨σ9, hc8, h⟩ := bv_e h
      refine q_cv hB (q_goV F hE hB (k_X9_understand hI σ6 a1 hc8) (ca_RX9_95 F.2.2.2.2 ⟨Nat.le_of_ble_eq_true rfl, Nat.le_of_ble_eq_true rfl⟩) rfl po_0 rfl hl.1 rfl (Nat.le_of_ble_eq_true rfl) dX9_undo_40 ⟨Nat.le_of_ble_eq_true rfl, Nat.le_of_ble_eq_true rfl⟩) (fun H locs hB => ?_)
      refine lv_aload_n F.1 F.2.1 dX9_undo_43 rfl (lv_at hl 0 rfl) ?_
      refine gf_RX9_98 F hE hB (po_Text (tx_role hi4)) rfl dX9_undo_44 ?_
      exact q_iret F hlocks hr hB (so1 h) (so2 h) dX9_undo_47
    · replace h := it_e c5 h
      refine lv_bipush (v := (-3)) F.1 F.2.1 dX9_undo_25 (by decide) ?_
      exact q_iret F hlocks hr hB (so1 h) (so2 h) dX9_undo_27
  · replace h := it_e c3 h
    refine lv_bipush (v := (-2)) F.1 F.2.1 dX9_undo_8 (by decide) ?_
    exact q_iret F hlocks hr hB (so1 h) (so2 h) dX9_undo_10
def f_X9_fault (σ0 : Mem) (a1 : Int32) : Option (Int32) := (bp (f_X9_isWithin σ0 a1 (2 : Int32)) (fun v2 => (if v2 = (0 : Int32) then (some (-2 : Int32)) else (if a1 = (0 : Int32) then (some (σ0.1 6 4)) else (some (σ0.1 10 3))))))
set_option maxHeartbeats 4000000 in
set_option maxRecDepth 100000 in
theorem k_X9_fault {l : Launch} {D : va_G} {cy : Nat → ClassId} {ad : Nat → Nat} {ta tb : Nat} (hI : AdI ad) (σ0 : Mem) (a1 : Int32) {o : Int32} (h : f_X9_fault σ0 a1 = some o) : Met l yX9_fault (Cond.code yX9_fault cX9_fault 2 (some .int) :: wG) rm_X9_fault (CP D cy ad ta tb σ0 [.ref (ad 0), .int a1]) (CQi D cy ad o σ0) 0 0 (AA ad) := by
  refine Met.ofW (cc := cX9_fault) (maxL := 2) (ret := (some .int)) (by decide) rfl ?_
  intro p e s m args below meth c s₁ B hml hv
  obtain ⟨rfl, hE, hP⟩ := hv
  have hts := atoms_spec (ws := Cond.code yX9_fault cX9_fault 2 (some .int) :: wG) B.pre
  have F : CallFix p m c cX9_fault 2 s _ wG RX9 := ⟨B.exec, B.bytes, hml, findClass_of_methodNamed B.named, fun w hw => hts w (List.mem_cons_of_mem _ hw)⟩
  have hr := B.returns
  have hlocks := B.notSynchronized
  have hB : Bd D cy ad σ0 s.heap s.heap [] := ⟨hP, va_S.rf⟩
  have hl := lv_entry ([.ref (ad 0), .int a1] : List Value) (n := 2) (Nat.le_of_ble_eq_true rfl)
  rw [lg_entry_eq]
  generalize (lg_sl ([.ref (ad 0), .int a1] : List Value) ++ List.replicate (2 - (lg_sl ([.ref (ad 0), .int a1] : List Value)).length) Slot.unset).toArray = ls at hl ⊢
  have hl : lv_has ls 2 [(0, .ref (ad 0)), (1, .int a1)] := hl
  unfold f_X9_fault at h
  refine lv_iload_n F.1 F.2.1 dX9_fault_0 rfl (lv_at hl 1 rfl) ?_
  refine lv_iconst (v := 2) F.1 F.2.1 dX9_fault_1 (by decide) ?_
  obtain ⟨v2, hc1, h⟩ := bp_e h
  refine q_ci hB (q_goS F hE hB (k_X9_isWithin hI σ0 a1 (2 : Int32) hc1) (ca_RX9_84 F.2.2.2.2 ⟨Nat.le_of_ble_eq_true rfl, Nat.le_of_ble_eq_true rfl⟩) rfl hl.1 rfl (Nat.le_of_ble_eq_true rfl) dX9_fault_2 ⟨Nat.le_of_ble_eq_true rfl, Nat.le_of_ble_eq_true rfl⟩) (fun H locs hB => ?_)
  refine lv_if_ne (tgt := 11) F.1 F.2.1 dX9_fault_5 (by decide) (fun c3 => ?_) (fun c3 => ?_)
  · replace h := ie_e c3 h
    refine lv_iload_n F.1 F.2.1 dX9_fault_11 rfl (lv_at hl 1 rfl) ?_
    refine lv_if_ne (tgt := 25) F.1 F.2.1 dX9_fault_12 (by decide) (fun c4 => ?_) (fun c4 => ?_)
    · replace h := ie_e c4 h
      refine lv_aload_n F.1 F.2.1 dX9_fault_25 rfl (lv_at hl 0 rfl) ?_
      refine gf_RX9_25 F hE hB po_0 rfl dX9_fault_26 ?_
      refine gf_RX9_105 F hE hB po_10 rfl dX9_fault_29 ?_
      exact q_iret F hlocks hr hB (Option.some.inj h) rfl dX9_fault_32
    · replace h := it_e c4 h
      refine lv_aload_n F.1 F.2.1 dX9_fault_15 rfl (lv_at hl 0 rfl) ?_
      refine gf_RX9_18 F hE hB po_0 rfl dX9_fault_16 ?_
      refine gf_RX9_102 F hE hB po_6 rfl dX9_fault_19 ?_
      refine lv_goto (tgt := 32) F.1 F.2.1 dX9_fault_22 (by decide) ?_
      exact q_iret F hlocks hr hB (Option.some.inj h) rfl dX9_fault_32
  · replace h := it_e c3 h
    refine lv_bipush (v := (-2)) F.1 F.2.1 dX9_fault_8 (by decide) ?_
    exact q_iret F hlocks hr hB (Option.some.inj h) rfl dX9_fault_10
def f_X9_isBridge (σ0 : Mem) (a1 : Int32) : Option (Int32) := (bp (f_X9_isWithin σ0 a1 (σ0.1 6 3)) (fun v2 => (cb v2 (some v2))))
set_option maxHeartbeats 4000000 in
set_option maxRecDepth 100000 in
theorem k_X9_isBridge {l : Launch} {D : va_G} {cy : Nat → ClassId} {ad : Nat → Nat} {ta tb : Nat} (hI : AdI ad) (σ0 : Mem) (a1 : Int32) {o : Int32} (h : f_X9_isBridge σ0 a1 = some o) : Met l yX9_isBridge (Cond.code yX9_isBridge cX9_isBridge 2 (some .boolean) :: wG) rm_X9_isBridge (CP D cy ad ta tb σ0 [.ref (ad 0), .int a1]) (CQi D cy ad o σ0) 0 0 (AA ad) := by
  refine Met.ofW (cc := cX9_isBridge) (maxL := 2) (ret := (some .boolean)) (by decide) rfl ?_
  intro p e s m args below meth c s₁ B hml hv
  obtain ⟨rfl, hE, hP⟩ := hv
  have hts := atoms_spec (ws := Cond.code yX9_isBridge cX9_isBridge 2 (some .boolean) :: wG) B.pre
  have F : CallFix p m c cX9_isBridge 2 s _ wG RX9 := ⟨B.exec, B.bytes, hml, findClass_of_methodNamed B.named, fun w hw => hts w (List.mem_cons_of_mem _ hw)⟩
  have hr := B.returns
  have hlocks := B.notSynchronized
  have hB : Bd D cy ad σ0 s.heap s.heap [] := ⟨hP, va_S.rf⟩
  have hl := lv_entry ([.ref (ad 0), .int a1] : List Value) (n := 2) (Nat.le_of_ble_eq_true rfl)
  rw [lg_entry_eq]
  generalize (lg_sl ([.ref (ad 0), .int a1] : List Value) ++ List.replicate (2 - (lg_sl ([.ref (ad 0), .int a1] : List Value)).length) Slot.unset).toArray = ls at hl ⊢
  have hl : lv_has ls 2 [(0, .ref (ad 0)), (1, .int a1)] := hl
  unfold f_X9_isBridge at h
  refine lv_iload_n F.1 F.2.1 dX9_isBridge_0 rfl (lv_at hl 1 rfl) ?_
  refine lv_aload_n F.1 F.2.1 dX9_isBridge_1 rfl (lv_at hl 0 rfl) ?_
  refine gf_RX9_18 F hE hB po_0 rfl dX9_isBridge_2 ?_
  refine gf_RX9_279 F hE hB po_6 rfl dX9_isBridge_5 ?_
  obtain ⟨v2, hc1, h⟩ := bp_e h
  refine q_ci hB (q_goS F hE hB (k_X9_isWithin hI σ0 a1 (σ0.1 6 3) hc1) (ca_RX9_84 F.2.2.2.2 ⟨Nat.le_of_ble_eq_true rfl, Nat.le_of_ble_eq_true rfl⟩) rfl hl.1 rfl (Nat.le_of_ble_eq_true rfl) dX9_isBridge_8 ⟨Nat.le_of_ble_eq_true rfl, Nat.le_of_ble_eq_true rfl⟩) (fun H locs hB => ?_)
  obtain ⟨hn3, h⟩ := cb_e h
  exact q_zret F hlocks hr hn3 hB (Option.some.inj h) rfl dX9_isBridge_11
def f_X9_bridge (σ0 : Mem) (a1 : Int32) (a2 : Int32) : Option (Int32) := (bp (f_X9_isBridge σ0 a1) (fun v2 => (if v2 = (0 : Int32) then (some (-2 : Int32)) else (bp (f_X9_isWithin σ0 a2 (3 : Int32)) (fun v5 => (if v5 = (0 : Int32) then (some (-2 : Int32)) else (bp (f_X2_part σ0 a1 a2) (fun v8 => (some v8)))))))))
set_option maxHeartbeats 4000000 in
set_option maxRecDepth 100000 in
theorem k_X9_bridge {l : Launch} {D : va_G} {cy : Nat → ClassId} {ad : Nat → Nat} {ta tb : Nat} (hI : AdI ad) (σ0 : Mem) (a1 : Int32) (a2 : Int32) {o : Int32} (h : f_X9_bridge σ0 a1 a2 = some o) : Met l yX9_bridge (Cond.code yX9_bridge cX9_bridge 3 (some .int) :: wG) rm_X9_bridge (CP D cy ad ta tb σ0 [.ref (ad 0), .int a1, .int a2]) (CQi D cy ad o σ0) 0 0 (AA ad) := by
  refine Met.ofW (cc := cX9_bridge) (maxL := 3) (ret := (some .int)) (by decide) rfl ?_
  intro p e s m args below meth c s₁ B hml hv
  obtain ⟨rfl, hE, hP⟩ := hv
  have hts := atoms_spec (ws := Cond.code yX9_bridge cX9_bridge 3 (some .int) :: wG) B.pre
  have F : CallFix p m c cX9_bridge 3 s _ wG RX9 := ⟨B.exec, B.bytes, hml, findClass_of_methodNamed B.named, fun w hw => hts w (List.mem_cons_of_mem _ hw)⟩
  have hr := B.returns
  have hlocks := B.notSynchronized
  have hB : Bd D cy ad σ0 s.heap s.heap [] := ⟨hP, va_S.rf⟩
  have hl := lv_entry ([.ref (ad 0), .int a1, .int a2] : List Value) (n := 3) (Nat.le_of_ble_eq_true rfl)
  rw [lg_entry_eq]
  generalize (lg_sl ([.ref (ad 0), .int a1, .int a2] : List Value) ++ List.replicate (3 - (lg_sl ([.ref (ad 0), .int a1, .int a2] : List Value)).length) Slot.unset).toArray = ls at hl ⊢
  have hl : lv_has ls 3 [(0, .ref (ad 0)), (1, .int a1), (2, .int a2)] := hl
  unfold f_X9_bridge at h
  refine lv_aload_n F.1 F.2.1 dX9_bridge_0 rfl (lv_at hl 0 rfl) ?_
  refine lv_iload_n F.1 F.2.1 dX9_bridge_1 rfl (lv_at hl 1 rfl) ?_
  obtain ⟨v2, hc1, h⟩ := bp_e h
  refine q_ci hB (q_goV F hE hB (k_X9_isBridge hI σ0 a1 hc1) (ca_RX9_106 F.2.2.2.2 ⟨Nat.le_of_ble_eq_true rfl, Nat.le_of_ble_eq_true rfl⟩) rfl po_0 rfl hl.1 rfl (Nat.le_of_ble_eq_true rfl) dX9_bridge_2 ⟨Nat.le_of_ble_eq_true rfl, Nat.le_of_ble_eq_true rfl⟩) (fun H locs hB => ?_)
  refine lv_if_eq (tgt := 16) F.1 F.2.1 dX9_bridge_5 (by decide) (fun c3 => ?_) (fun c3 => ?_)
  · replace h := it_e c3 h
    refine lv_bipush (v := (-2)) F.1 F.2.1 dX9_bridge_16 (by decide) ?_
    exact q_iret F hlocks hr hB (Option.some.inj h) rfl dX9_bridge_18
  · replace h := ie_e c3 h
    refine lv_iload_n F.1 F.2.1 dX9_bridge_8 rfl (lv_at hl 2 rfl) ?_
    refine lv_iconst (v := 3) F.1 F.2.1 dX9_bridge_9 (by decide) ?_
    obtain ⟨v5, hc4, h⟩ := bp_e h
    refine q_ci hB (q_goS F hE hB (k_X9_isWithin hI σ0 a2 (3 : Int32) hc4) (ca_RX9_84 F.2.2.2.2 ⟨Nat.le_of_ble_eq_true rfl, Nat.le_of_ble_eq_true rfl⟩) rfl hl.1 rfl (Nat.le_of_ble_eq_true rfl) dX9_bridge_10 ⟨Nat.le_of_ble_eq_true rfl, Nat.le_of_ble_eq_true rfl⟩) (fun H locs hB => ?_)
    refine lv_if_ne (tgt := 19) F.1 F.2.1 dX9_bridge_13 (by decide) (fun c6 => ?_) (fun c6 => ?_)
    · replace h := ie_e c6 h
      refine lv_aload_n F.1 F.2.1 dX9_bridge_19 rfl (lv_at hl 0 rfl) ?_
      refine gf_RX9_18 F hE hB po_0 rfl dX9_bridge_20 ?_
      refine lv_iload_n F.1 F.2.1 dX9_bridge_23 rfl (lv_at hl 1 rfl) ?_
      refine lv_iload_n F.1 F.2.1 dX9_bridge_24 rfl (lv_at hl 2 rfl) ?_
      obtain ⟨v8, hc7, h⟩ := bp_e h
      refine q_ci hB (q_goV F hE hB (k_X2_part hI σ0 a1 a2 hc7) (ca_RX9_110 F.2.2.2.2 ⟨Nat.le_of_ble_eq_true rfl, Nat.le_of_ble_eq_true rfl⟩) rfl po_6 rfl hl.1 rfl (Nat.le_of_ble_eq_true rfl) dX9_bridge_25 ⟨Nat.le_of_ble_eq_true rfl, Nat.le_of_ble_eq_true rfl⟩) (fun H locs hB => ?_)
      exact q_iret F hlocks hr hB (Option.some.inj h) rfl dX9_bridge_28
    · replace h := it_e c6 h
      refine lv_bipush (v := (-2)) F.1 F.2.1 dX9_bridge_16 (by decide) ?_
      exact q_iret F hlocks hr hB (Option.some.inj h) rfl dX9_bridge_18
def f_X9_isBoat (σ0 : Mem) (a1 : Int32) : Option (Int32) := (bp (f_X9_isWithin σ0 a1 (σ0.1 10 2)) (fun v2 => (cb v2 (some v2))))
set_option maxHeartbeats 4000000 in
set_option maxRecDepth 100000 in
theorem k_X9_isBoat {l : Launch} {D : va_G} {cy : Nat → ClassId} {ad : Nat → Nat} {ta tb : Nat} (hI : AdI ad) (σ0 : Mem) (a1 : Int32) {o : Int32} (h : f_X9_isBoat σ0 a1 = some o) : Met l yX9_isBoat (Cond.code yX9_isBoat cX9_isBoat 2 (some .boolean) :: wG) rm_X9_isBoat (CP D cy ad ta tb σ0 [.ref (ad 0), .int a1]) (CQi D cy ad o σ0) 0 0 (AA ad) := by
  refine Met.ofW (cc := cX9_isBoat) (maxL := 2) (ret := (some .boolean)) (by decide) rfl ?_
  intro p e s m args below meth c s₁ B hml hv
  obtain ⟨rfl, hE, hP⟩ := hv
  have hts := atoms_spec (ws := Cond.code yX9_isBoat cX9_isBoat 2 (some .boolean) :: wG) B.pre
  have F : CallFix p m c cX9_isBoat 2 s _ wG RX9 := ⟨B.exec, B.bytes, hml, findClass_of_methodNamed B.named, fun w hw => hts w (List.mem_cons_of_mem _ hw)⟩
  have hr := B.returns
  have hlocks := B.notSynchronized
  have hB : Bd D cy ad σ0 s.heap s.heap [] := ⟨hP, va_S.rf⟩
  have hl := lv_entry ([.ref (ad 0), .int a1] : List Value) (n := 2) (Nat.le_of_ble_eq_true rfl)
  rw [lg_entry_eq]
  generalize (lg_sl ([.ref (ad 0), .int a1] : List Value) ++ List.replicate (2 - (lg_sl ([.ref (ad 0), .int a1] : List Value)).length) Slot.unset).toArray = ls at hl ⊢
  have hl : lv_has ls 2 [(0, .ref (ad 0)), (1, .int a1)] := hl
  unfold f_X9_isBoat at h
  refine lv_iload_n F.1 F.2.1 dX9_isBoat_0 rfl (lv_at hl 1 rfl) ?_
  refine lv_aload_n F.1 F.2.1 dX9_isBoat_1 rfl (lv_at hl 0 rfl) ?_
  refine gf_RX9_25 F hE hB po_0 rfl dX9_isBoat_2 ?_
  refine gf_RX9_168 F hE hB po_10 rfl dX9_isBoat_5 ?_
  obtain ⟨v2, hc1, h⟩ := bp_e h
  refine q_ci hB (q_goS F hE hB (k_X9_isWithin hI σ0 a1 (σ0.1 10 2) hc1) (ca_RX9_84 F.2.2.2.2 ⟨Nat.le_of_ble_eq_true rfl, Nat.le_of_ble_eq_true rfl⟩) rfl hl.1 rfl (Nat.le_of_ble_eq_true rfl) dX9_isBoat_8 ⟨Nat.le_of_ble_eq_true rfl, Nat.le_of_ble_eq_true rfl⟩) (fun H locs hB => ?_)
  obtain ⟨hn3, h⟩ := cb_e h
  exact q_zret F hlocks hr hn3 hB (Option.some.inj h) rfl dX9_isBoat_11
def f_X9_boat (σ0 : Mem) (a1 : Int32) (a2 : Int32) : Option (Int32) := (bp (f_X9_isBoat σ0 a1) (fun v2 => (if v2 = (0 : Int32) then (some (-2 : Int32)) else (bp (f_X9_isWithin σ0 a2 (7 : Int32)) (fun v5 => (if v5 = (0 : Int32) then (some (-2 : Int32)) else (if a2 = (6 : Int32) then (ck a1 8 (some (σ0.1 12 a1.toNatClampNeg))) else (ck a1 8 (ck a2 6 (some (σ0.1 (13 + a1.toNatClampNeg) a2.toNatClampNeg)))))))))))
set_option maxHeartbeats 4000000 in
set_option maxRecDepth 100000 in
theorem k_X9_boat {l : Launch} {D : va_G} {cy : Nat → ClassId} {ad : Nat → Nat} {ta tb : Nat} (hI : AdI ad) (σ0 : Mem) (a1 : Int32) (a2 : Int32) {o : Int32} (h : f_X9_boat σ0 a1 a2 = some o) : Met l yX9_boat (Cond.code yX9_boat cX9_boat 3 (some .int) :: wG) rm_X9_boat (CP D cy ad ta tb σ0 [.ref (ad 0), .int a1, .int a2]) (CQi D cy ad o σ0) 0 0 (AA ad) := by
  refine Met.ofW (cc := cX9_boat) (maxL := 3) (ret := (some .int)) (by decide) rfl ?_
  intro p e s m args below meth c s₁ B hml hv
  obtain ⟨rfl, hE, hP⟩ := hv
  have hts := atoms_spec (ws := Cond.code yX9_boat cX9_boat 3 (some .int) :: wG) B.pre
  have F : CallFix p m c cX9_boat 3 s _ wG RX9 := ⟨B.exec, B.bytes, hml, findClass_of_methodNamed B.named, fun w hw => hts w (List.mem_cons_of_mem _ hw)⟩
  have hr := B.returns
  have hlocks := B.notSynchronized
  have hB : Bd D cy ad σ0 s.heap s.heap [] := ⟨hP, va_S.rf⟩
  have hl := lv_entry ([.ref (ad 0), .int a1, .int a2] : List Value) (n := 3) (Nat.le_of_ble_eq_true rfl)
  rw [lg_entry_eq]
  generalize (lg_sl ([.ref (ad 0), .int a1, .int a2] : List Value) ++ List.replicate (3 - (lg_sl ([.ref (ad 0), .int a1, .int a2] : List Value)).length) Slot.unset).toArray = ls at hl ⊢
  have hl : lv_has ls 3 [(0, .ref (ad 0)), (1, .int a1), (2, .int a2)] := hl
  unfold f_X9_boat at h
  refine lv_aload_n F.1 F.2.1 dX9_boat_0 rfl (lv_at hl 0 rfl) ?_
  refine lv_iload_n F.1 F.2.1 dX9_boat_1 rfl (lv_at hl 1 rfl) ?_
  obtain ⟨v2, hc1, h⟩ := bp_e h
  refine q_ci hB (q_goV F hE hB (k_X9_isBoat hI σ0 a1 hc1) (ca_RX9_114 F.2.2.2.2 ⟨Nat.le_of_ble_eq_true rfl, Nat.le_of_ble_eq_true rfl⟩) rfl po_0 rfl hl.1 rfl (Nat.le_of_ble_eq_true rfl) dX9_boat_2 ⟨Nat.le_of_ble_eq_true rfl, Nat.le_of_ble_eq_true rfl⟩) (fun H locs hB => ?_)
  refine lv_if_eq (tgt := 17) F.1 F.2.1 dX9_boat_5 (by decide) (fun c3 => ?_) (fun c3 => ?_)
  · replace h := it_e c3 h
    refine lv_bipush (v := (-2)) F.1 F.2.1 dX9_boat_17 (by decide) ?_
    exact q_iret F hlocks hr hB (Option.some.inj h) rfl dX9_boat_19
  · replace h := ie_e c3 h
    refine lv_iload_n F.1 F.2.1 dX9_boat_8 rfl (lv_at hl 2 rfl) ?_
    refine lv_bipush (v := 7) F.1 F.2.1 dX9_boat_9 (by decide) ?_
    obtain ⟨v5, hc4, h⟩ := bp_e h
    refine q_ci hB (q_goS F hE hB (k_X9_isWithin hI σ0 a2 (7 : Int32) hc4) (ca_RX9_84 F.2.2.2.2 ⟨Nat.le_of_ble_eq_true rfl, Nat.le_of_ble_eq_true rfl⟩) rfl hl.1 rfl (Nat.le_of_ble_eq_true rfl) dX9_boat_11 ⟨Nat.le_of_ble_eq_true rfl, Nat.le_of_ble_eq_true rfl⟩) (fun H locs hB => ?_)
    refine lv_if_ne (tgt := 20) F.1 F.2.1 dX9_boat_14 (by decide) (fun c6 => ?_) (fun c6 => ?_)
    · replace h := ie_e c6 h
      refine lv_iload_n F.1 F.2.1 dX9_boat_20 rfl (lv_at hl 2 rfl) ?_
      refine lv_bipush (v := 6) F.1 F.2.1 dX9_boat_21 (by decide) ?_
      refine lv_icmp_ne (tgt := 38) F.1 F.2.1 dX9_boat_23 (by decide) (fun c7 => ?_) (fun c7 => ?_)
      · replace h := ie_e c7 h
        refine lv_aload_n F.1 F.2.1 dX9_boat_38 rfl (lv_at hl 0 rfl) ?_
        refine gf_RX9_25 F hE hB po_0 rfl dX9_boat_39 ?_
        refine gf_RX9_120 F hE hB po_10 rfl dX9_boat_42 ?_
        refine lv_iload_n F.1 F.2.1 dX9_boat_45 rfl (lv_at hl 1 rfl) ?_
        obtain ⟨hi8, h⟩ := ck_e h
        refine q_aldA F hE hB po_11 hi8 dX9_boat_46 ?_
        refine lv_iload_n F.1 F.2.1 dX9_boat_47 rfl (lv_at hl 2 rfl) ?_
        obtain ⟨hi9, h⟩ := ck_e h
        refine q_iald F hE hB (po_row (mk_row hi8)) hi9 dX9_boat_48 ?_
        exact q_iret F hlocks hr hB (Option.some.inj h) rfl dX9_boat_49
      · replace h := it_e c7 h
        refine lv_aload_n F.1 F.2.1 dX9_boat_26 rfl (lv_at hl 0 rfl) ?_
        refine gf_RX9_25 F hE hB po_0 rfl dX9_boat_27 ?_
        refine gf_RX9_117 F hE hB po_10 rfl dX9_boat_30 ?_
        refine lv_iload_n F.1 F.2.1 dX9_boat_33 rfl (lv_at hl 1 rfl) ?_
        obtain ⟨hi10, h⟩ := ck_e h
        refine q_iald F hE hB po_12 hi10 dX9_boat_34 ?_
        refine lv_goto (tgt := 49) F.1 F.2.1 dX9_boat_35 (by decide) ?_
        exact q_iret F hlocks hr hB (Option.some.inj h) rfl dX9_boat_49
    · replace h := it_e c6 h
      refine lv_bipush (v := (-2)) F.1 F.2.1 dX9_boat_17 (by decide) ?_
      exact q_iret F hlocks hr hB (Option.some.inj h) rfl dX9_boat_19
def f_X9_sham (σ0 : Mem) (a1 : Int32) (a2 : Int32) : Option (Int32 × Mem) := (bp (f_X4_mayBe σ0 a1 a2) (fun v2 => (if v2 = (0 : Int32) then (some ((-2 : Int32), σ0)) else (bp (f_X4_isFull σ0) (fun v5 => (if v5 = (0 : Int32) then (bv (f_X4_append σ0 a1 a2) (fun σ8 => (bv (f_X9_resail σ8) (fun σ10 => (some ((σ10.1 21 3), σ10)))))) else (some ((-4 : Int32), σ0))))))))
set_option maxHeartbeats 4000000 in
set_option maxRecDepth 100000 in
theorem k_X9_sham {l : Launch} {D : va_G} {cy : Nat → ClassId} {ad : Nat → Nat} {ta tb : Nat} (hI : AdI ad) (σ0 : Mem) (a1 : Int32) (a2 : Int32) {o : Int32 × Mem} (h : f_X9_sham σ0 a1 a2 = some o) : Met l yX9_sham (Cond.code yX9_sham cX9_sham 3 (some .int) :: wG) rm_X9_sham (CP D cy ad ta tb σ0 [.ref (ad 0), .int a1, .int a2]) (CQi D cy ad o.1 o.2) 0 0 (AA ad) := by
  refine Met.ofW (cc := cX9_sham) (maxL := 3) (ret := (some .int)) (by decide) rfl ?_
  intro p e s m args below meth c s₁ B hml hv
  obtain ⟨rfl, hE, hP⟩ := hv
  have hts := atoms_spec (ws := Cond.code yX9_sham cX9_sham 3 (some .int) :: wG) B.pre
  have F : CallFix p m c cX9_sham 3 s _ wG RX9 := ⟨B.exec, B.bytes, hml, findClass_of_methodNamed B.named, fun w hw => hts w (List.mem_cons_of_mem _ hw)⟩
  have hr := B.returns
  have hlocks := B.notSynchronized
  have hB : Bd D cy ad σ0 s.heap s.heap [] := ⟨hP, va_S.rf⟩
  have hl := lv_entry ([.ref (ad 0), .int a1, .int a2] : List Value) (n := 3) (Nat.le_of_ble_eq_true rfl)
  rw [lg_entry_eq]
  generalize (lg_sl ([.ref (ad 0), .int a1, .int a2] : List Value) ++ List.replicate (3 - (lg_sl ([.ref (ad 0), .int a1, .int a2] : List Value)).length) Slot.unset).toArray = ls at hl ⊢
  have hl : lv_has ls 3 [(0, .ref (ad 0)), (1, .int a1), (2, .int a2)] := hl
  unfold f_X9_sham at h
  refine lv_iload_n F.1 F.2.1 dX9_sham_0 rfl (lv_at hl 1 rfl) ?_
  refine lv_iload_n F.1 F.2.1 dX9_sham_1 rfl (lv_at hl 2 rfl) ?_
  obtain ⟨v2, hc1, h⟩ := bp_e h
  refine q_ci hB (q_goS F hE hB (k_X4_mayBe hI σ0 a1 a2 hc1) (ca_RX9_124 F.2.2.2.2 ⟨Nat.le_of_ble_eq_true rfl, Nat.le_of_ble_eq_true rfl⟩) rfl hl.1 rfl (Nat.le_of_ble_eq_true rfl) dX9_sham_2 ⟨Nat.le_of_ble_eq_true rfl, Nat.le_of_ble_eq_true rfl⟩) (fun H locs hB => ?_)
  refine lv_if_ne (tgt := 11) F.1 F.2.1 dX9_sham_5 (by decide) (fun c3 => ?_) (fun c3 => ?_)
  · replace h := ie_e c3 h
    refine lv_aload_n F.1 F.2.1 dX9_sham_11 rfl (lv_at hl 0 rfl) ?_
    refine gf_RX9_32 F hE hB po_0 rfl dX9_sham_12 ?_
    obtain ⟨v5, hc4, h⟩ := bp_e h
    refine q_ci hB (q_goV F hE hB (k_X4_isFull hI σ0 hc4) (ca_RX9_127 F.2.2.2.2 ⟨Nat.le_of_ble_eq_true rfl, Nat.le_of_ble_eq_true rfl⟩) rfl po_21 rfl hl.1 rfl (Nat.le_of_ble_eq_true rfl) dX9_sham_15 ⟨Nat.le_of_ble_eq_true rfl, Nat.le_of_ble_eq_true rfl⟩) (fun H locs hB => ?_)
    refine lv_if_eq (tgt := 24) F.1 F.2.1 dX9_sham_18 (by decide) (fun c6 => ?_) (fun c6 => ?_)
    · replace h := it_e c6 h
      refine lv_aload_n F.1 F.2.1 dX9_sham_24 rfl (lv_at hl 0 rfl) ?_
      refine gf_RX9_32 F hE hB po_0 rfl dX9_sham_25 ?_
      refine lv_iload_n F.1 F.2.1 dX9_sham_28 rfl (lv_at hl 1 rfl) ?_
      refine lv_iload_n F.1 F.2.1 dX9_sham_29 rfl (lv_at hl 2 rfl) ?_
      obtain ⟨σ8, hc7, h⟩ := bv_e h
      refine q_cv hB (q_goV F hE hB (k_X4_append hI σ0 a1 a2 hc7) (ca_RX9_128 F.2.2.2.2 ⟨Nat.le_of_ble_eq_true rfl, Nat.le_of_ble_eq_true rfl⟩) rfl po_21 rfl hl.1 rfl (Nat.le_of_ble_eq_true rfl) dX9_sham_30 ⟨Nat.le_of_ble_eq_true rfl, Nat.le_of_ble_eq_true rfl⟩) (fun H locs hB => ?_)
      refine lv_aload_n F.1 F.2.1 dX9_sham_33 rfl (lv_at hl 0 rfl) ?_
      obtain ⟨σ10, hc9, h⟩ := bv_e h
      refine q_cv hB (q_goV F hE hB (k_X9_resail hI σ8 hc9) (ca_RX9_131 F.2.2.2.2 ⟨Nat.le_of_ble_eq_true rfl, Nat.le_of_ble_eq_true rfl⟩) rfl po_0 rfl hl.1 rfl (Nat.le_of_ble_eq_true rfl) dX9_sham_34 ⟨Nat.le_of_ble_eq_true rfl, Nat.le_of_ble_eq_true rfl⟩) (fun H locs hB => ?_)
      refine lv_aload_n F.1 F.2.1 dX9_sham_37 rfl (lv_at hl 0 rfl) ?_
      refine gf_RX9_32 F hE hB po_0 rfl dX9_sham_38 ?_
      refine gf_RX9_134 F hE hB po_21 rfl dX9_sham_41 ?_
      exact q_iret F hlocks hr hB (so1 h) (so2 h) dX9_sham_44
    · replace h := ie_e c6 h
      refine lv_bipush (v := (-4)) F.1 F.2.1 dX9_sham_21 (by decide) ?_
      exact q_iret F hlocks hr hB (so1 h) (so2 h) dX9_sham_23
  · replace h := it_e c3 h
    refine lv_bipush (v := (-2)) F.1 F.2.1 dX9_sham_8 (by decide) ?_
    exact q_iret F hlocks hr hB (so1 h) (so2 h) dX9_sham_10
def f_X9_back (σ0 : Mem) : Option (Int32 × Mem) := (if (σ0.1 21 3) = (0 : Int32) then (some ((-3 : Int32), σ0)) else (bv (f_X4_dropLast σ0) (fun σ3 => (bv (f_X9_resail σ3) (fun σ5 => (some ((σ5.1 21 3), σ5)))))))
set_option maxHeartbeats 4000000 in
set_option maxRecDepth 100000 in
theorem k_X9_back {l : Launch} {D : va_G} {cy : Nat → ClassId} {ad : Nat → Nat} {ta tb : Nat} (hI : AdI ad) (σ0 : Mem) {o : Int32 × Mem} (h : f_X9_back σ0 = some o) : Met l yX9_back (Cond.code yX9_back cX9_back 1 (some .int) :: wG) rm_X9_back (CP D cy ad ta tb σ0 [.ref (ad 0)]) (CQi D cy ad o.1 o.2) 0 0 (AA ad) := by
  refine Met.ofW (cc := cX9_back) (maxL := 1) (ret := (some .int)) (by decide) rfl ?_
  intro p e s m args below meth c s₁ B hml hv
  obtain ⟨rfl, hE, hP⟩ := hv
  have hts := atoms_spec (ws := Cond.code yX9_back cX9_back 1 (some .int) :: wG) B.pre
  have F : CallFix p m c cX9_back 1 s _ wG RX9 := ⟨B.exec, B.bytes, hml, findClass_of_methodNamed B.named, fun w hw => hts w (List.mem_cons_of_mem _ hw)⟩
  have hr := B.returns
  have hlocks := B.notSynchronized
  have hB : Bd D cy ad σ0 s.heap s.heap [] := ⟨hP, va_S.rf⟩
  have hl := lv_entry ([.ref (ad 0)] : List Value) (n := 1) (Nat.le_of_ble_eq_true rfl)
  rw [lg_entry_eq]
  generalize (lg_sl ([.ref (ad 0)] : List Value) ++ List.replicate (1 - (lg_sl ([.ref (ad 0)] : List Value)).length) Slot.unset).toArray = ls at hl ⊢
  have hl : lv_has ls 1 [(0, .ref (ad 0))] := hl
  unfold f_X9_back at h
  refine lv_aload_n F.1 F.2.1 dX9_back_0 rfl (lv_at hl 0 rfl) ?_
  refine gf_RX9_32 F hE hB po_0 rfl dX9_back_1 ?_
  refine gf_RX9_134 F hE hB po_21 rfl dX9_back_4 ?_
  refine lv_if_ne (tgt := 13) F.1 F.2.1 dX9_back_7 (by decide) (fun c1 => ?_) (fun c1 => ?_)
  · replace h := ie_e c1 h
    refine lv_aload_n F.1 F.2.1 dX9_back_13 rfl (lv_at hl 0 rfl) ?_
    refine gf_RX9_32 F hE hB po_0 rfl dX9_back_14 ?_
    obtain ⟨σ3, hc2, h⟩ := bv_e h
    refine q_cv hB (q_goV F hE hB (k_X4_dropLast hI σ0 hc2) (ca_RX9_135 F.2.2.2.2 ⟨Nat.le_of_ble_eq_true rfl, Nat.le_of_ble_eq_true rfl⟩) rfl po_21 rfl hl.1 rfl (Nat.le_of_ble_eq_true rfl) dX9_back_17 ⟨Nat.le_of_ble_eq_true rfl, Nat.le_of_ble_eq_true rfl⟩) (fun H locs hB => ?_)
    refine lv_aload_n F.1 F.2.1 dX9_back_20 rfl (lv_at hl 0 rfl) ?_
    obtain ⟨σ5, hc4, h⟩ := bv_e h
    refine q_cv hB (q_goV F hE hB (k_X9_resail hI σ3 hc4) (ca_RX9_131 F.2.2.2.2 ⟨Nat.le_of_ble_eq_true rfl, Nat.le_of_ble_eq_true rfl⟩) rfl po_0 rfl hl.1 rfl (Nat.le_of_ble_eq_true rfl) dX9_back_21 ⟨Nat.le_of_ble_eq_true rfl, Nat.le_of_ble_eq_true rfl⟩) (fun H locs hB => ?_)
    refine lv_aload_n F.1 F.2.1 dX9_back_24 rfl (lv_at hl 0 rfl) ?_
    refine gf_RX9_32 F hE hB po_0 rfl dX9_back_25 ?_
    refine gf_RX9_134 F hE hB po_21 rfl dX9_back_28 ?_
    exact q_iret F hlocks hr hB (so1 h) (so2 h) dX9_back_31
  · replace h := it_e c1 h
    refine lv_bipush (v := (-3)) F.1 F.2.1 dX9_back_10 (by decide) ?_
    exact q_iret F hlocks hr hB (so1 h) (so2 h) dX9_back_12
def f_X9_find (σ0 : Mem) (a1 : Int32) : Option (Int32 × Mem) := (lt (ms σ0 0 12 a1) (fun σ1 => (some (((-10 : Int32) - a1), σ1))))
set_option maxHeartbeats 4000000 in
set_option maxRecDepth 100000 in
theorem k_X9_find {l : Launch} {D : va_G} {cy : Nat → ClassId} {ad : Nat → Nat} {ta tb : Nat} (hI : AdI ad) (σ0 : Mem) (a1 : Int32) {o : Int32 × Mem} (h : f_X9_find σ0 a1 = some o) : Met l yX9_find (Cond.code yX9_find cX9_find 2 (some .int) :: wG) rm_X9_find (CP D cy ad ta tb σ0 [.ref (ad 0), .int a1]) (CQi D cy ad o.1 o.2) 0 0 (AA ad) := by
  refine Met.ofW (cc := cX9_find) (maxL := 2) (ret := (some .int)) (by decide) rfl ?_
  intro p e s m args below meth c s₁ B hml hv
  obtain ⟨rfl, hE, hP⟩ := hv
  have hts := atoms_spec (ws := Cond.code yX9_find cX9_find 2 (some .int) :: wG) B.pre
  have F : CallFix p m c cX9_find 2 s _ wG RX9 := ⟨B.exec, B.bytes, hml, findClass_of_methodNamed B.named, fun w hw => hts w (List.mem_cons_of_mem _ hw)⟩
  have hr := B.returns
  have hlocks := B.notSynchronized
  have hB : Bd D cy ad σ0 s.heap s.heap [] := ⟨hP, va_S.rf⟩
  have hl := lv_entry ([.ref (ad 0), .int a1] : List Value) (n := 2) (Nat.le_of_ble_eq_true rfl)
  rw [lg_entry_eq]
  generalize (lg_sl ([.ref (ad 0), .int a1] : List Value) ++ List.replicate (2 - (lg_sl ([.ref (ad 0), .int a1] : List Value)).length) Slot.unset).toArray = ls at hl ⊢
  have hl : lv_has ls 2 [(0, .ref (ad 0)), (1, .int a1)] := hl
  unfold f_X9_find at h
  refine lv_aload_n F.1 F.2.1 dX9_find_0 rfl (lv_at hl 0 rfl) ?_
  refine lv_iload_n F.1 F.2.1 dX9_find_1 rfl (lv_at hl 1 rfl) ?_
  obtain ⟨σ1, e2, h⟩ := lt_e h
  refine pf_RX9_259 F hE hI hB po_0 rfl rfl (Nat.le_of_ble_eq_true rfl) rfl dX9_find_2 e2 (fun H locs hB => ?_)
  refine lv_bipush (v := (-10)) F.1 F.2.1 dX9_find_5 (by decide) ?_
  refine lv_iload_n F.1 F.2.1 dX9_find_7 rfl (lv_at hl 1 rfl) ?_
  refine lv_isub F.1 F.2.1 dX9_find_8 ?_
  exact q_iret F hlocks hr hB (so1 h) (so2 h) dX9_find_9
