def f_X2_kindAt (σ0 : Mem) (q0 : Nat) (a1 : Int32) : Option (Int32) := (bp (f_X7_from σ0 q0 a1 (108 : Int32)) (fun v2 => (if v2 = (0 : Int32) then (some (0 : Int32)) else (if v2 = (1 : Int32) then (some (2 : Int32)) else (if v2 = (2 : Int32) then (some (1 : Int32)) else (some (-1 : Int32)))))))
set_option maxHeartbeats 4000000 in
set_option maxRecDepth 100000 in
theorem k_X2_kindAt {l : Launch} {D : va_G} {cy : Nat → ClassId} {ad : Nat → Nat} {ta tb : Nat} (hI : AdI ad) (σ0 : Mem) (q0 : Nat) (hq0 : isText q0) (a1 : Int32) {o : Int32} (h : f_X2_kindAt σ0 q0 a1 = some o) : Met l yX2_kindAt (Cond.code yX2_kindAt cX2_kindAt 2 (some .int) :: wG) rm_X2_kindAt (CP D cy ad ta tb σ0 [.ref (ad q0), .int a1]) (CQi D cy ad o σ0) 0 0 (AA ad) := by
  refine Met.ofW (cc := cX2_kindAt) (maxL := 2) (ret := (some .int)) (by decide) rfl ?_
  intro p e s m args below meth c s₁ B hml hv
  obtain ⟨rfl, hE, hP⟩ := hv
  have hts := atoms_spec (ws := Cond.code yX2_kindAt cX2_kindAt 2 (some .int) :: wG) B.pre
  have F : CallFix p m c cX2_kindAt 2 s _ wG RX2 := ⟨B.exec, B.bytes, hml, findClass_of_methodNamed B.named, fun w hw => hts w (List.mem_cons_of_mem _ hw)⟩
  have hr := B.returns
  have hlocks := B.notSynchronized
  have hB : Bd D cy ad σ0 s.heap s.heap [] := ⟨hP, va_S.rf⟩
  have hl := lv_entry ([.ref (ad q0), .int a1] : List Value) (n := 2) (Nat.le_of_ble_eq_true rfl)
  rw [lg_entry_eq]
  generalize (lg_sl ([.ref (ad q0), .int a1] : List Value) ++ List.replicate (2 - (lg_sl ([.ref (ad q0), .int a1] : List Value)).length) Slot.unset).toArray = ls at hl ⊢
  have hl : lv_has ls 2 [(0, .ref (ad q0)), (1, .int a1)] := hl
  unfold f_X2_kindAt at h
  refine lv_aload_n F.1 F.2.1 dX2_kindAt_0 rfl (lv_at hl 0 rfl) ?_
  refine lv_iload_n F.1 F.2.1 dX2_kindAt_1 rfl (lv_at hl 1 rfl) ?_
  refine lv_bipush (v := 108) F.1 F.2.1 dX2_kindAt_2 (by decide) ?_
  obtain ⟨v2, hc1, h⟩ := bp_e h
  refine q_ci hB (q_goV F hE hB (k_X7_from hI σ0 q0 hq0 a1 (108 : Int32) hc1) (ca_RX2_39 F.2.2.2.2 ⟨Nat.le_of_ble_eq_true rfl, Nat.le_of_ble_eq_true rfl⟩) rfl (po_Text hq0) rfl hl.1 rfl (Nat.le_of_ble_eq_true rfl) dX2_kindAt_4 ⟨Nat.le_of_ble_eq_true rfl, Nat.le_of_ble_eq_true rfl⟩) (fun H locs hB => ?_)
  by_cases c3 : v2 = (0 : Int32)
  · replace h := it_e c3 h
    refine lv_tableIn (off := 25) (tgt := 32) F.1 F.2.1 dX2_kindAt_7 (by rw [c3]; decide) (by rw [c3]; decide) (by rw [c3]; decide) (by decide) ?_
    refine lv_iconst (v := 0) F.1 F.2.1 dX2_kindAt_32 (by decide) ?_
    exact q_iret F hlocks hr hB (Option.some.inj h) rfl dX2_kindAt_33
  · replace h := ie_e c3 h
    by_cases c4 : v2 = (1 : Int32)
    · replace h := it_e c4 h
      refine lv_tableIn (off := 29) (tgt := 36) F.1 F.2.1 dX2_kindAt_7 (by rw [c4]; decide) (by rw [c4]; decide) (by rw [c4]; decide) (by decide) ?_
      refine lv_iconst (v := 2) F.1 F.2.1 dX2_kindAt_36 (by decide) ?_
      exact q_iret F hlocks hr hB (Option.some.inj h) rfl dX2_kindAt_37
    · replace h := ie_e c4 h
      by_cases c5 : v2 = (2 : Int32)
      · replace h := it_e c5 h
        refine lv_tableIn (off := 27) (tgt := 34) F.1 F.2.1 dX2_kindAt_7 (by rw [c5]; decide) (by rw [c5]; decide) (by rw [c5]; decide) (by decide) ?_
        refine lv_iconst (v := 1) F.1 F.2.1 dX2_kindAt_34 (by decide) ?_
        exact q_iret F hlocks hr hB (Option.some.inj h) rfl dX2_kindAt_35
      · replace h := ie_e c5 h
        refine lv_tableOut (tgt := 38) F.1 F.2.1 dX2_kindAt_7 (sw_3 c3 c4 c5) (by decide) ?_
        refine lv_iconst (v := (-1)) F.1 F.2.1 dX2_kindAt_38 (by decide) ?_
        exact q_iret F hlocks hr hB (Option.some.inj h) rfl dX2_kindAt_39
def f_X2_parseAll_b102 (σ0 : Mem) (x2 : Int32) : Option (Int32 × Mem) := (some ((x2 + (2 : Int32)), σ0))
def f_X2_parseAll_b4 : Nat → Mem → Nat → Int32 → Int32 → Option (Int32 × Mem)
  | 0, _, _, _, _ => none
  | n4 + 1, σ0, r1, x2, x3 => (if (8 : Int32) ≤ x3 then (some (x2, σ0)) else (bp (f_X2_kindAt σ0 r1 x2) (fun v3 => (ck x3 8 (lt (ms σ0 7 x3.toNatClampNeg v3) (fun σ5 => (ck x3 8 (if (σ5.1 7 x3.toNatClampNeg) = (-1 : Int32) then (some (x2, σ5)) else (bp (f_X7_from σ5 r1 (x2 + (1 : Int32)) (97 : Int32)) (fun v10 => (ck x3 8 (lt (ms σ5 8 x3.toNatClampNeg v10) (fun σ12 => (ck x3 8 (bp (f_X9_isWithin σ12 (σ12.1 8 x3.toNatClampNeg) (6 : Int32)) (fun v16 => (if v16 = (0 : Int32) then (some ((x2 + (1 : Int32)), σ12)) else (bp (f_X7_from σ12 r1 (x2 + (2 : Int32)) (48 : Int32)) (fun v19 => (ck x3 8 (lt (ms σ12 9 x3.toNatClampNeg v19) (fun σ21 => (ck x3 8 (if (σ21.1 9 x3.toNatClampNeg) < (1 : Int32) then (f_X2_parseAll_b102 σ21 x2) else (ck x3 8 (if (σ21.1 9 x3.toNatClampNeg) ≤ (9 : Int32) then (lt (ms σ21 6 3 (x3 + (1 : Int32))) (fun σ27 => (if (x2 + (3 : Int32)) = (σ27.1 r1 1) then (some ((-1 : Int32), σ27)) else (bp (f_X7_from σ27 r1 (x2 + (3 : Int32)) (59 : Int32)) (fun v31 => (if v31 = (0 : Int32) then (f_X2_parseAll_b4 n4 σ27 r1 ((x2 + (3 : Int32)) + (1 : Int32)) (x3 + (1 : Int32))) else (some ((x2 + (3 : Int32)), σ27)))))))) else (f_X2_parseAll_b102 σ21 x2)))))))))))))))))))))))))))
def f_X2_parseAll (σ0 : Mem) (q1 : Nat) : Option (Int32 × Mem) := (f_X2_parseAll_b4 300 σ0 q1 (0 : Int32) (0 : Int32))
set_option maxHeartbeats 4000000 in
set_option maxRecDepth 100000 in
theorem k_X2_parseAll {l : Launch} {D : va_G} {cy : Nat → ClassId} {ad : Nat → Nat} {ta tb : Nat} (hI : AdI ad) (σ0 : Mem) (q1 : Nat) (hq1 : isText q1) {o : Int32 × Mem} (h : f_X2_parseAll σ0 q1 = some o) : Met l yX2_parseAll (Cond.code yX2_parseAll cX2_parseAll 4 (some .int) :: wG) rm_X2_parseAll (CP D cy ad ta tb σ0 [.ref (ad 6), .ref (ad q1)]) (CQi D cy ad o.1 o.2) 0 0 (AA ad) := by
  refine Met.ofW (cc := cX2_parseAll) (maxL := 4) (ret := (some .int)) (by decide) rfl ?_
  intro p e s m args below meth c s₁ B hml hv
  obtain ⟨rfl, hE, hP⟩ := hv
  have hts := atoms_spec (ws := Cond.code yX2_parseAll cX2_parseAll 4 (some .int) :: wG) B.pre
  have F : CallFix p m c cX2_parseAll 4 s _ wG RX2 := ⟨B.exec, B.bytes, hml, findClass_of_methodNamed B.named, fun w hw => hts w (List.mem_cons_of_mem _ hw)⟩
  have hr := B.returns
  have hlocks := B.notSynchronized
  have hB : Bd D cy ad σ0 s.heap s.heap [] := ⟨hP, va_S.rf⟩
  have hl := lv_entry ([.ref (ad 6), .ref (ad q1)] : List Value) (n := 4) (Nat.le_of_ble_eq_true rfl)
  rw [lg_entry_eq]
  generalize (lg_sl ([.ref (ad 6), .ref (ad q1)] : List Value) ++ List.replicate (4 - (lg_sl ([.ref (ad 6), .ref (ad q1)] : List Value)).length) Slot.unset).toArray = ls at hl ⊢
  have hl : lv_has ls 4 [(0, .ref (ad 6)), (1, .ref (ad q1))] := hl
  have B102 : ∀ (σ0 : Mem) (H : Heap) (locs : List Loc) (ls : Array Slot) (x2 : Int32), f_X2_parseAll_b102 σ0 x2 = some o → Bd D cy ad σ0 s.heap H locs → lv_has ls 4 [(2, .int x2)] → W p l e rm_X2_parseAll s m ([.ref (ad 6), .ref (ad q1)] : List Value).toArray below meth c H locs 0 0 (MQ below (CQi D cy ad o.1 o.2) ([.ref (ad 6), .ref (ad q1)] : List Value).toArray s 0 0 (AA ad)) (F0 m 102 ls []) := by
    intro σ0 H locs ls x2 h hB hl
    unfold f_X2_parseAll_b102 at h
    refine lv_iload_n F.1 F.2.1 dX2_parseAll_102 rfl (lv_at hl 0 rfl) ?_
    refine lv_iconst (v := 2) F.1 F.2.1 dX2_parseAll_103 (by decide) ?_
    refine lv_iadd F.1 F.2.1 dX2_parseAll_104 ?_
    exact q_iret F hlocks hr hB (so1 h) (so2 h) dX2_parseAll_105
  have B4 : ∀ (n4 : Nat) (σ0 : Mem) (H : Heap) (locs : List Loc) (ls : Array Slot) (r1 : Nat) (x2 : Int32) (x3 : Int32) (hr1 : isText r1), f_X2_parseAll_b4 n4 σ0 r1 x2 x3 = some o → Bd D cy ad σ0 s.heap H locs → lv_has ls 4 [(0, .ref (ad 6)), (1, .ref (ad r1)), (2, .int x2), (3, .int x3)] → W p l e rm_X2_parseAll s m ([.ref (ad 6), .ref (ad q1)] : List Value).toArray below meth c H locs 0 0 (MQ below (CQi D cy ad o.1 o.2) ([.ref (ad 6), .ref (ad q1)] : List Value).toArray s 0 0 (AA ad)) (F0 m 4 ls []) := by
    intro n4
    induction n4 with
    | zero => intro σ0 H locs ls r1 x2 x3 hr1 h hB hl; cases h
    | succ n4 ih4 =>
      intro σ0 H locs ls r1 x2 x3 hr1 h hB hl
      rw [f_X2_parseAll_b4] at h
      refine lv_iload_n F.1 F.2.1 dX2_parseAll_4 rfl (lv_at hl 3 rfl) ?_
      refine lv_bipush (v := 8) F.1 F.2.1 dX2_parseAll_5 (by decide) ?_
      refine lv_icmp_ge (tgt := 147) F.1 F.2.1 dX2_parseAll_7 (by decide) (fun c1 => ?_) (fun c1 => ?_)
      · replace h := it_e c1 h
        refine lv_iload_n F.1 F.2.1 dX2_parseAll_147 rfl (lv_at hl 2 rfl) ?_
        exact q_iret F hlocks hr hB (so1 h) (so2 h) dX2_parseAll_148
      · replace h := ie_e c1 h
        refine lv_aload_n F.1 F.2.1 dX2_parseAll_10 rfl (lv_at hl 0 rfl) ?_
        refine gf_RX2_9 F hE hB po_6 rfl dX2_parseAll_11 ?_
        refine lv_iload_n F.1 F.2.1 dX2_parseAll_14 rfl (lv_at hl 3 rfl) ?_
        refine lv_aload_n F.1 F.2.1 dX2_parseAll_15 rfl (lv_at hl 1 rfl) ?_
        refine lv_iload_n F.1 F.2.1 dX2_parseAll_16 rfl (lv_at hl 2 rfl) ?_
        obtain ⟨v3, hc2, h⟩ := bp_e h
        refine q_ci hB (q_goS F hE hB (k_X2_kindAt hI σ0 r1 hr1 x2 hc2) (ca_RX2_35 F.2.2.2.2 ⟨Nat.le_of_ble_eq_true rfl, Nat.le_of_ble_eq_true rfl⟩) rfl hl.1 rfl (Nat.le_of_ble_eq_true rfl) dX2_parseAll_17 ⟨Nat.le_of_ble_eq_true rfl, Nat.le_of_ble_eq_true rfl⟩) (fun H locs hB => ?_)
        obtain ⟨hi4, h⟩ := ck_e h
        obtain ⟨σ5, e6, h⟩ := lt_e h
        refine q_iast F hE hI hB row_7 hi4 dX2_parseAll_20 e6 (fun H locs hB => ?_)
        refine lv_aload_n F.1 F.2.1 dX2_parseAll_21 rfl (lv_at hl 0 rfl) ?_
        refine gf_RX2_9 F hE hB po_6 rfl dX2_parseAll_22 ?_
        refine lv_iload_n F.1 F.2.1 dX2_parseAll_25 rfl (lv_at hl 3 rfl) ?_
        obtain ⟨hi7, h⟩ := ck_e h
        refine q_iald F hE hB po_7 hi7 dX2_parseAll_26 ?_
        refine lv_iconst (v := (-1)) F.1 F.2.1 dX2_parseAll_27 (by decide) ?_
        refine lv_icmp_ne (tgt := 33) F.1 F.2.1 dX2_parseAll_28 (by decide) (fun c8 => ?_) (fun c8 => ?_)
        · replace h := ie_e c8 h
          refine lv_aload_n F.1 F.2.1 dX2_parseAll_33 rfl (lv_at hl 0 rfl) ?_
          refine gf_RX2_15 F hE hB po_6 rfl dX2_parseAll_34 ?_
          refine lv_iload_n F.1 F.2.1 dX2_parseAll_37 rfl (lv_at hl 3 rfl) ?_
          refine lv_aload_n F.1 F.2.1 dX2_parseAll_38 rfl (lv_at hl 1 rfl) ?_
          refine lv_iload_n F.1 F.2.1 dX2_parseAll_39 rfl (lv_at hl 2 rfl) ?_
          refine lv_iconst (v := 1) F.1 F.2.1 dX2_parseAll_40 (by decide) ?_
          refine lv_iadd F.1 F.2.1 dX2_parseAll_41 ?_
          refine lv_bipush (v := 97) F.1 F.2.1 dX2_parseAll_42 (by decide) ?_
          obtain ⟨v10, hc9, h⟩ := bp_e h
          refine q_ci hB (q_goV F hE hB (k_X7_from hI σ5 r1 hr1 (x2 + (1 : Int32)) (97 : Int32) hc9) (ca_RX2_39 F.2.2.2.2 ⟨Nat.le_of_ble_eq_true rfl, Nat.le_of_ble_eq_true rfl⟩) rfl (po_Text hr1) rfl hl.1 rfl (Nat.le_of_ble_eq_true rfl) dX2_parseAll_44 ⟨Nat.le_of_ble_eq_true rfl, Nat.le_of_ble_eq_true rfl⟩) (fun H locs hB => ?_)
          obtain ⟨hi11, h⟩ := ck_e h
          obtain ⟨σ12, e13, h⟩ := lt_e h
          refine q_iast F hE hI hB row_8 hi11 dX2_parseAll_47 e13 (fun H locs hB => ?_)
          refine lv_aload_n F.1 F.2.1 dX2_parseAll_48 rfl (lv_at hl 0 rfl) ?_
          refine gf_RX2_15 F hE hB po_6 rfl dX2_parseAll_49 ?_
          refine lv_iload_n F.1 F.2.1 dX2_parseAll_52 rfl (lv_at hl 3 rfl) ?_
          obtain ⟨hi14, h⟩ := ck_e h
          refine q_iald F hE hB po_8 hi14 dX2_parseAll_53 ?_
          refine lv_bipush (v := 6) F.1 F.2.1 dX2_parseAll_54 (by decide) ?_
          obtain ⟨v16, hc15, h⟩ := bp_e h
          refine q_ci hB (q_goSN F hE hB (k_X9_isWithin hI σ12 (σ12.1 8 x3.toNatClampNeg) (6 : Int32) hc15) (ca_RX2_43 F.2.2.2.2 (hE.2.2.1 _ (List.mem_of_getElem? (i := 9) rfl)) ⟨Nat.le_of_ble_eq_true rfl, Nat.le_of_ble_eq_true rfl⟩) rfl hl.1 rfl (Nat.le_of_ble_eq_true rfl) dX2_parseAll_56 ⟨Nat.le_of_ble_eq_true rfl, Nat.le_of_ble_eq_true rfl⟩) (fun H locs hB => ?_)
          refine lv_if_ne (tgt := 66) F.1 F.2.1 dX2_parseAll_59 (by decide) (fun c17 => ?_) (fun c17 => ?_)
          · replace h := ie_e c17 h
            refine lv_aload_n F.1 F.2.1 dX2_parseAll_66 rfl (lv_at hl 0 rfl) ?_
            refine gf_RX2_18 F hE hB po_6 rfl dX2_parseAll_67 ?_
            refine lv_iload_n F.1 F.2.1 dX2_parseAll_70 rfl (lv_at hl 3 rfl) ?_
            refine lv_aload_n F.1 F.2.1 dX2_parseAll_71 rfl (lv_at hl 1 rfl) ?_
            refine lv_iload_n F.1 F.2.1 dX2_parseAll_72 rfl (lv_at hl 2 rfl) ?_
            refine lv_iconst (v := 2) F.1 F.2.1 dX2_parseAll_73 (by decide) ?_
            refine lv_iadd F.1 F.2.1 dX2_parseAll_74 ?_
            refine lv_bipush (v := 48) F.1 F.2.1 dX2_parseAll_75 (by decide) ?_
            obtain ⟨v19, hc18, h⟩ := bp_e h
            refine q_ci hB (q_goV F hE hB (k_X7_from hI σ12 r1 hr1 (x2 + (2 : Int32)) (48 : Int32) hc18) (ca_RX2_39 F.2.2.2.2 ⟨Nat.le_of_ble_eq_true rfl, Nat.le_of_ble_eq_true rfl⟩) rfl (po_Text hr1) rfl hl.1 rfl (Nat.le_of_ble_eq_true rfl) dX2_parseAll_77 ⟨Nat.le_of_ble_eq_true rfl, Nat.le_of_ble_eq_true rfl⟩) (fun H locs hB => ?_)
            obtain ⟨hi20, h⟩ := ck_e h
            obtain ⟨σ21, e22, h⟩ := lt_e h
            refine q_iast F hE hI hB row_9 hi20 dX2_parseAll_80 e22 (fun H locs hB => ?_)
            refine lv_aload_n F.1 F.2.1 dX2_parseAll_81 rfl (lv_at hl 0 rfl) ?_
            refine gf_RX2_18 F hE hB po_6 rfl dX2_parseAll_82 ?_
            refine lv_iload_n F.1 F.2.1 dX2_parseAll_85 rfl (lv_at hl 3 rfl) ?_
            obtain ⟨hi23, h⟩ := ck_e h
            refine q_iald F hE hB po_9 hi23 dX2_parseAll_86 ?_
            refine lv_iconst (v := 1) F.1 F.2.1 dX2_parseAll_87 (by decide) ?_
            refine lv_icmp_lt (tgt := 102) F.1 F.2.1 dX2_parseAll_88 (by decide) (fun c24 => ?_) (fun c24 => ?_)
            · replace h := it_e c24 h
              exact B102 σ21 _ _ _ x2 h hB (lv_sub hl [2] rfl)
            · replace h := ie_e c24 h
              refine lv_aload_n F.1 F.2.1 dX2_parseAll_91 rfl (lv_at hl 0 rfl) ?_
              refine gf_RX2_18 F hE hB po_6 rfl dX2_parseAll_92 ?_
              refine lv_iload_n F.1 F.2.1 dX2_parseAll_95 rfl (lv_at hl 3 rfl) ?_
              obtain ⟨hi25, h⟩ := ck_e h
              refine q_iald F hE hB po_9 hi25 dX2_parseAll_96 ?_
              refine lv_bipush (v := 9) F.1 F.2.1 dX2_parseAll_97 (by decide) ?_
              refine lv_icmp_le (tgt := 106) F.1 F.2.1 dX2_parseAll_99 (by decide) (fun c26 => ?_) (fun c26 => ?_)
              · replace h := it_e c26 h
                refine lv_aload_n F.1 F.2.1 dX2_parseAll_106 rfl (lv_at hl 0 rfl) ?_
                refine lv_iload_n F.1 F.2.1 dX2_parseAll_107 rfl (lv_at hl 3 rfl) ?_
                refine lv_iconst (v := 1) F.1 F.2.1 dX2_parseAll_108 (by decide) ?_
                refine lv_iadd F.1 F.2.1 dX2_parseAll_109 ?_
                obtain ⟨σ27, e28, h⟩ := lt_e h
                refine pf_RX2_25 F hE hI hB po_6 rfl rfl (Nat.le_of_ble_eq_true rfl) rfl dX2_parseAll_110 e28 (fun H locs hB => ?_)
                refine lv_iinc (v := (x2 + (3 : Int32))) (lv' := [(2, .int (x2 + (3 : Int32))), (0, .ref (ad 6)), (1, .ref (ad r1)), (3, .int x3)]) F.1 F.2.1 dX2_parseAll_113 hl (k := 2) rfl rfl (by decide) rfl (fun ls hl => ?_)
                refine lv_iload_n F.1 F.2.1 dX2_parseAll_116 rfl (lv_at hl 0 rfl) ?_
                refine lv_aload_n F.1 F.2.1 dX2_parseAll_117 rfl (lv_at hl 2 rfl) ?_
                refine gf_RX2_28 F hE hB (po_Text hr1) rfl dX2_parseAll_118 ?_
                refine lv_icmp_ne (tgt := 126) F.1 F.2.1 dX2_parseAll_121 (by decide) (fun c29 => ?_) (fun c29 => ?_)
                · replace h := ie_e c29 h
                  refine lv_aload_n F.1 F.2.1 dX2_parseAll_126 rfl (lv_at hl 2 rfl) ?_
                  refine lv_iload_n F.1 F.2.1 dX2_parseAll_127 rfl (lv_at hl 0 rfl) ?_
                  refine lv_bipush (v := 59) F.1 F.2.1 dX2_parseAll_128 (by decide) ?_
                  obtain ⟨v31, hc30, h⟩ := bp_e h
                  refine q_ci hB (q_goV F hE hB (k_X7_from hI σ27 r1 hr1 (x2 + (3 : Int32)) (59 : Int32) hc30) (ca_RX2_39 F.2.2.2.2 ⟨Nat.le_of_ble_eq_true rfl, Nat.le_of_ble_eq_true rfl⟩) rfl (po_Text hr1) rfl hl.1 rfl (Nat.le_of_ble_eq_true rfl) dX2_parseAll_130 ⟨Nat.le_of_ble_eq_true rfl, Nat.le_of_ble_eq_true rfl⟩) (fun H locs hB => ?_)
                  refine lv_if_eq (tgt := 138) F.1 F.2.1 dX2_parseAll_133 (by decide) (fun c32 => ?_) (fun c32 => ?_)
                  · replace h := it_e c32 h
                    refine lv_iinc (v := ((x2 + (3 : Int32)) + (1 : Int32))) (lv' := [(2, .int ((x2 + (3 : Int32)) + (1 : Int32))), (0, .ref (ad 6)), (1, .ref (ad r1)), (3, .int x3)]) F.1 F.2.1 dX2_parseAll_138 hl (k := 0) rfl rfl (by decide) rfl (fun ls hl => ?_)
                    refine lv_iinc (v := (x3 + (1 : Int32))) (lv' := [(3, .int (x3 + (1 : Int32))), (2, .int ((x2 + (3 : Int32)) + (1 : Int32))), (0, .ref (ad 6)), (1, .ref (ad r1))]) F.1 F.2.1 dX2_parseAll_141 hl (k := 3) rfl rfl (by decide) rfl (fun ls hl => ?_)
                    refine lv_goto (tgt := 4) F.1 F.2.1 dX2_parseAll_144 (by decide) ?_
                    exact ih4 σ27 _ _ _ r1 ((x2 + (3 : Int32)) + (1 : Int32)) (x3 + (1 : Int32)) hr1 h hB (lv_sub hl [2, 3, 1, 0] rfl)
                  · replace h := ie_e c32 h
                    refine lv_iload_n F.1 F.2.1 dX2_parseAll_136 rfl (lv_at hl 0 rfl) ?_
                    exact q_iret F hlocks hr hB (so1 h) (so2 h) dX2_parseAll_137
                · replace h := it_e c29 h
                  refine lv_iconst (v := (-1)) F.1 F.2.1 dX2_parseAll_124 (by decide) ?_
                  exact q_iret F hlocks hr hB (so1 h) (so2 h) dX2_parseAll_125
              · replace h := ie_e c26 h
                exact B102 σ21 _ _ _ x2 h hB (lv_sub hl [2] rfl)
          · replace h := it_e c17 h
            refine lv_iload_n F.1 F.2.1 dX2_parseAll_62 rfl (lv_at hl 2 rfl) ?_
            refine lv_iconst (v := 1) F.1 F.2.1 dX2_parseAll_63 (by decide) ?_
            refine lv_iadd F.1 F.2.1 dX2_parseAll_64 ?_
            exact q_iret F hlocks hr hB (so1 h) (so2 h) dX2_parseAll_65
        · replace h := it_e c8 h
          refine lv_iload_n F.1 F.2.1 dX2_parseAll_31 rfl (lv_at hl 2 rfl) ?_
          exact q_iret F hlocks hr hB (so1 h) (so2 h) dX2_parseAll_32
  unfold f_X2_parseAll at h
  refine lv_iconst (v := 0) F.1 F.2.1 dX2_parseAll_0 (by decide) ?_
  refine lv_istore_n (lv' := [(2, .int (0 : Int32)), (0, .ref (ad 6)), (1, .ref (ad q1))]) F.1 F.2.1 dX2_parseAll_1 rfl hl (by decide) rfl (fun ls hl => ?_)
  refine lv_iconst (v := 0) F.1 F.2.1 dX2_parseAll_2 (by decide) ?_
  refine lv_istore_n (lv' := [(3, .int (0 : Int32)), (2, .int (0 : Int32)), (0, .ref (ad 6)), (1, .ref (ad q1))]) F.1 F.2.1 dX2_parseAll_3 rfl hl (by decide) rfl (fun ls hl => ?_)
  exact B4 300 σ0 _ _ _ q1 (0 : Int32) (0 : Int32) hq1 h hB (lv_sub hl [2, 3, 1, 0] rfl)
def f_X2_parse_b22 (σ0 : Mem) (y0 : Int32) : Option (Mem) := (lt (ms σ0 6 4 y0) (fun σ7 => (if (σ7.1 6 4) = (-1 : Int32) then (some σ7) else (lt (ms σ7 6 3 (0 : Int32)) (fun σ10 => (some σ10))))))
def f_X2_parse (σ0 : Mem) (q1 : Nat) : Option (Mem) := (lt (ms σ0 6 3 (0 : Int32)) (fun σ1 => (if (σ1.1 q1 1) = (0 : Int32) then (f_X2_parse_b22 σ1 (-1 : Int32)) else (bi (f_X2_parseAll σ1 q1) (fun v6 σ5 => (f_X2_parse_b22 σ5 v6))))))
set_option maxHeartbeats 4000000 in
set_option maxRecDepth 100000 in
theorem k_X2_parse {l : Launch} {D : va_G} {cy : Nat → ClassId} {ad : Nat → Nat} {ta tb : Nat} (hI : AdI ad) (σ0 : Mem) (q1 : Nat) (hq1 : isText q1) {o : Mem} (h : f_X2_parse σ0 q1 = some o) : Met l yX2_parse (Cond.code yX2_parse cX2_parse 2 none :: wG) rm_X2_parse (CP D cy ad ta tb σ0 [.ref (ad 6), .ref (ad q1)]) (CQv D cy ad o) 0 0 (AA ad) := by
  refine Met.ofW (cc := cX2_parse) (maxL := 2) (ret := none) (by decide) rfl ?_
  intro p e s m args below meth c s₁ B hml hv
  obtain ⟨rfl, hE, hP⟩ := hv
  have hts := atoms_spec (ws := Cond.code yX2_parse cX2_parse 2 none :: wG) B.pre
  have F : CallFix p m c cX2_parse 2 s _ wG RX2 := ⟨B.exec, B.bytes, hml, findClass_of_methodNamed B.named, fun w hw => hts w (List.mem_cons_of_mem _ hw)⟩
  have hr := B.returns
  have hlocks := B.notSynchronized
  have hB : Bd D cy ad σ0 s.heap s.heap [] := ⟨hP, va_S.rf⟩
  have hl := lv_entry ([.ref (ad 6), .ref (ad q1)] : List Value) (n := 2) (Nat.le_of_ble_eq_true rfl)
  rw [lg_entry_eq]
  generalize (lg_sl ([.ref (ad 6), .ref (ad q1)] : List Value) ++ List.replicate (2 - (lg_sl ([.ref (ad 6), .ref (ad q1)] : List Value)).length) Slot.unset).toArray = ls at hl ⊢
  have hl : lv_has ls 2 [(0, .ref (ad 6)), (1, .ref (ad q1))] := hl
  have B22 : ∀ (σ0 : Mem) (H : Heap) (locs : List Loc) (ls : Array Slot) (y0 : Int32), f_X2_parse_b22 σ0 y0 = some o → Bd D cy ad σ0 s.heap H locs → lv_has ls 2 [(0, .ref (ad 6))] → W p l e rm_X2_parse s m ([.ref (ad 6), .ref (ad q1)] : List Value).toArray below meth c H locs 0 0 (MQ below (CQv D cy ad o) ([.ref (ad 6), .ref (ad q1)] : List Value).toArray s 0 0 (AA ad)) (F0 m 22 ls [.int y0, .ref (ad 6)]) := by
    intro σ0 H locs ls y0 h hB hl
    unfold f_X2_parse_b22 at h
    obtain ⟨σ7, e8, h⟩ := lt_e h
    refine pf_RX2_21 F hE hI hB po_6 rfl rfl (Nat.le_of_ble_eq_true rfl) rfl dX2_parse_22 e8 (fun H locs hB => ?_)
    refine lv_aload_n F.1 F.2.1 dX2_parse_25 rfl (lv_at hl 0 rfl) ?_
    refine gf_RX2_21 F hE hB po_6 rfl dX2_parse_26 ?_
    refine lv_iconst (v := (-1)) F.1 F.2.1 dX2_parse_29 (by decide) ?_
    refine lv_icmp_eq (tgt := 38) F.1 F.2.1 dX2_parse_30 (by decide) (fun c9 => ?_) (fun c9 => ?_)
    · replace h := it_e c9 h
      exact q_vret F hlocks hr hB (Option.some.inj h) dX2_parse_38
    · replace h := ie_e c9 h
      refine lv_aload_n F.1 F.2.1 dX2_parse_33 rfl (lv_at hl 0 rfl) ?_
      refine lv_iconst (v := 0) F.1 F.2.1 dX2_parse_34 (by decide) ?_
      obtain ⟨σ10, e11, h⟩ := lt_e h
      refine pf_RX2_25 F hE hI hB po_6 rfl rfl (Nat.le_of_ble_eq_true rfl) rfl dX2_parse_35 e11 (fun H locs hB => ?_)
      exact q_vret F hlocks hr hB (Option.some.inj h) dX2_parse_38
  unfold f_X2_parse at h
  refine lv_aload_n F.1 F.2.1 dX2_parse_0 rfl (lv_at hl 0 rfl) ?_
  refine lv_iconst (v := 0) F.1 F.2.1 dX2_parse_1 (by decide) ?_
  obtain ⟨σ1, e2, h⟩ := lt_e h
  refine pf_RX2_25 F hE hI hB po_6 rfl rfl (Nat.le_of_ble_eq_true rfl) rfl dX2_parse_2 e2 (fun H locs hB => ?_)
  refine lv_aload_n F.1 F.2.1 dX2_parse_5 rfl (lv_at hl 0 rfl) ?_
  refine lv_aload_n F.1 F.2.1 dX2_parse_6 rfl (lv_at hl 1 rfl) ?_
  refine gf_RX2_28 F hE hB (po_Text hq1) rfl dX2_parse_7 ?_
  refine lv_if_ne (tgt := 17) F.1 F.2.1 dX2_parse_10 (by decide) (fun c3 => ?_) (fun c3 => ?_)
  · replace h := ie_e c3 h
    refine lv_aload_n F.1 F.2.1 dX2_parse_17 rfl (lv_at hl 0 rfl) ?_
    refine lv_aload_n F.1 F.2.1 dX2_parse_18 rfl (lv_at hl 1 rfl) ?_
    obtain ⟨v6, σ5, hc4, h⟩ := bi_e h
    refine q_ci hB (q_goV F hE hB (k_X2_parseAll hI σ1 q1 hq1 hc4) (ca_RX2_31 F.2.2.2.2 ⟨Nat.le_of_ble_eq_true rfl, Nat.le_of_ble_eq_true rfl⟩) rfl po_6 rfl hl.1 rfl (Nat.le_of_ble_eq_true rfl) dX2_parse_19 ⟨Nat.le_of_ble_eq_true rfl, Nat.le_of_ble_eq_true rfl⟩) (fun H locs hB => ?_)
    exact B22 σ5 _ _ _ v6 h hB (lv_sub hl [0] rfl)
  · replace h := it_e c3 h
    refine lv_iconst (v := (-1)) F.1 F.2.1 dX2_parse_13 (by decide) ?_
    refine lv_goto (tgt := 22) F.1 F.2.1 dX2_parse_14 (by decide) ?_
    exact B22 σ1 _ _ _ (-1 : Int32) h hB (lv_sub hl [0] rfl)
def f_X2_part (σ0 : Mem) (a1 : Int32) (a2 : Int32) : Option (Int32) := (bp (f_X9_isWithin σ0 a1 (8 : Int32)) (fun v2 => (if v2 = (0 : Int32) then (some (-2 : Int32)) else (if a2 = (0 : Int32) then (ck a1 8 (some (σ0.1 7 a1.toNatClampNeg))) else (if a2 = (1 : Int32) then (ck a1 8 (some (σ0.1 8 a1.toNatClampNeg))) else (ck a1 8 (some (σ0.1 9 a1.toNatClampNeg))))))))
set_option maxHeartbeats 4000000 in
set_option maxRecDepth 100000 in
theorem k_X2_part {l : Launch} {D : va_G} {cy : Nat → ClassId} {ad : Nat → Nat} {ta tb : Nat} (hI : AdI ad) (σ0 : Mem) (a1 : Int32) (a2 : Int32) {o : Int32} (h : f_X2_part σ0 a1 a2 = some o) : Met l yX2_part (Cond.code yX2_part cX2_part 3 (some .int) :: wG) rm_X2_part (CP D cy ad ta tb σ0 [.ref (ad 6), .int a1, .int a2]) (CQi D cy ad o σ0) 0 0 (AA ad) := by
  refine Met.ofW (cc := cX2_part) (maxL := 3) (ret := (some .int)) (by decide) rfl ?_
  intro p e s m args below meth c s₁ B hml hv
  obtain ⟨rfl, hE, hP⟩ := hv
  have hts := atoms_spec (ws := Cond.code yX2_part cX2_part 3 (some .int) :: wG) B.pre
  have F : CallFix p m c cX2_part 3 s _ wG RX2 := ⟨B.exec, B.bytes, hml, findClass_of_methodNamed B.named, fun w hw => hts w (List.mem_cons_of_mem _ hw)⟩
  have hr := B.returns
  have hlocks := B.notSynchronized
  have hB : Bd D cy ad σ0 s.heap s.heap [] := ⟨hP, va_S.rf⟩
  have hl := lv_entry ([.ref (ad 6), .int a1, .int a2] : List Value) (n := 3) (Nat.le_of_ble_eq_true rfl)
  rw [lg_entry_eq]
  generalize (lg_sl ([.ref (ad 6), .int a1, .int a2] : List Value) ++ List.replicate (3 - (lg_sl ([.ref (ad 6), .int a1, .int a2] : List Value)).length) Slot.unset).toArray = ls at hl ⊢
  have hl : lv_has ls 3 [(0, .ref (ad 6)), (1, .int a1), (2, .int a2)] := hl
  unfold f_X2_part at h
  refine lv_iload_n F.1 F.2.1 dX2_part_0 rfl (lv_at hl 1 rfl) ?_
  refine lv_bipush (v := 8) F.1 F.2.1 dX2_part_1 (by decide) ?_
  obtain ⟨v2, hc1, h⟩ := bp_e h
  refine q_ci hB (q_goSN F hE hB (k_X9_isWithin hI σ0 a1 (8 : Int32) hc1) (ca_RX2_43 F.2.2.2.2 (hE.2.2.1 _ (List.mem_of_getElem? (i := 9) rfl)) ⟨Nat.le_of_ble_eq_true rfl, Nat.le_of_ble_eq_true rfl⟩) rfl hl.1 rfl (Nat.le_of_ble_eq_true rfl) dX2_part_3 ⟨Nat.le_of_ble_eq_true rfl, Nat.le_of_ble_eq_true rfl⟩) (fun H locs hB => ?_)
  refine lv_if_ne (tgt := 12) F.1 F.2.1 dX2_part_6 (by decide) (fun c3 => ?_) (fun c3 => ?_)
  · replace h := ie_e c3 h
    refine lv_iload_n F.1 F.2.1 dX2_part_12 rfl (lv_at hl 2 rfl) ?_
    by_cases c4 : a2 = (0 : Int32)
    · replace h := it_e c4 h
      refine lv_lookup (off := 27) (tgt := 40) F.1 F.2.1 dX2_part_13 (by decide) (by rw [c4]; decide) (by decide) ?_
      refine lv_aload_n F.1 F.2.1 dX2_part_40 rfl (lv_at hl 0 rfl) ?_
      refine gf_RX2_9 F hE hB po_6 rfl dX2_part_41 ?_
      refine lv_iload_n F.1 F.2.1 dX2_part_44 rfl (lv_at hl 1 rfl) ?_
      obtain ⟨hi5, h⟩ := ck_e h
      refine q_iald F hE hB po_7 hi5 dX2_part_45 ?_
      exact q_iret F hlocks hr hB (Option.some.inj h) rfl dX2_part_46
    · replace h := ie_e c4 h
      by_cases c6 : a2 = (1 : Int32)
      · replace h := it_e c6 h
        refine lv_lookup (off := 34) (tgt := 47) F.1 F.2.1 dX2_part_13 (by decide) (by rw [c6]; decide) (by decide) ?_
        refine lv_aload_n F.1 F.2.1 dX2_part_47 rfl (lv_at hl 0 rfl) ?_
        refine gf_RX2_15 F hE hB po_6 rfl dX2_part_48 ?_
        refine lv_iload_n F.1 F.2.1 dX2_part_51 rfl (lv_at hl 1 rfl) ?_
        obtain ⟨hi7, h⟩ := ck_e h
        refine q_iald F hE hB po_8 hi7 dX2_part_52 ?_
        exact q_iret F hlocks hr hB (Option.some.inj h) rfl dX2_part_53
      · replace h := ie_e c6 h
        refine lv_lookup (off := 41) (tgt := 54) F.1 F.2.1 dX2_part_13 (by decide) (sl_2 c4 c6) (by decide) ?_
        refine lv_aload_n F.1 F.2.1 dX2_part_54 rfl (lv_at hl 0 rfl) ?_
        refine gf_RX2_18 F hE hB po_6 rfl dX2_part_55 ?_
        refine lv_iload_n F.1 F.2.1 dX2_part_58 rfl (lv_at hl 1 rfl) ?_
        obtain ⟨hi8, h⟩ := ck_e h
        refine q_iald F hE hB po_9 hi8 dX2_part_59 ?_
        exact q_iret F hlocks hr hB (Option.some.inj h) rfl dX2_part_60
  · replace h := it_e c3 h
    refine lv_bipush (v := (-2)) F.1 F.2.1 dX2_part_9 (by decide) ?_
    exact q_iret F hlocks hr hB (Option.some.inj h) rfl dX2_part_11
def f_X2_worthOf_b4 (σ0 : Mem) : Nat → Nat → Int32 → Int32 → Option (Int32)
  | 0, _, _, _ => none
  | n4 + 1, r0, x1, x2 => (if (6 : Int32) ≤ x2 then (some x1) else (ck x2 6 (f_X2_worthOf_b4 σ0 n4 r0 (x1 + ((σ0.1 r0 x2.toNatClampNeg) * (x2 + (1 : Int32)))) (x2 + (1 : Int32)))))
def f_X2_worthOf (σ0 : Mem) (q0 : Nat) : Option (Int32) := (f_X2_worthOf_b4 σ0 300 q0 (0 : Int32) (0 : Int32))
set_option maxHeartbeats 4000000 in
set_option maxRecDepth 100000 in
theorem k_X2_worthOf {l : Launch} {D : va_G} {cy : Nat → ClassId} {ad : Nat → Nat} {ta tb : Nat} (hI : AdI ad) (σ0 : Mem) (q0 : Nat) (hq0 : isRow q0 6) {o : Int32} (h : f_X2_worthOf σ0 q0 = some o) : Met l yX2_worthOf (Cond.code yX2_worthOf cX2_worthOf 3 (some .int) :: wG) rm_X2_worthOf (CP D cy ad ta tb σ0 [.ref (ad q0)]) (CQi D cy ad o σ0) 0 0 (AA ad) := by
  refine Met.ofW (cc := cX2_worthOf) (maxL := 3) (ret := (some .int)) (by decide) rfl ?_
  intro p e s m args below meth c s₁ B hml hv
  obtain ⟨rfl, hE, hP⟩ := hv
  have hts := atoms_spec (ws := Cond.code yX2_worthOf cX2_worthOf 3 (some .int) :: wG) B.pre
  have F : CallFix p m c cX2_worthOf 3 s _ wG RX2 := ⟨B.exec, B.bytes, hml, findClass_of_methodNamed B.named, fun w hw => hts w (List.mem_cons_of_mem _ hw)⟩
  have hr := B.returns
  have hlocks := B.notSynchronized
  have hB : Bd D cy ad σ0 s.heap s.heap [] := ⟨hP, va_S.rf⟩
  have hl := lv_entry ([.ref (ad q0)] : List Value) (n := 3) (Nat.le_of_ble_eq_true rfl)
  rw [lg_entry_eq]
  generalize (lg_sl ([.ref (ad q0)] : List Value) ++ List.replicate (3 - (lg_sl ([.ref (ad q0)] : List Value)).length) Slot.unset).toArray = ls at hl ⊢
  have hl : lv_has ls 3 [(0, .ref (ad q0))] := hl
  have B4 : ∀ (n4 : Nat) (H : Heap) (locs : List Loc) (ls : Array Slot) (r0 : Nat) (x1 : Int32) (x2 : Int32) (hr0 : isRow r0 6), f_X2_worthOf_b4 σ0 n4 r0 x1 x2 = some o → Bd D cy ad σ0 s.heap H locs → lv_has ls 3 [(0, .ref (ad r0)), (1, .int x1), (2, .int x2)] → W p l e rm_X2_worthOf s m ([.ref (ad q0)] : List Value).toArray below meth c H locs 0 0 (MQ below (CQi D cy ad o σ0) ([.ref (ad q0)] : List Value).toArray s 0 0 (AA ad)) (F0 m 4 ls []) := by
    intro n4
    induction n4 with
    | zero => intro H locs ls r0 x1 x2 hr0 h hB hl; cases h
    | succ n4 ih4 =>
      intro H locs ls r0 x1 x2 hr0 h hB hl
      rw [f_X2_worthOf_b4] at h
      refine lv_iload_n F.1 F.2.1 dX2_worthOf_4 rfl (lv_at hl 2 rfl) ?_
      refine lv_bipush (v := 6) F.1 F.2.1 dX2_worthOf_5 (by decide) ?_
      refine lv_icmp_ge (tgt := 26) F.1 F.2.1 dX2_worthOf_7 (by decide) (fun c1 => ?_) (fun c1 => ?_)
      · replace h := it_e c1 h
        refine lv_iload_n F.1 F.2.1 dX2_worthOf_26 rfl (lv_at hl 1 rfl) ?_
        exact q_iret F hlocks hr hB (Option.some.inj h) rfl dX2_worthOf_27
      · replace h := ie_e c1 h
        refine lv_iload_n F.1 F.2.1 dX2_worthOf_10 rfl (lv_at hl 1 rfl) ?_
        refine lv_aload_n F.1 F.2.1 dX2_worthOf_11 rfl (lv_at hl 0 rfl) ?_
        refine lv_iload_n F.1 F.2.1 dX2_worthOf_12 rfl (lv_at hl 2 rfl) ?_
        obtain ⟨hi2, h⟩ := ck_e h
        refine q_iald F hE hB (po_row hr0) hi2 dX2_worthOf_13 ?_
        refine lv_iload_n F.1 F.2.1 dX2_worthOf_14 rfl (lv_at hl 2 rfl) ?_
        refine lv_iconst (v := 1) F.1 F.2.1 dX2_worthOf_15 (by decide) ?_
        refine lv_iadd F.1 F.2.1 dX2_worthOf_16 ?_
        refine lv_imul F.1 F.2.1 dX2_worthOf_17 ?_
        refine lv_iadd F.1 F.2.1 dX2_worthOf_18 ?_
        refine lv_istore_n (lv' := [(1, .int (x1 + ((σ0.1 r0 x2.toNatClampNeg) * (x2 + (1 : Int32))))), (0, .ref (ad r0)), (2, .int x2)]) F.1 F.2.1 dX2_worthOf_19 rfl hl (by decide) rfl (fun ls hl => ?_)
        refine lv_iinc (v := (x2 + (1 : Int32))) (lv' := [(2, .int (x2 + (1 : Int32))), (1, .int (x1 + ((σ0.1 r0 x2.toNatClampNeg) * (x2 + (1 : Int32))))), (0, .ref (ad r0))]) F.1 F.2.1 dX2_worthOf_20 hl (k := 2) rfl rfl (by decide) rfl (fun ls hl => ?_)
        refine lv_goto (tgt := 4) F.1 F.2.1 dX2_worthOf_23 (by decide) ?_
        exact ih4 _ _ _ r0 (x1 + ((σ0.1 r0 x2.toNatClampNeg) * (x2 + (1 : Int32)))) (x2 + (1 : Int32)) hr0 h hB (lv_sub hl [2, 1, 0] rfl)
  unfold f_X2_worthOf at h
  refine lv_iconst (v := 0) F.1 F.2.1 dX2_worthOf_0 (by decide) ?_
  refine lv_istore_n (lv' := [(1, .int (0 : Int32)), (0, .ref (ad q0))]) F.1 F.2.1 dX2_worthOf_1 rfl hl (by decide) rfl (fun ls hl => ?_)
  refine lv_iconst (v := 0) F.1 F.2.1 dX2_worthOf_2 (by decide) ?_
  refine lv_istore_n (lv' := [(2, .int (0 : Int32)), (1, .int (0 : Int32)), (0, .ref (ad q0))]) F.1 F.2.1 dX2_worthOf_3 rfl hl (by decide) rfl (fun ls hl => ?_)
  exact B4 300 _ _ _ q0 (0 : Int32) (0 : Int32) hq0 h hB (lv_sub hl [2, 1, 0] rfl)
def f_X2_wouldLift_b95 (σ0 : Mem) (x3 : Int32) (x7 : Int32) (y0 : Int32) (y1 : Int32) : Option (Int32) := (if (y1 + y0) < ((3 : Int32) * x3) then (some (0 : Int32)) else (if x7 ≤ (0 : Int32) then (some (0 : Int32)) else (some (1 : Int32))))
def f_X2_wouldLift_b30 (σ0 : Mem) (x1 : Int32) (x3 : Int32) (r4 : Nat) (r5 : Nat) (x6 : Int32) (y0 : Int32) (y1 : Int32) : Option (Int32) := (ck x1 8 (if (σ0.1 7 x1.toNatClampNeg) = (0 : Int32) then (if (y1 + y0) < x3 then (some (0 : Int32)) else (some (1 : Int32))) else (ck x1 8 (if (σ0.1 7 x1.toNatClampNeg) = (1 : Int32) then (if x3 ≤ (y1 + y0) then (some (0 : Int32)) else (some (1 : Int32))) else (bp (f_X2_worthOf σ0 r4) (fun v9 => (if x6 = (0 : Int32) then (f_X2_wouldLift_b95 σ0 x3 (y1 + y0) (0 : Int32) v9) else (bp (f_X2_worthOf σ0 r5) (fun v14 => (f_X2_wouldLift_b95 σ0 x3 (y1 + y0) v14 v9))))))))))
def f_X2_wouldLift_b11 (σ0 : Mem) (x1 : Int32) (x2 : Int32) (x3 : Int32) (r4 : Nat) (r5 : Nat) (y0 : Int32) : Option (Int32) := (ck x2 6 (if y0 = (0 : Int32) then (f_X2_wouldLift_b30 σ0 x1 x3 r4 r5 y0 (0 : Int32) (σ0.1 r4 x2.toNatClampNeg)) else (ck x2 6 (f_X2_wouldLift_b30 σ0 x1 x3 r4 r5 y0 (σ0.1 r5 x2.toNatClampNeg) (σ0.1 r4 x2.toNatClampNeg)))))
def f_X2_wouldLift (σ0 : Mem) (a1 : Int32) (a2 : Int32) (a3 : Int32) (q4 : Nat) (q5 : Nat) : Option (Int32) := (if (a1 - a1 / (2 : Int32) * (2 : Int32)) = (0 : Int32) then (f_X2_wouldLift_b11 σ0 a1 a2 a3 q4 q5 (1 : Int32)) else (f_X2_wouldLift_b11 σ0 a1 a2 a3 q4 q5 (0 : Int32)))
set_option maxHeartbeats 4000000 in
set_option maxRecDepth 100000 in
theorem k_X2_wouldLift {l : Launch} {D : va_G} {cy : Nat → ClassId} {ad : Nat → Nat} {ta tb : Nat} (hI : AdI ad) (σ0 : Mem) (a1 : Int32) (a2 : Int32) (a3 : Int32) (q4 : Nat) (hq4 : isRow q4 6) (q5 : Nat) (hq5 : isRow q5 6) {o : Int32} (h : f_X2_wouldLift σ0 a1 a2 a3 q4 q5 = some o) : Met l yX2_wouldLift (Cond.code yX2_wouldLift cX2_wouldLift 9 (some .boolean) :: wG) rm_X2_wouldLift (CP D cy ad ta tb σ0 [.ref (ad 6), .int a1, .int a2, .int a3, .ref (ad q4), .ref (ad q5)]) (CQi D cy ad o σ0) 0 0 (AA ad) := by
  refine Met.ofW (cc := cX2_wouldLift) (maxL := 9) (ret := (some .boolean)) (by decide) rfl ?_
  intro p e s m args below meth c s₁ B hml hv
  obtain ⟨rfl, hE, hP⟩ := hv
  have hts := atoms_spec (ws := Cond.code yX2_wouldLift cX2_wouldLift 9 (some .boolean) :: wG) B.pre
  have F : CallFix p m c cX2_wouldLift 9 s _ wG RX2 := ⟨B.exec, B.bytes, hml, findClass_of_methodNamed B.named, fun w hw => hts w (List.mem_cons_of_mem _ hw)⟩
  have hr := B.returns
  have hlocks := B.notSynchronized
  have hB : Bd D cy ad σ0 s.heap s.heap [] := ⟨hP, va_S.rf⟩
  have hl := lv_entry ([.ref (ad 6), .int a1, .int a2, .int a3, .ref (ad q4), .ref (ad q5)] : List Value) (n := 9) (Nat.le_of_ble_eq_true rfl)
  rw [lg_entry_eq]
  generalize (lg_sl ([.ref (ad 6), .int a1, .int a2, .int a3, .ref (ad q4), .ref (ad q5)] : List Value) ++ List.replicate (9 - (lg_sl ([.ref (ad 6), .int a1, .int a2, .int a3, .ref (ad q4), .ref (ad q5)] : List Value)).length) Slot.unset).toArray = ls at hl ⊢
  have hl : lv_has ls 9 [(0, .ref (ad 6)), (1, .int a1), (2, .int a2), (3, .int a3), (4, .ref (ad q4)), (5, .ref (ad q5))] := hl
  have B95 : ∀ (H : Heap) (locs : List Loc) (ls : Array Slot) (x3 : Int32) (x7 : Int32) (y0 : Int32) (y1 : Int32), f_X2_wouldLift_b95 σ0 x3 x7 y0 y1 = some o → Bd D cy ad σ0 s.heap H locs → lv_has ls 9 [(3, .int x3), (7, .int x7)] → W p l e rm_X2_wouldLift s m ([.ref (ad 6), .int a1, .int a2, .int a3, .ref (ad q4), .ref (ad q5)] : List Value).toArray below meth c H locs 0 0 (MQ below (CQi D cy ad o σ0) ([.ref (ad 6), .int a1, .int a2, .int a3, .ref (ad q4), .ref (ad q5)] : List Value).toArray s 0 0 (AA ad)) (F0 m 95 ls [.int y0, .int y1]) := by
    intro H locs ls x3 x7 y0 y1 h hB hl
    unfold f_X2_wouldLift_b95 at h
    refine lv_iadd F.1 F.2.1 dX2_wouldLift_95 ?_
    refine lv_istore (lv' := [(8, .int (y1 + y0)), (3, .int x3), (7, .int x7)]) F.1 F.2.1 dX2_wouldLift_96 hl (by decide) rfl (fun ls hl => ?_)
    refine lv_iload F.1 F.2.1 dX2_wouldLift_98 (lv_at hl 0 rfl) ?_
    refine lv_iconst (v := 3) F.1 F.2.1 dX2_wouldLift_100 (by decide) ?_
    refine lv_iload_n F.1 F.2.1 dX2_wouldLift_101 rfl (lv_at hl 1 rfl) ?_
    refine lv_imul F.1 F.2.1 dX2_wouldLift_102 ?_
    refine lv_icmp_lt (tgt := 115) F.1 F.2.1 dX2_wouldLift_103 (by decide) (fun c11 => ?_) (fun c11 => ?_)
    · replace h := it_e c11 h
      refine lv_iconst (v := 0) F.1 F.2.1 dX2_wouldLift_115 (by decide) ?_
      exact q_zret F hlocks hr rfl hB (Option.some.inj h) rfl dX2_wouldLift_116
    · replace h := ie_e c11 h
      refine lv_iload F.1 F.2.1 dX2_wouldLift_106 (lv_at hl 2 rfl) ?_
      refine lv_if_le (tgt := 115) F.1 F.2.1 dX2_wouldLift_108 (by decide) (fun c12 => ?_) (fun c12 => ?_)
      · replace h := it_e c12 h
        refine lv_iconst (v := 0) F.1 F.2.1 dX2_wouldLift_115 (by decide) ?_
        exact q_zret F hlocks hr rfl hB (Option.some.inj h) rfl dX2_wouldLift_116
      · replace h := ie_e c12 h
        refine lv_iconst (v := 1) F.1 F.2.1 dX2_wouldLift_111 (by decide) ?_
        refine lv_goto (tgt := 116) F.1 F.2.1 dX2_wouldLift_112 (by decide) ?_
        exact q_zret F hlocks hr rfl hB (Option.some.inj h) rfl dX2_wouldLift_116
  have B30 : ∀ (H : Heap) (locs : List Loc) (ls : Array Slot) (x1 : Int32) (x3 : Int32) (r4 : Nat) (r5 : Nat) (x6 : Int32) (y0 : Int32) (y1 : Int32) (hr4 : isRow r4 6) (hr5 : isRow r5 6), f_X2_wouldLift_b30 σ0 x1 x3 r4 r5 x6 y0 y1 = some o → Bd D cy ad σ0 s.heap H locs → lv_has ls 9 [(0, .ref (ad 6)), (1, .int x1), (3, .int x3), (4, .ref (ad r4)), (5, .ref (ad r5)), (6, .int x6)] → W p l e rm_X2_wouldLift s m ([.ref (ad 6), .int a1, .int a2, .int a3, .ref (ad q4), .ref (ad q5)] : List Value).toArray below meth c H locs 0 0 (MQ below (CQi D cy ad o σ0) ([.ref (ad 6), .int a1, .int a2, .int a3, .ref (ad q4), .ref (ad q5)] : List Value).toArray s 0 0 (AA ad)) (F0 m 30 ls [.int y0, .int y1]) := by
    intro H locs ls x1 x3 r4 r5 x6 y0 y1 hr4 hr5 h hB hl
    unfold f_X2_wouldLift_b30 at h
    refine lv_iadd F.1 F.2.1 dX2_wouldLift_30 ?_
    refine lv_istore (lv' := [(7, .int (y1 + y0)), (0, .ref (ad 6)), (1, .int x1), (3, .int x3), (4, .ref (ad r4)), (5, .ref (ad r5)), (6, .int x6)]) F.1 F.2.1 dX2_wouldLift_31 hl (by decide) rfl (fun ls hl => ?_)
    refine lv_aload_n F.1 F.2.1 dX2_wouldLift_33 rfl (lv_at hl 1 rfl) ?_
    refine gf_RX2_9 F hE hB po_6 rfl dX2_wouldLift_34 ?_
    refine lv_iload_n F.1 F.2.1 dX2_wouldLift_37 rfl (lv_at hl 2 rfl) ?_
    obtain ⟨hi4, h⟩ := ck_e h
    refine q_iald F hE hB po_7 hi4 dX2_wouldLift_38 ?_
    refine lv_if_ne (tgt := 54) F.1 F.2.1 dX2_wouldLift_39 (by decide) (fun c5 => ?_) (fun c5 => ?_)
    · replace h := ie_e c5 h
      refine lv_aload_n F.1 F.2.1 dX2_wouldLift_54 rfl (lv_at hl 1 rfl) ?_
      refine gf_RX2_9 F hE hB po_6 rfl dX2_wouldLift_55 ?_
      refine lv_iload_n F.1 F.2.1 dX2_wouldLift_58 rfl (lv_at hl 2 rfl) ?_
      obtain ⟨hi6, h⟩ := ck_e h
      refine q_iald F hE hB po_7 hi6 dX2_wouldLift_59 ?_
      refine lv_iconst (v := 1) F.1 F.2.1 dX2_wouldLift_60 (by decide) ?_
      refine lv_icmp_ne (tgt := 76) F.1 F.2.1 dX2_wouldLift_61 (by decide) (fun c7 => ?_) (fun c7 => ?_)
      · replace h := ie_e c7 h
        refine lv_aload F.1 F.2.1 dX2_wouldLift_76 (lv_at hl 4 rfl) ?_
        obtain ⟨v9, hc8, h⟩ := bp_e h
        refine q_ci hB (q_goS F hE hB (k_X2_worthOf hI σ0 r4 hr4 hc8) (ca_RX2_47 F.2.2.2.2 ⟨Nat.le_of_ble_eq_true rfl, Nat.le_of_ble_eq_true rfl⟩) rfl hl.1 rfl (Nat.le_of_ble_eq_true rfl) dX2_wouldLift_78 ⟨Nat.le_of_ble_eq_true rfl, Nat.le_of_ble_eq_true rfl⟩) (fun H locs hB => ?_)
        refine lv_iload F.1 F.2.1 dX2_wouldLift_81 (lv_at hl 6 rfl) ?_
        refine lv_if_eq (tgt := 94) F.1 F.2.1 dX2_wouldLift_83 (by decide) (fun c10 => ?_) (fun c10 => ?_)
        · replace h := it_e c10 h
          refine lv_iconst (v := 0) F.1 F.2.1 dX2_wouldLift_94 (by decide) ?_
          exact B95 _ _ _ x3 (y1 + y0) (0 : Int32) v9 h hB (lv_sub hl [3, 0] rfl)
        · replace h := ie_e c10 h
          refine lv_aload F.1 F.2.1 dX2_wouldLift_86 (lv_at hl 5 rfl) ?_
          obtain ⟨v14, hc13, h⟩ := bp_e h
          refine q_ci hB (q_goS F hE hB (k_X2_worthOf hI σ0 r5 hr5 hc13) (ca_RX2_47 F.2.2.2.2 ⟨Nat.le_of_ble_eq_true rfl, Nat.le_of_ble_eq_true rfl⟩) rfl hl.1 rfl (Nat.le_of_ble_eq_true rfl) dX2_wouldLift_88 ⟨Nat.le_of_ble_eq_true rfl, Nat.le_of_ble_eq_true rfl⟩) (fun H locs hB => ?_)
          refine lv_goto (tgt := 95) F.1 F.2.1 dX2_wouldLift_91 (by decide) ?_
          exact B95 _ _ _ x3 (y1 + y0) v14 v9 h hB (lv_sub hl [3, 0] rfl)
      · replace h := it_e c7 h
        refine lv_iload F.1 F.2.1 dX2_wouldLift_64 (lv_at hl 0 rfl) ?_
        refine lv_iload_n F.1 F.2.1 dX2_wouldLift_66 rfl (lv_at hl 3 rfl) ?_
        refine lv_icmp_ge (tgt := 74) F.1 F.2.1 dX2_wouldLift_67 (by decide) (fun c15 => ?_) (fun c15 => ?_)
        · replace h := it_e c15 h
          refine lv_iconst (v := 0) F.1 F.2.1 dX2_wouldLift_74 (by decide) ?_
          exact q_zret F hlocks hr rfl hB (Option.some.inj h) rfl dX2_wouldLift_75
        · replace h := ie_e c15 h
          refine lv_iconst (v := 1) F.1 F.2.1 dX2_wouldLift_70 (by decide) ?_
          refine lv_goto (tgt := 75) F.1 F.2.1 dX2_wouldLift_71 (by decide) ?_
          exact q_zret F hlocks hr rfl hB (Option.some.inj h) rfl dX2_wouldLift_75
    · replace h := it_e c5 h
      refine lv_iload F.1 F.2.1 dX2_wouldLift_42 (lv_at hl 0 rfl) ?_
      refine lv_iload_n F.1 F.2.1 dX2_wouldLift_44 rfl (lv_at hl 3 rfl) ?_
      refine lv_icmp_lt (tgt := 52) F.1 F.2.1 dX2_wouldLift_45 (by decide) (fun c16 => ?_) (fun c16 => ?_)
      · replace h := it_e c16 h
        refine lv_iconst (v := 0) F.1 F.2.1 dX2_wouldLift_52 (by decide) ?_
        exact q_zret F hlocks hr rfl hB (Option.some.inj h) rfl dX2_wouldLift_53
      · replace h := ie_e c16 h
        refine lv_iconst (v := 1) F.1 F.2.1 dX2_wouldLift_48 (by decide) ?_
        refine lv_goto (tgt := 53) F.1 F.2.1 dX2_wouldLift_49 (by decide) ?_
        exact q_zret F hlocks hr rfl hB (Option.some.inj h) rfl dX2_wouldLift_53
  have B11 : ∀ (H : Heap) (locs : List Loc) (ls : Array Slot) (x1 : Int32) (x2 : Int32) (x3 : Int32) (r4 : Nat) (r5 : Nat) (y0 : Int32) (hr4 : isRow r4 6) (hr5 : isRow r5 6), f_X2_wouldLift_b11 σ0 x1 x2 x3 r4 r5 y0 = some o → Bd D cy ad σ0 s.heap H locs → lv_has ls 9 [(0, .ref (ad 6)), (1, .int x1), (2, .int x2), (3, .int x3), (4, .ref (ad r4)), (5, .ref (ad r5))] → W p l e rm_X2_wouldLift s m ([.ref (ad 6), .int a1, .int a2, .int a3, .ref (ad q4), .ref (ad q5)] : List Value).toArray below meth c H locs 0 0 (MQ below (CQi D cy ad o σ0) ([.ref (ad 6), .int a1, .int a2, .int a3, .ref (ad q4), .ref (ad q5)] : List Value).toArray s 0 0 (AA ad)) (F0 m 11 ls [.int y0]) := by
    intro H locs ls x1 x2 x3 r4 r5 y0 hr4 hr5 h hB hl
    unfold f_X2_wouldLift_b11 at h
    refine lv_istore (lv' := [(6, .int y0), (0, .ref (ad 6)), (1, .int x1), (2, .int x2), (3, .int x3), (4, .ref (ad r4)), (5, .ref (ad r5))]) F.1 F.2.1 dX2_wouldLift_11 hl (by decide) rfl (fun ls hl => ?_)
    refine lv_aload F.1 F.2.1 dX2_wouldLift_13 (lv_at hl 5 rfl) ?_
    refine lv_iload_n F.1 F.2.1 dX2_wouldLift_15 rfl (lv_at hl 3 rfl) ?_
    obtain ⟨hi2, h⟩ := ck_e h
    refine q_iald F hE hB (po_row hr4) hi2 dX2_wouldLift_16 ?_
    refine lv_iload F.1 F.2.1 dX2_wouldLift_17 (lv_at hl 0 rfl) ?_
    refine lv_if_eq (tgt := 29) F.1 F.2.1 dX2_wouldLift_19 (by decide) (fun c3 => ?_) (fun c3 => ?_)
    · replace h := it_e c3 h
      refine lv_iconst (v := 0) F.1 F.2.1 dX2_wouldLift_29 (by decide) ?_
      exact B30 _ _ _ x1 x3 r4 r5 y0 (0 : Int32) (σ0.1 r4 x2.toNatClampNeg) hr4 hr5 h hB (lv_sub hl [1, 2, 4, 5, 6, 0] rfl)
    · replace h := ie_e c3 h
      refine lv_aload F.1 F.2.1 dX2_wouldLift_22 (lv_at hl 6 rfl) ?_
      refine lv_iload_n F.1 F.2.1 dX2_wouldLift_24 rfl (lv_at hl 3 rfl) ?_
      obtain ⟨hi17, h⟩ := ck_e h
      refine q_iald F hE hB (po_row hr5) hi17 dX2_wouldLift_25 ?_
      refine lv_goto (tgt := 30) F.1 F.2.1 dX2_wouldLift_26 (by decide) ?_
      exact B30 _ _ _ x1 x3 r4 r5 y0 (σ0.1 r5 x2.toNatClampNeg) (σ0.1 r4 x2.toNatClampNeg) hr4 hr5 h hB (lv_sub hl [1, 2, 4, 5, 6, 0] rfl)
  unfold f_X2_wouldLift at h
  refine lv_iload_n F.1 F.2.1 dX2_wouldLift_0 rfl (lv_at hl 1 rfl) ?_
  refine lv_iconst (v := 2) F.1 F.2.1 dX2_wouldLift_1 (by decide) ?_
  refine lv_irem F.1 F.2.1 dX2_wouldLift_2 (by decide) ?_
  refine lv_if_ne (tgt := 10) F.1 F.2.1 dX2_wouldLift_3 (by decide) (fun c1 => ?_) (fun c1 => ?_)
  · replace h := ie_e c1 h
    refine lv_iconst (v := 0) F.1 F.2.1 dX2_wouldLift_10 (by decide) ?_
    exact B11 _ _ _ a1 a2 a3 q4 q5 (0 : Int32) hq4 hq5 h hB (lv_sub hl [0, 1, 2, 3, 4, 5] rfl)
  · replace h := it_e c1 h
    refine lv_iconst (v := 1) F.1 F.2.1 dX2_wouldLift_6 (by decide) ?_
    refine lv_goto (tgt := 11) F.1 F.2.1 dX2_wouldLift_7 (by decide) ?_
    exact B11 _ _ _ a1 a2 a3 q4 q5 (1 : Int32) hq4 hq5 h hB (lv_sub hl [0, 1, 2, 3, 4, 5] rfl)
