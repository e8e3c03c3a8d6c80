def f_X10_believedOf_b88 (k6 : Mem → Int32 → Int32 → Int32 → Int32 → Int64 → Int32 → Option (Int64 × Mem)) (σ0 : Mem) (x1 : Int32) (x2 : Int32) (x3 : Int32) (x4 : Int32) (x5 : Int64) (x7 : Int32) : Option (Int64 × Mem) := (k6 σ0 x1 x2 x3 x4 x5 (x7 + (1 : Int32)))
def f_X10_believedOf_b72 (k6 : Mem → Int32 → Int32 → Int32 → Int32 → Int64 → Int32 → Option (Int64 × Mem)) (k41 : Mem → Int32 → Int32 → Int32 → Int32 → Int64 → Int32 → Int64 → Int32 → Option (Int64 × Mem)) (σ0 : Mem) (x1 : Int32) (x2 : Int32) (x3 : Int32) (x4 : Int32) (x5 : Int64) (x7 : Int32) (x10 : Int32) (y0 : Int64) (y1 : Int64) : Option (Int64 × Mem) := (k41 σ0 x1 x2 x3 x4 x5 x7 (y1 * y0) (x10 + (1 : Int32)))
def f_X10_believedOf_b41 (k6 : Mem → Int32 → Int32 → Int32 → Int32 → Int64 → Int32 → Option (Int64 × Mem)) : Nat → Mem → Int32 → Int32 → Int32 → Int32 → Int64 → Int32 → Int64 → Int32 → Option (Int64 × Mem)
  | 0, _, _, _, _, _, _, _, _, _ => none
  | n41 + 1, σ0, x1, x2, x3, x4, x5, x7, x8, x10 => (if (σ0.1 64 11) ≤ x10 then (f_X10_believedOf_b88 k6 σ0 x1 x2 x3 x4 (x5 + x8) x7) else (bp (f_X10_isIn σ0 x7 x10) (fun v16 => (if v16 = (0 : Int32) then (f_X10_believedOf_b72 k6 (f_X10_believedOf_b41 k6 n41) σ0 x1 x2 x3 x4 x5 x7 x10 ((16 : Int32) - x1).toInt64 x8) else (f_X10_believedOf_b72 k6 (f_X10_believedOf_b41 k6 n41) σ0 x1 x2 x3 x4 x5 x7 x10 x1.toInt64 x8)))))
def f_X10_believedOf_b6 : Nat → Mem → Int32 → Int32 → Int32 → Int32 → Int64 → Int32 → Option (Int64 × Mem)
  | 0, _, _, _, _, _, _, _ => none
  | n6 + 1, σ0, x1, x2, x3, x4, x5, x7 => (if ((1 : Int32) <<< ((σ0.1 64 11) &&& 31)) ≤ x7 then (lt (ms σ0 64 13 (255 : Int32)) (fun σ2 => (bp (f_X10_part σ2 x5 ((1 : Int64) <<< (((4 : Int32) * (σ2.1 64 11)).toInt64 &&& 63)) x4) (fun v5 => (some (v5, σ2)))))) else (lt (ms σ0 64 13 x7) (fun σ6 => (bi (f_X10_throughOf σ6 x3) (fun v10 σ9 => (bp (f_X10_isIn σ9 v10 x2) (fun v12 => (if v12 = (0 : Int32) then (f_X10_believedOf_b88 (f_X10_believedOf_b6 n6) σ9 x1 x2 x3 x4 x5 x7) else (f_X10_believedOf_b41 (f_X10_believedOf_b6 n6) 300 σ9 x1 x2 x3 x4 x5 x7 (1 : Int64) (0 : Int32))))))))))
def f_X10_believedOf (σ0 : Mem) (a1 : Int32) (a2 : Int32) (a3 : Int32) (a4 : Int32) : Option (Int64 × Mem) := (f_X10_believedOf_b6 300 σ0 a1 a2 a3 a4 (0 : Int64) (0 : Int32))
set_option maxHeartbeats 4000000 in
set_option maxRecDepth 100000 in
theorem k_X10_believedOf {l : Launch} {D : va_G} {cy : Nat → ClassId} {ad : Nat → Nat} {ta tb : Nat} (hI : AdI ad) (σ0 : Mem) (a1 : Int32) (a2 : Int32) (a3 : Int32) (a4 : Int32) {o : Int64 × Mem} (h : f_X10_believedOf σ0 a1 a2 a3 a4 = some o) : Met l yX10_believedOf (Cond.code yX10_believedOf cX10_believedOf 11 (some .long) :: wG) rm_X10_believedOf (CP D cy ad ta tb σ0 [.ref (ad 64), .int a1, .int a2, .int a3, .int a4]) (CQl D cy ad o.1 o.2) 0 0 (AA ad) := by
  refine Met.ofW (cc := cX10_believedOf) (maxL := 11) (ret := (some .long)) (by decide) rfl ?_
  intro p e s m args below meth c s₁ B hml hv
  obtain ⟨rfl, hE, hP⟩ := hv
  have hts := atoms_spec (ws := Cond.code yX10_believedOf cX10_believedOf 11 (some .long) :: wG) B.pre
  have F : CallFix p m c cX10_believedOf 11 s _ wG RX10 := ⟨B.exec, B.bytes, hml, findClass_of_methodNamed B.named, fun w hw => hts w (List.mem_cons_of_mem _ hw)⟩
  have hr := B.returns
  have hlocks := B.notSynchronized
  have hB : Bd D cy ad σ0 s.heap s.heap [] := ⟨hP, va_S.rf⟩
  have hl := lv_entry ([.ref (ad 64), .int a1, .int a2, .int a3, .int a4] : List Value) (n := 11) (Nat.le_of_ble_eq_true rfl)
  rw [lg_entry_eq]
  generalize (lg_sl ([.ref (ad 64), .int a1, .int a2, .int a3, .int a4] : List Value) ++ List.replicate (11 - (lg_sl ([.ref (ad 64), .int a1, .int a2, .int a3, .int a4] : List Value)).length) Slot.unset).toArray = ls at hl ⊢
  have hl : lv_has ls 11 [(0, .ref (ad 64)), (1, .int a1), (2, .int a2), (3, .int a3), (4, .int a4)] := hl
  have B6 : ∀ (n6 : Nat) (σ0 : Mem) (H : Heap) (locs : List Loc) (ls : Array Slot) (x1 : Int32) (x2 : Int32) (x3 : Int32) (x4 : Int32) (x5 : Int64) (x7 : Int32), f_X10_believedOf_b6 n6 σ0 x1 x2 x3 x4 x5 x7 = some o → Bd D cy ad σ0 s.heap H locs → lv_has ls 11 [(0, .ref (ad 64)), (1, .int x1), (2, .int x2), (3, .int x3), (4, .int x4), (5, .long x5), (7, .int x7)] → W p l e rm_X10_believedOf s m ([.ref (ad 64), .int a1, .int a2, .int a3, .int a4] : List Value).toArray below meth c H locs 0 0 (MQ below (CQl D cy ad o.1 o.2) ([.ref (ad 64), .int a1, .int a2, .int a3, .int a4] : List Value).toArray s 0 0 (AA ad)) (F0 m 6 ls []) := by
    intro n6
    induction n6 with
    | zero => intro σ0 H locs ls x1 x2 x3 x4 x5 x7 h hB hl; cases h
    | succ n6 ih6 =>
      have B88 : ∀ (σ0 : Mem) (H : Heap) (locs : List Loc) (ls : Array Slot) (x1 : Int32) (x2 : Int32) (x3 : Int32) (x4 : Int32) (x5 : Int64) (x7 : Int32), f_X10_believedOf_b88 (f_X10_believedOf_b6 n6) σ0 x1 x2 x3 x4 x5 x7 = some o → Bd D cy ad σ0 s.heap H locs → lv_has ls 11 [(0, .ref (ad 64)), (1, .int x1), (2, .int x2), (3, .int x3), (4, .int x4), (5, .long x5), (7, .int x7)] → W p l e rm_X10_believedOf s m ([.ref (ad 64), .int a1, .int a2, .int a3, .int a4] : List Value).toArray below meth c H locs 0 0 (MQ below (CQl D cy ad o.1 o.2) ([.ref (ad 64), .int a1, .int a2, .int a3, .int a4] : List Value).toArray s 0 0 (AA ad)) (F0 m 88 ls []) := by
        intro σ0 H locs ls x1 x2 x3 x4 x5 x7 h hB hl
        unfold f_X10_believedOf_b88 at h
        refine lv_iinc (v := (x7 + (1 : Int32))) (lv' := [(7, .int (x7 + (1 : Int32))), (0, .ref (ad 64)), (1, .int x1), (2, .int x2), (3, .int x3), (4, .int x4), (5, .long x5)]) F.1 F.2.1 dX10_believedOf_88 hl (k := 6) rfl rfl (by decide) rfl (fun ls hl => ?_)
        refine lv_goto (tgt := 6) F.1 F.2.1 dX10_believedOf_91 (by decide) ?_
        exact ih6 σ0 _ _ _ x1 x2 x3 x4 x5 (x7 + (1 : Int32)) h hB (lv_sub hl [1, 2, 3, 4, 5, 6, 0] rfl)
      have B41 : ∀ (n41 : Nat) (σ0 : Mem) (H : Heap) (locs : List Loc) (ls : Array Slot) (x1 : Int32) (x2 : Int32) (x3 : Int32) (x4 : Int32) (x5 : Int64) (x7 : Int32) (x8 : Int64) (x10 : Int32), f_X10_believedOf_b41 (f_X10_believedOf_b6 n6) n41 σ0 x1 x2 x3 x4 x5 x7 x8 x10 = some o → Bd D cy ad σ0 s.heap H locs → lv_has ls 11 [(0, .ref (ad 64)), (1, .int x1), (2, .int x2), (3, .int x3), (4, .int x4), (5, .long x5), (7, .int x7), (8, .long x8), (10, .int x10)] → W p l e rm_X10_believedOf s m ([.ref (ad 64), .int a1, .int a2, .int a3, .int a4] : List Value).toArray below meth c H locs 0 0 (MQ below (CQl D cy ad o.1 o.2) ([.ref (ad 64), .int a1, .int a2, .int a3, .int a4] : List Value).toArray s 0 0 (AA ad)) (F0 m 41 ls []) := by
        intro n41
        induction n41 with
        | zero => intro σ0 H locs ls x1 x2 x3 x4 x5 x7 x8 x10 h hB hl; cases h
        | succ n41 ih41 =>
          have B72 : ∀ (σ0 : Mem) (H : Heap) (locs : List Loc) (ls : Array Slot) (x1 : Int32) (x2 : Int32) (x3 : Int32) (x4 : Int32) (x5 : Int64) (x7 : Int32) (x10 : Int32) (y0 : Int64) (y1 : Int64), f_X10_believedOf_b72 (f_X10_believedOf_b6 n6) (f_X10_believedOf_b41 (f_X10_believedOf_b6 n6) n41) σ0 x1 x2 x3 x4 x5 x7 x10 y0 y1 = some o → Bd D cy ad σ0 s.heap H locs → lv_has ls 11 [(0, .ref (ad 64)), (1, .int x1), (2, .int x2), (3, .int x3), (4, .int x4), (5, .long x5), (7, .int x7), (10, .int x10)] → W p l e rm_X10_believedOf s m ([.ref (ad 64), .int a1, .int a2, .int a3, .int a4] : List Value).toArray below meth c H locs 0 0 (MQ below (CQl D cy ad o.1 o.2) ([.ref (ad 64), .int a1, .int a2, .int a3, .int a4] : List Value).toArray s 0 0 (AA ad)) (F0 m 72 ls [.long y0, .long y1]) := by
            intro σ0 H locs ls x1 x2 x3 x4 x5 x7 x10 y0 y1 h hB hl
            unfold f_X10_believedOf_b72 at h
            refine lv_lmul F.1 F.2.1 dX10_believedOf_72 ?_
            refine lv_lstore (lv' := [(8, .long (y1 * y0)), (0, .ref (ad 64)), (1, .int x1), (2, .int x2), (3, .int x3), (4, .int x4), (5, .long x5), (7, .int x7), (10, .int x10)]) F.1 F.2.1 dX10_believedOf_73 hl (by decide) rfl (fun ls hl => ?_)
            refine lv_iinc (v := (x10 + (1 : Int32))) (lv' := [(10, .int (x10 + (1 : Int32))), (8, .long (y1 * y0)), (0, .ref (ad 64)), (1, .int x1), (2, .int x2), (3, .int x3), (4, .int x4), (5, .long x5), (7, .int x7)]) F.1 F.2.1 dX10_believedOf_75 hl (k := 8) rfl rfl (by decide) rfl (fun ls hl => ?_)
            refine lv_goto (tgt := 41) F.1 F.2.1 dX10_believedOf_78 (by decide) ?_
            exact ih41 σ0 _ _ _ x1 x2 x3 x4 x5 x7 (y1 * y0) (x10 + (1 : Int32)) h hB (lv_sub hl [2, 3, 4, 5, 6, 7, 8, 1, 0] rfl)
          intro σ0 H locs ls x1 x2 x3 x4 x5 x7 x8 x10 h hB hl
          rw [f_X10_believedOf_b41] at h
          refine lv_iload F.1 F.2.1 dX10_believedOf_41 (lv_at hl 8 rfl) ?_
          refine lv_aload_n F.1 F.2.1 dX10_believedOf_43 rfl (lv_at hl 0 rfl) ?_
          refine gf_RX10_144 F hE hB po_64 rfl dX10_believedOf_44 ?_
          refine lv_icmp_ge (tgt := 81) F.1 F.2.1 dX10_believedOf_47 (by decide) (fun c14 => ?_) (fun c14 => ?_)
          · replace h := it_e c14 h
            refine lv_lload F.1 F.2.1 dX10_believedOf_81 (lv_at hl 5 rfl) ?_
            refine lv_lload F.1 F.2.1 dX10_believedOf_83 (lv_at hl 7 rfl) ?_
            refine lv_ladd F.1 F.2.1 dX10_believedOf_85 ?_
            refine lv_lstore (lv' := [(5, .long (x5 + x8)), (0, .ref (ad 64)), (1, .int x1), (2, .int x2), (3, .int x3), (4, .int x4), (7, .int x7), (8, .long x8), (10, .int x10)]) F.1 F.2.1 dX10_believedOf_86 hl (by decide) rfl (fun ls hl => ?_)
            exact B88 σ0 _ _ _ x1 x2 x3 x4 (x5 + x8) x7 h hB (lv_sub hl [1, 2, 3, 4, 5, 0, 6] rfl)
          · replace h := ie_e c14 h
            refine lv_lload F.1 F.2.1 dX10_believedOf_50 (lv_at hl 7 rfl) ?_
            refine lv_iload F.1 F.2.1 dX10_believedOf_52 (lv_at hl 6 rfl) ?_
            refine lv_iload F.1 F.2.1 dX10_believedOf_54 (lv_at hl 8 rfl) ?_
            obtain ⟨v16, hc15, h⟩ := bp_e h
            refine q_ci hB (q_goS F hE hB (k_X10_isIn hI σ0 x7 x10 hc15) (ca_RX10_149 F.2.2.2.2 ⟨Nat.le_of_ble_eq_true rfl, Nat.le_of_ble_eq_true rfl⟩) rfl hl.1 rfl (Nat.le_of_ble_eq_true rfl) dX10_believedOf_56 ⟨Nat.le_of_ble_eq_true rfl, Nat.le_of_ble_eq_true rfl⟩) (fun H locs hB => ?_)
            refine lv_if_eq (tgt := 67) F.1 F.2.1 dX10_believedOf_59 (by decide) (fun c17 => ?_) (fun c17 => ?_)
            · replace h := it_e c17 h
              refine lv_bipush (v := 16) F.1 F.2.1 dX10_believedOf_67 (by decide) ?_
              refine lv_iload_n F.1 F.2.1 dX10_believedOf_69 rfl (lv_at hl 1 rfl) ?_
              refine lv_isub F.1 F.2.1 dX10_believedOf_70 ?_
              refine lv_i2l F.1 F.2.1 dX10_believedOf_71 rfl ?_
              exact B72 σ0 _ _ _ x1 x2 x3 x4 x5 x7 x10 ((16 : Int32) - x1).toInt64 x8 h hB (lv_sub hl [0, 1, 2, 3, 4, 5, 6, 8] rfl)
            · replace h := ie_e c17 h
              refine lv_iload_n F.1 F.2.1 dX10_believedOf_62 rfl (lv_at hl 1 rfl) ?_
              refine lv_i2l F.1 F.2.1 dX10_believedOf_63 rfl ?_
              refine lv_goto (tgt := 72) F.1 F.2.1 dX10_believedOf_64 (by decide) ?_
              exact B72 σ0 _ _ _ x1 x2 x3 x4 x5 x7 x10 x1.toInt64 x8 h hB (lv_sub hl [0, 1, 2, 3, 4, 5, 6, 8] rfl)
      intro σ0 H locs ls x1 x2 x3 x4 x5 x7 h hB hl
      rw [f_X10_believedOf_b6] at h
      refine lv_iload F.1 F.2.1 dX10_believedOf_6 (lv_at hl 6 rfl) ?_
      refine lv_iconst (v := 1) F.1 F.2.1 dX10_believedOf_8 (by decide) ?_
      refine lv_aload_n F.1 F.2.1 dX10_believedOf_9 rfl (lv_at hl 0 rfl) ?_
      refine gf_RX10_144 F hE hB po_64 rfl dX10_believedOf_10 ?_
      refine lv_ishl F.1 F.2.1 dX10_believedOf_13 ?_
      refine lv_icmp_ge (tgt := 94) F.1 F.2.1 dX10_believedOf_14 (by decide) (fun c1 => ?_) (fun c1 => ?_)
      · replace h := it_e c1 h
        refine lv_aload_n F.1 F.2.1 dX10_believedOf_94 rfl (lv_at hl 0 rfl) ?_
        refine lv_sipush (v := 255) F.1 F.2.1 dX10_believedOf_95 (by decide) ?_
        obtain ⟨σ2, e3, h⟩ := lt_e h
        refine pf_RX10_59 F hE hI hB po_64 rfl rfl (Nat.le_of_ble_eq_true rfl) rfl dX10_believedOf_98 e3 (fun H locs hB => ?_)
        refine lv_lload F.1 F.2.1 dX10_believedOf_101 (lv_at hl 5 rfl) ?_
        refine lv_lconst (v := 1) F.1 F.2.1 dX10_believedOf_103 (by decide) ?_
        refine lv_iconst (v := 4) F.1 F.2.1 dX10_believedOf_104 (by decide) ?_
        refine lv_aload_n F.1 F.2.1 dX10_believedOf_105 rfl (lv_at hl 0 rfl) ?_
        refine gf_RX10_144 F hE hB po_64 rfl dX10_believedOf_106 ?_
        refine lv_imul F.1 F.2.1 dX10_believedOf_109 ?_
        refine lv_lshl F.1 F.2.1 dX10_believedOf_110 rfl ?_
        refine lv_iload F.1 F.2.1 dX10_believedOf_111 (lv_at hl 4 rfl) ?_
        obtain ⟨v5, hc4, h⟩ := bp_e h
        refine q_cl hB (q_goS F hE hB (k_X10_part hI σ2 x5 ((1 : Int64) <<< (((4 : Int32) * (σ2.1 64 11)).toInt64 &&& 63)) x4 hc4) (ca_RX10_247 F.2.2.2.2 ⟨Nat.le_of_ble_eq_true rfl, Nat.le_of_ble_eq_true rfl⟩) rfl hl.1 rfl (Nat.le_of_ble_eq_true rfl) dX10_believedOf_113 ⟨Nat.le_of_ble_eq_true rfl, Nat.le_of_ble_eq_true rfl⟩) (fun H locs hB => ?_)
        exact q_lret F hlocks hr hB (so1 h) (so2 h) dX10_believedOf_116
      · replace h := ie_e c1 h
        refine lv_aload_n F.1 F.2.1 dX10_believedOf_17 rfl (lv_at hl 0 rfl) ?_
        refine lv_iload F.1 F.2.1 dX10_believedOf_18 (lv_at hl 6 rfl) ?_
        obtain ⟨σ6, e7, h⟩ := lt_e h
        refine pf_RX10_59 F hE hI hB po_64 rfl rfl (Nat.le_of_ble_eq_true rfl) rfl dX10_believedOf_20 e7 (fun H locs hB => ?_)
        refine lv_aload_n F.1 F.2.1 dX10_believedOf_23 rfl (lv_at hl 0 rfl) ?_
        refine lv_iload_n F.1 F.2.1 dX10_believedOf_24 rfl (lv_at hl 3 rfl) ?_
        obtain ⟨v10, σ9, hc8, h⟩ := bi_e h
        refine q_ci hB (q_goV F hE hB (k_X10_throughOf hI σ6 x3 hc8) (ca_RX10_203 F.2.2.2.2 ⟨Nat.le_of_ble_eq_true rfl, Nat.le_of_ble_eq_true rfl⟩) rfl po_64 rfl hl.1 rfl (Nat.le_of_ble_eq_true rfl) dX10_believedOf_25 ⟨Nat.le_of_ble_eq_true rfl, Nat.le_of_ble_eq_true rfl⟩) (fun H locs hB => ?_)
        refine lv_iload_n F.1 F.2.1 dX10_believedOf_28 rfl (lv_at hl 2 rfl) ?_
        obtain ⟨v12, hc11, h⟩ := bp_e h
        refine q_ci hB (q_goS F hE hB (k_X10_isIn hI σ9 v10 x2 hc11) (ca_RX10_149 F.2.2.2.2 ⟨Nat.le_of_ble_eq_true rfl, Nat.le_of_ble_eq_true rfl⟩) rfl hl.1 rfl (Nat.le_of_ble_eq_true rfl) dX10_believedOf_29 ⟨Nat.le_of_ble_eq_true rfl, Nat.le_of_ble_eq_true rfl⟩) (fun H locs hB => ?_)
        refine lv_if_eq (tgt := 88) F.1 F.2.1 dX10_believedOf_32 (by decide) (fun c13 => ?_) (fun c13 => ?_)
        · replace h := it_e c13 h
          exact B88 σ9 _ _ _ x1 x2 x3 x4 x5 x7 h hB (lv_sub hl [0, 1, 2, 3, 4, 5, 6] rfl)
        · replace h := ie_e c13 h
          refine lv_lconst (v := 1) F.1 F.2.1 dX10_believedOf_35 (by decide) ?_
          refine lv_lstore (lv' := [(8, .long (1 : Int64)), (0, .ref (ad 64)), (1, .int x1), (2, .int x2), (3, .int x3), (4, .int x4), (5, .long x5), (7, .int x7)]) F.1 F.2.1 dX10_believedOf_36 hl (by decide) rfl (fun ls hl => ?_)
          refine lv_iconst (v := 0) F.1 F.2.1 dX10_believedOf_38 (by decide) ?_
          refine lv_istore (lv' := [(10, .int (0 : Int32)), (8, .long (1 : Int64)), (0, .ref (ad 64)), (1, .int x1), (2, .int x2), (3, .int x3), (4, .int x4), (5, .long x5), (7, .int x7)]) F.1 F.2.1 dX10_believedOf_39 hl (by decide) rfl (fun ls hl => ?_)
          exact B41 300 σ9 _ _ _ x1 x2 x3 x4 x5 x7 (1 : Int64) (0 : Int32) h hB (lv_sub hl [2, 3, 4, 5, 6, 7, 8, 1, 0] rfl)
  unfold f_X10_believedOf at h
  refine lv_lconst (v := 0) F.1 F.2.1 dX10_believedOf_0 (by decide) ?_
  refine lv_lstore (lv' := [(5, .long (0 : Int64)), (0, .ref (ad 64)), (1, .int a1), (2, .int a2), (3, .int a3), (4, .int a4)]) F.1 F.2.1 dX10_believedOf_1 hl (by decide) rfl (fun ls hl => ?_)
  refine lv_iconst (v := 0) F.1 F.2.1 dX10_believedOf_3 (by decide) ?_
  refine lv_istore (lv' := [(7, .int (0 : Int32)), (5, .long (0 : Int64)), (0, .ref (ad 64)), (1, .int a1), (2, .int a2), (3, .int a3), (4, .int a4)]) F.1 F.2.1 dX10_believedOf_4 hl (by decide) rfl (fun ls hl => ?_)
  exact B6 300 σ0 _ _ _ a1 a2 a3 a4 (0 : Int64) (0 : Int32) h hB (lv_sub hl [2, 3, 4, 5, 6, 1, 0] rfl)
def f_X10_believed_b51 (σ0 : Mem) : Option (Int64 × Mem) := (bp (f_X10_no σ0 (-2 : Int32)) (fun v7 => (some (v7, σ0))))
def f_X10_believed (σ0 : Mem) (a1 : Int32) (a2 : Int32) (a3 : Int32) (a4 : Int32) : Option (Int64 × Mem) := (bv (f_X10_find σ0) (fun σ2 => (bp (f_X10_in σ2 a1.toInt64 (0 : Int64) (16 : Int64)) (fun v4 => (if v4 = (0 : Int32) then (f_X10_believed_b51 σ2) else (bp (f_X10_isBoat σ2 a2) (fun v9 => (if v9 = (0 : Int32) then (f_X10_believed_b51 σ2) else (bp (f_X10_isStep σ2 a3) (fun v12 => (if v12 = (0 : Int32) then (f_X10_believed_b51 σ2) else (bp (f_X10_isTwo σ2 a4) (fun v15 => (if v15 = (0 : Int32) then (f_X10_believed_b51 σ2) else (bi (f_X10_believedOf σ2 a1 a2 a3 a4) (fun v19 σ18 => (some (v19, σ18))))))))))))))))))
set_option maxHeartbeats 4000000 in
set_option maxRecDepth 100000 in
theorem k_X10_believed {l : Launch} {D : va_G} {cy : Nat → ClassId} {ad : Nat → Nat} {ta tb : Nat} (hI : AdI ad) (σ0 : Mem) (a1 : Int32) (a2 : Int32) (a3 : Int32) (a4 : Int32) {o : Int64 × Mem} (h : f_X10_believed σ0 a1 a2 a3 a4 = some o) : Met l yX10_believed (Cond.code yX10_believed cX10_believed 5 (some .long) :: wG) rm_X10_believed (CP D cy ad ta tb σ0 [.ref (ad 64), .int a1, .int a2, .int a3, .int a4]) (CQl D cy ad o.1 o.2) 0 0 (AA ad) := by
  refine Met.ofW (cc := cX10_believed) (maxL := 5) (ret := (some .long)) (by decide) rfl ?_
  intro p e s m args below meth c s₁ B hml hv
  obtain ⟨rfl, hE, hP⟩ := hv
  have hts := atoms_spec (ws := Cond.code yX10_believed cX10_believed 5 (some .long) :: wG) B.pre
  have F : CallFix p m c cX10_believed 5 s _ wG RX10 := ⟨B.exec, B.bytes, hml, findClass_of_methodNamed B.named, fun w hw => hts w (List.mem_cons_of_mem _ hw)⟩
  have hr := B.returns
  have hlocks := B.notSynchronized
  have hB : Bd D cy ad σ0 s.heap s.heap [] := ⟨hP, va_S.rf⟩
  have hl := lv_entry ([.ref (ad 64), .int a1, .int a2, .int a3, .int a4] : List Value) (n := 5) (Nat.le_of_ble_eq_true rfl)
  rw [lg_entry_eq]
  generalize (lg_sl ([.ref (ad 64), .int a1, .int a2, .int a3, .int a4] : List Value) ++ List.replicate (5 - (lg_sl ([.ref (ad 64), .int a1, .int a2, .int a3, .int a4] : List Value)).length) Slot.unset).toArray = ls at hl ⊢
  have hl : lv_has ls 5 [(0, .ref (ad 64)), (1, .int a1), (2, .int a2), (3, .int a3), (4, .int a4)] := hl
  have B51 : ∀ (σ0 : Mem) (H : Heap) (locs : List Loc) (ls : Array Slot), f_X10_believed_b51 σ0 = some o → Bd D cy ad σ0 s.heap H locs → lv_has ls 5 [] → W p l e rm_X10_believed s m ([.ref (ad 64), .int a1, .int a2, .int a3, .int a4] : List Value).toArray below meth c H locs 0 0 (MQ below (CQl D cy ad o.1 o.2) ([.ref (ad 64), .int a1, .int a2, .int a3, .int a4] : List Value).toArray s 0 0 (AA ad)) (F0 m 51 ls []) := by
    intro σ0 H locs ls h hB hl
    unfold f_X10_believed_b51 at h
    refine lv_bipush (v := (-2)) F.1 F.2.1 dX10_believed_51 (by decide) ?_
    obtain ⟨v7, hc6, h⟩ := bp_e h
    refine q_cl hB (q_goS F hE hB (k_X10_no hI σ0 (-2 : Int32) hc6) (ca_RX10_257 F.2.2.2.2 ⟨Nat.le_of_ble_eq_true rfl, Nat.le_of_ble_eq_true rfl⟩) rfl hl.1 rfl (Nat.le_of_ble_eq_true rfl) dX10_believed_53 ⟨Nat.le_of_ble_eq_true rfl, Nat.le_of_ble_eq_true rfl⟩) (fun H locs hB => ?_)
    exact q_lret F hlocks hr hB (so1 h) (so2 h) dX10_believed_56
  unfold f_X10_believed at h
  refine lv_aload_n F.1 F.2.1 dX10_believed_0 rfl (lv_at hl 0 rfl) ?_
  obtain ⟨σ2, hc1, h⟩ := bv_e h
  refine q_cv hB (q_goV F hE hB (k_X10_find hI σ0 hc1) (ca_RX10_129 F.2.2.2.2 ⟨Nat.le_of_ble_eq_true rfl, Nat.le_of_ble_eq_true rfl⟩) rfl po_64 rfl hl.1 rfl (Nat.le_of_ble_eq_true rfl) dX10_believed_1 ⟨Nat.le_of_ble_eq_true rfl, Nat.le_of_ble_eq_true rfl⟩) (fun H locs hB => ?_)
  refine lv_iload_n F.1 F.2.1 dX10_believed_4 rfl (lv_at hl 1 rfl) ?_
  refine lv_i2l F.1 F.2.1 dX10_believed_5 rfl ?_
  refine lv_lconst (v := 0) F.1 F.2.1 dX10_believed_6 (by decide) ?_
  refine lv_ldc2 (v := 16) F.1 F.2.1 F.2.2.2.1 (F.2.2.2.2 _ wm_k_RX10_251) dX10_believed_7 ?_
  obtain ⟨v4, hc3, h⟩ := bp_e h
  refine q_ci hB (q_goS F hE hB (k_X10_in hI σ2 a1.toInt64 (0 : Int64) (16 : Int64) hc3) (ca_RX10_64 F.2.2.2.2 ⟨Nat.le_of_ble_eq_true rfl, Nat.le_of_ble_eq_true rfl⟩) rfl hl.1 rfl (Nat.le_of_ble_eq_true rfl) dX10_believed_10 ⟨Nat.le_of_ble_eq_true rfl, Nat.le_of_ble_eq_true rfl⟩) (fun H locs hB => ?_)
  refine lv_if_eq (tgt := 51) F.1 F.2.1 dX10_believed_13 (by decide) (fun c5 => ?_) (fun c5 => ?_)
  · replace h := it_e c5 h
    exact B51 σ2 _ _ _ h hB (lv_sub hl [] rfl)
  · replace h := ie_e c5 h
    refine lv_aload_n F.1 F.2.1 dX10_believed_16 rfl (lv_at hl 0 rfl) ?_
    refine lv_iload_n F.1 F.2.1 dX10_believed_17 rfl (lv_at hl 2 rfl) ?_
    obtain ⟨v9, hc8, h⟩ := bp_e h
    refine q_ci hB (q_goV F hE hB (k_X10_isBoat hI σ2 a2 hc8) (ca_RX10_135 F.2.2.2.2 ⟨Nat.le_of_ble_eq_true rfl, Nat.le_of_ble_eq_true rfl⟩) rfl po_64 rfl hl.1 rfl (Nat.le_of_ble_eq_true rfl) dX10_believed_18 ⟨Nat.le_of_ble_eq_true rfl, Nat.le_of_ble_eq_true rfl⟩) (fun H locs hB => ?_)
    refine lv_if_eq (tgt := 51) F.1 F.2.1 dX10_believed_21 (by decide) (fun c10 => ?_) (fun c10 => ?_)
    · replace h := it_e c10 h
      exact B51 σ2 _ _ _ h hB (lv_sub hl [] rfl)
    · replace h := ie_e c10 h
      refine lv_iload_n F.1 F.2.1 dX10_believed_24 rfl (lv_at hl 3 rfl) ?_
      obtain ⟨v12, hc11, h⟩ := bp_e h
      refine q_ci hB (q_goS F hE hB (k_X10_isStep hI σ2 a3 hc11) (ca_RX10_188 F.2.2.2.2 ⟨Nat.le_of_ble_eq_true rfl, Nat.le_of_ble_eq_true rfl⟩) rfl hl.1 rfl (Nat.le_of_ble_eq_true rfl) dX10_believed_25 ⟨Nat.le_of_ble_eq_true rfl, Nat.le_of_ble_eq_true rfl⟩) (fun H locs hB => ?_)
      refine lv_if_eq (tgt := 51) F.1 F.2.1 dX10_believed_28 (by decide) (fun c13 => ?_) (fun c13 => ?_)
      · replace h := it_e c13 h
        exact B51 σ2 _ _ _ h hB (lv_sub hl [] rfl)
      · replace h := ie_e c13 h
        refine lv_iload F.1 F.2.1 dX10_believed_31 (lv_at hl 4 rfl) ?_
        obtain ⟨v15, hc14, h⟩ := bp_e h
        refine q_ci hB (q_goS F hE hB (k_X10_isTwo hI σ2 a4 hc14) (ca_RX10_92 F.2.2.2.2 ⟨Nat.le_of_ble_eq_true rfl, Nat.le_of_ble_eq_true rfl⟩) rfl hl.1 rfl (Nat.le_of_ble_eq_true rfl) dX10_believed_33 ⟨Nat.le_of_ble_eq_true rfl, Nat.le_of_ble_eq_true rfl⟩) (fun H locs hB => ?_)
        refine lv_if_eq (tgt := 51) F.1 F.2.1 dX10_believed_36 (by decide) (fun c16 => ?_) (fun c16 => ?_)
        · replace h := it_e c16 h
          exact B51 σ2 _ _ _ h hB (lv_sub hl [] rfl)
        · replace h := ie_e c16 h
          refine lv_aload_n F.1 F.2.1 dX10_believed_39 rfl (lv_at hl 0 rfl) ?_
          refine lv_iload_n F.1 F.2.1 dX10_believed_40 rfl (lv_at hl 1 rfl) ?_
          refine lv_iload_n F.1 F.2.1 dX10_believed_41 rfl (lv_at hl 2 rfl) ?_
          refine lv_iload_n F.1 F.2.1 dX10_believed_42 rfl (lv_at hl 3 rfl) ?_
          refine lv_iload F.1 F.2.1 dX10_believed_43 (lv_at hl 4 rfl) ?_
          obtain ⟨v19, σ18, hc17, h⟩ := bi_e h
          refine q_cl hB (q_goV F hE hB (k_X10_believedOf hI σ2 a1 a2 a3 a4 hc17) (ca_RX10_253 F.2.2.2.2 ⟨Nat.le_of_ble_eq_true rfl, Nat.le_of_ble_eq_true rfl⟩) rfl po_64 rfl hl.1 rfl (Nat.le_of_ble_eq_true rfl) dX10_believed_45 ⟨Nat.le_of_ble_eq_true rfl, Nat.le_of_ble_eq_true rfl⟩) (fun H locs hB => ?_)
          refine lv_goto (tgt := 56) F.1 F.2.1 dX10_believed_48 (by decide) ?_
          exact q_lret F hlocks hr hB (so1 h) (so2 h) dX10_believed_56
def f_X10_lot (σ0 : Mem) (a1 : Int32) : Option (Int32 × Mem) := (lt (ms σ0 64 25 (((1103515245 : Int32) * (σ0.1 64 25)) + (12345 : Int32))) (fun σ1 => (cz a1 (some (((((σ1.1 64 25).toUInt32 >>> ((16 : Int32).toUInt32 &&& Int32.toUInt32 31)).toInt32) - (((σ1.1 64 25).toUInt32 >>> ((16 : Int32).toUInt32 &&& Int32.toUInt32 31)).toInt32) / a1 * a1), σ1)))))
set_option maxHeartbeats 4000000 in
set_option maxRecDepth 100000 in
theorem k_X10_lot {l : Launch} {D : va_G} {cy : Nat → ClassId} {ad : Nat → Nat} {ta tb : Nat} (hI : AdI ad) (σ0 : Mem) (a1 : Int32) {o : Int32 × Mem} (h : f_X10_lot σ0 a1 = some o) : Met l yX10_lot (Cond.code yX10_lot cX10_lot 2 (some .int) :: wG) rm_X10_lot (CP D cy ad ta tb σ0 [.ref (ad 64), .int a1]) (CQi D cy ad o.1 o.2) 0 0 (AA ad) := by
  refine Met.ofW (cc := cX10_lot) (maxL := 2) (ret := (some .int)) (by decide) rfl ?_
  intro p e s m args below meth c s₁ B hml hv
  obtain ⟨rfl, hE, hP⟩ := hv
  have hts := atoms_spec (ws := Cond.code yX10_lot cX10_lot 2 (some .int) :: wG) B.pre
  have F : CallFix p m c cX10_lot 2 s _ wG RX10 := ⟨B.exec, B.bytes, hml, findClass_of_methodNamed B.named, fun w hw => hts w (List.mem_cons_of_mem _ hw)⟩
  have hr := B.returns
  have hlocks := B.notSynchronized
  have hB : Bd D cy ad σ0 s.heap s.heap [] := ⟨hP, va_S.rf⟩
  have hl := lv_entry ([.ref (ad 64), .int a1] : List Value) (n := 2) (Nat.le_of_ble_eq_true rfl)
  rw [lg_entry_eq]
  generalize (lg_sl ([.ref (ad 64), .int a1] : List Value) ++ List.replicate (2 - (lg_sl ([.ref (ad 64), .int a1] : List Value)).length) Slot.unset).toArray = ls at hl ⊢
  have hl : lv_has ls 2 [(0, .ref (ad 64)), (1, .int a1)] := hl
  unfold f_X10_lot at h
  refine lv_aload_n F.1 F.2.1 dX10_lot_0 rfl (lv_at hl 0 rfl) ?_
  refine lv_ldcw (v := 1103515245) F.1 F.2.1 F.2.2.2.1 (F.2.2.2.2 _ wm_k_RX10_261) dX10_lot_1 ?_
  refine lv_aload_n F.1 F.2.1 dX10_lot_4 rfl (lv_at hl 0 rfl) ?_
  refine gf_RX10_262 F hE hB po_64 rfl dX10_lot_5 ?_
  refine lv_imul F.1 F.2.1 dX10_lot_8 ?_
  refine lv_sipush (v := 12345) F.1 F.2.1 dX10_lot_9 (by decide) ?_
  refine lv_iadd F.1 F.2.1 dX10_lot_12 ?_
  obtain ⟨σ1, e2, h⟩ := lt_e h
  refine pf_RX10_262 F hE hI hB po_64 rfl rfl (Nat.le_of_ble_eq_true rfl) rfl dX10_lot_13 e2 (fun H locs hB => ?_)
  refine lv_aload_n F.1 F.2.1 dX10_lot_16 rfl (lv_at hl 0 rfl) ?_
  refine gf_RX10_262 F hE hB po_64 rfl dX10_lot_17 ?_
  refine lv_bipush (v := 16) F.1 F.2.1 dX10_lot_20 (by decide) ?_
  refine lv_iushr F.1 F.2.1 dX10_lot_22 rfl ?_
  refine lv_iload_n F.1 F.2.1 dX10_lot_23 rfl (lv_at hl 1 rfl) ?_
  obtain ⟨hz3, h⟩ := cz_e h
  refine lv_irem F.1 F.2.1 dX10_lot_24 hz3 ?_
  exact q_iret F hlocks hr hB (so1 h) (so2 h) dX10_lot_25
def f_X10_loadsOf_b37 : Nat → Mem → Int32 → Int32 → Int32 → Int32 → Option (Int32 × Mem)
  | 0, _, _, _, _, _ => none
  | n37 + 1, σ0, x2, x3, x4, x5 => (if x2 ≤ x5 then (bv (f_X10_lives σ0 (99 : Int32)) (fun σ6 => (bi (f_X10_readsBoats σ6) (fun v9 σ8 => (if x4 = (0 : Int32) then (ck x3 8 (some ((σ8.1 74 x3.toNatClampNeg), σ8))) else (ck x3 8 (some ((σ8.1 77 x3.toNatClampNeg), σ8)))))))) else (bi (f_X10_lot σ0 (6 : Int32)) (fun v15 σ14 => (ck (((7 : Int32) * x3) + v15) 56 (ck (((7 : Int32) * x3) + v15) 56 (lt (ms σ14 72 (((7 : Int32) * x3) + v15).toNatClampNeg ((σ14.1 72 (((7 : Int32) * x3) + v15).toNatClampNeg) + (1 : Int32))) (fun σ18 => (f_X10_loadsOf_b37 n37 σ18 x2 x3 x4 (x5 + (1 : Int32))))))))))
def f_X10_loadsOf_b8 : Nat → Mem → Int32 → Int32 → Int32 → Int32 → Option (Int32 × Mem)
  | 0, _, _, _, _, _ => none
  | n8 + 1, σ0, x2, x3, x4, x5 => (if (6 : Int32) ≤ x5 then (f_X10_loadsOf_b37 300 σ0 x2 x3 x4 (0 : Int32)) else (ck (((7 : Int32) * x3) + x5) 56 (lt (ms σ0 72 (((7 : Int32) * x3) + x5).toNatClampNeg (0 : Int32)) (fun σ21 => (f_X10_loadsOf_b8 n8 σ21 x2 x3 x4 (x5 + (1 : Int32)))))))
def f_X10_loadsOf (σ0 : Mem) (a1 : Int32) (a2 : Int32) (a3 : Int32) (a4 : Int32) : Option (Int32 × Mem) := (lt (ms σ0 64 25 a1) (fun σ1 => (f_X10_loadsOf_b8 300 σ1 a2 a3 a4 (0 : Int32))))
set_option maxHeartbeats 4000000 in
set_option maxRecDepth 100000 in
theorem k_X10_loadsOf {l : Launch} {D : va_G} {cy : Nat → ClassId} {ad : Nat → Nat} {ta tb : Nat} (hI : AdI ad) (σ0 : Mem) (a1 : Int32) (a2 : Int32) (a3 : Int32) (a4 : Int32) {o : Int32 × Mem} (h : f_X10_loadsOf σ0 a1 a2 a3 a4 = some o) : Met l yX10_loadsOf (Cond.code yX10_loadsOf cX10_loadsOf 6 (some .int) :: wG) rm_X10_loadsOf (CP D cy ad ta tb σ0 [.ref (ad 64), .int a1, .int a2, .int a3, .int a4]) (CQi D cy ad o.1 o.2) 0 0 (AA ad) := by
  refine Met.ofW (cc := cX10_loadsOf) (maxL := 6) (ret := (some .int)) (by decide) rfl ?_
  intro p e s m args below meth c s₁ B hml hv
  obtain ⟨rfl, hE, hP⟩ := hv
  have hts := atoms_spec (ws := Cond.code yX10_loadsOf cX10_loadsOf 6 (some .int) :: wG) B.pre
  have F : CallFix p m c cX10_loadsOf 6 s _ wG RX10 := ⟨B.exec, B.bytes, hml, findClass_of_methodNamed B.named, fun w hw => hts w (List.mem_cons_of_mem _ hw)⟩
  have hr := B.returns
  have hlocks := B.notSynchronized
  have hB : Bd D cy ad σ0 s.heap s.heap [] := ⟨hP, va_S.rf⟩
  have hl := lv_entry ([.ref (ad 64), .int a1, .int a2, .int a3, .int a4] : List Value) (n := 6) (Nat.le_of_ble_eq_true rfl)
  rw [lg_entry_eq]
  generalize (lg_sl ([.ref (ad 64), .int a1, .int a2, .int a3, .int a4] : List Value) ++ List.replicate (6 - (lg_sl ([.ref (ad 64), .int a1, .int a2, .int a3, .int a4] : List Value)).length) Slot.unset).toArray = ls at hl ⊢
  have hl : lv_has ls 6 [(0, .ref (ad 64)), (1, .int a1), (2, .int a2), (3, .int a3), (4, .int a4)] := hl
  have B37 : ∀ (n37 : Nat) (σ0 : Mem) (H : Heap) (locs : List Loc) (ls : Array Slot) (x2 : Int32) (x3 : Int32) (x4 : Int32) (x5 : Int32), f_X10_loadsOf_b37 n37 σ0 x2 x3 x4 x5 = some o → Bd D cy ad σ0 s.heap H locs → lv_has ls 6 [(0, .ref (ad 64)), (2, .int x2), (3, .int x3), (4, .int x4), (5, .int x5)] → W p l e rm_X10_loadsOf s m ([.ref (ad 64), .int a1, .int a2, .int a3, .int a4] : List Value).toArray below meth c H locs 0 0 (MQ below (CQi D cy ad o.1 o.2) ([.ref (ad 64), .int a1, .int a2, .int a3, .int a4] : List Value).toArray s 0 0 (AA ad)) (F0 m 37 ls []) := by
    intro n37
    induction n37 with
    | zero => intro σ0 H locs ls x2 x3 x4 x5 h hB hl; cases h
    | succ n37 ih37 =>
      intro σ0 H locs ls x2 x3 x4 x5 h hB hl
      rw [f_X10_loadsOf_b37] at h
      refine lv_iload F.1 F.2.1 dX10_loadsOf_37 (lv_at hl 4 rfl) ?_
      refine lv_iload_n F.1 F.2.1 dX10_loadsOf_39 rfl (lv_at hl 1 rfl) ?_
      refine lv_icmp_ge (tgt := 69) F.1 F.2.1 dX10_loadsOf_40 (by decide) (fun c4 => ?_) (fun c4 => ?_)
      · replace h := it_e c4 h
        refine lv_aload_n F.1 F.2.1 dX10_loadsOf_69 rfl (lv_at hl 0 rfl) ?_
        refine lv_bipush (v := 99) F.1 F.2.1 dX10_loadsOf_70 (by decide) ?_
        obtain ⟨σ6, hc5, h⟩ := bv_e h
        refine q_cv hB (q_goV F hE hB (k_X10_lives hI σ0 (99 : Int32) hc5) (ca_RX10_185 F.2.2.2.2 ⟨Nat.le_of_ble_eq_true rfl, Nat.le_of_ble_eq_true rfl⟩) rfl po_64 rfl hl.1 rfl (Nat.le_of_ble_eq_true rfl) dX10_loadsOf_72 ⟨Nat.le_of_ble_eq_true rfl, Nat.le_of_ble_eq_true rfl⟩) (fun H locs hB => ?_)
        refine lv_aload_n F.1 F.2.1 dX10_loadsOf_75 rfl (lv_at hl 0 rfl) ?_
        obtain ⟨v9, σ8, hc7, h⟩ := bi_e h
        refine q_ci hB (q_goV F hE hB (k_X10_readsBoats hI σ6 hc7) (ca_RX10_124 F.2.2.2.2 ⟨Nat.le_of_ble_eq_true rfl, Nat.le_of_ble_eq_true rfl⟩) rfl po_64 rfl hl.1 rfl (Nat.le_of_ble_eq_true rfl) dX10_loadsOf_76 ⟨Nat.le_of_ble_eq_true rfl, Nat.le_of_ble_eq_true rfl⟩) (fun H locs hB => ?_)
        refine lv_pop F.1 F.2.1 dX10_loadsOf_79 rfl ?_
        refine lv_iload F.1 F.2.1 dX10_loadsOf_80 (lv_at hl 3 rfl) ?_
        refine lv_if_ne (tgt := 94) F.1 F.2.1 dX10_loadsOf_82 (by decide) (fun c10 => ?_) (fun c10 => ?_)
        · replace h := ie_e c10 h
          refine lv_aload_n F.1 F.2.1 dX10_loadsOf_94 rfl (lv_at hl 0 rfl) ?_
          refine gf_RX10_46 F hE hB po_64 rfl dX10_loadsOf_95 ?_
          refine lv_iload_n F.1 F.2.1 dX10_loadsOf_98 rfl (lv_at hl 2 rfl) ?_
          obtain ⟨hi11, h⟩ := ck_e h
          refine q_iald F hE hB po_77 hi11 dX10_loadsOf_99 ?_
          exact q_iret F hlocks hr hB (so1 h) (so2 h) dX10_loadsOf_100
        · replace h := it_e c10 h
          refine lv_aload_n F.1 F.2.1 dX10_loadsOf_85 rfl (lv_at hl 0 rfl) ?_
          refine gf_RX10_37 F hE hB po_64 rfl dX10_loadsOf_86 ?_
          refine lv_iload_n F.1 F.2.1 dX10_loadsOf_89 rfl (lv_at hl 2 rfl) ?_
          obtain ⟨hi12, h⟩ := ck_e h
          refine q_iald F hE hB po_74 hi12 dX10_loadsOf_90 ?_
          refine lv_goto (tgt := 100) F.1 F.2.1 dX10_loadsOf_91 (by decide) ?_
          exact q_iret F hlocks hr hB (so1 h) (so2 h) dX10_loadsOf_100
      · replace h := ie_e c4 h
        refine lv_aload_n F.1 F.2.1 dX10_loadsOf_43 rfl (lv_at hl 0 rfl) ?_
        refine gf_RX10_31 F hE hB po_64 rfl dX10_loadsOf_44 ?_
        refine lv_bipush (v := 7) F.1 F.2.1 dX10_loadsOf_47 (by decide) ?_
        refine lv_iload_n F.1 F.2.1 dX10_loadsOf_49 rfl (lv_at hl 2 rfl) ?_
        refine lv_imul F.1 F.2.1 dX10_loadsOf_50 ?_
        refine lv_aload_n F.1 F.2.1 dX10_loadsOf_51 rfl (lv_at hl 0 rfl) ?_
        refine lv_bipush (v := 6) F.1 F.2.1 dX10_loadsOf_52 (by decide) ?_
        obtain ⟨v15, σ14, hc13, h⟩ := bi_e h
        refine q_ci hB (q_goV F hE hB (k_X10_lot hI σ0 (6 : Int32) hc13) (ca_RX10_265 F.2.2.2.2 ⟨Nat.le_of_ble_eq_true rfl, Nat.le_of_ble_eq_true rfl⟩) rfl po_64 rfl hl.1 rfl (Nat.le_of_ble_eq_true rfl) dX10_loadsOf_54 ⟨Nat.le_of_ble_eq_true rfl, Nat.le_of_ble_eq_true rfl⟩) (fun H locs hB => ?_)
        refine lv_iadd F.1 F.2.1 dX10_loadsOf_57 ?_
        refine lv_dup2_11 F.1 F.2.1 dX10_loadsOf_58 rfl rfl ?_
        obtain ⟨hi16, h⟩ := ck_e h
        refine q_iald F hE hB po_72 hi16 dX10_loadsOf_59 ?_
        refine lv_iconst (v := 1) F.1 F.2.1 dX10_loadsOf_60 (by decide) ?_
        refine lv_iadd F.1 F.2.1 dX10_loadsOf_61 ?_
        obtain ⟨hi17, h⟩ := ck_e h
        obtain ⟨σ18, e19, h⟩ := lt_e h
        refine q_iast F hE hI hB row_72 hi17 dX10_loadsOf_62 e19 (fun H locs hB => ?_)
        refine lv_iinc (v := (x5 + (1 : Int32))) (lv' := [(5, .int (x5 + (1 : Int32))), (0, .ref (ad 64)), (2, .int x2), (3, .int x3), (4, .int x4)]) F.1 F.2.1 dX10_loadsOf_63 hl (k := 4) rfl rfl (by decide) rfl (fun ls hl => ?_)
        refine lv_goto (tgt := 37) F.1 F.2.1 dX10_loadsOf_66 (by decide) ?_
        exact ih37 σ18 _ _ _ x2 x3 x4 (x5 + (1 : Int32)) h hB (lv_sub hl [1, 2, 3, 4, 0] rfl)
  have B8 : ∀ (n8 : Nat) (σ0 : Mem) (H : Heap) (locs : List Loc) (ls : Array Slot) (x2 : Int32) (x3 : Int32) (x4 : Int32) (x5 : Int32), f_X10_loadsOf_b8 n8 σ0 x2 x3 x4 x5 = some o → Bd D cy ad σ0 s.heap H locs → lv_has ls 6 [(0, .ref (ad 64)), (2, .int x2), (3, .int x3), (4, .int x4), (5, .int x5)] → W p l e rm_X10_loadsOf s m ([.ref (ad 64), .int a1, .int a2, .int a3, .int a4] : List Value).toArray below meth c H locs 0 0 (MQ below (CQi D cy ad o.1 o.2) ([.ref (ad 64), .int a1, .int a2, .int a3, .int a4] : List Value).toArray s 0 0 (AA ad)) (F0 m 8 ls []) := by
    intro n8
    induction n8 with
    | zero => intro σ0 H locs ls x2 x3 x4 x5 h hB hl; cases h
    | succ n8 ih8 =>
      intro σ0 H locs ls x2 x3 x4 x5 h hB hl
      rw [f_X10_loadsOf_b8] at h
      refine lv_iload F.1 F.2.1 dX10_loadsOf_8 (lv_at hl 4 rfl) ?_
      refine lv_bipush (v := 6) F.1 F.2.1 dX10_loadsOf_10 (by decide) ?_
      refine lv_icmp_ge (tgt := 34) F.1 F.2.1 dX10_loadsOf_12 (by decide) (fun c3 => ?_) (fun c3 => ?_)
      · replace h := it_e c3 h
        refine lv_iconst (v := 0) F.1 F.2.1 dX10_loadsOf_34 (by decide) ?_
        refine lv_istore (lv' := [(5, .int (0 : Int32)), (0, .ref (ad 64)), (2, .int x2), (3, .int x3), (4, .int x4)]) F.1 F.2.1 dX10_loadsOf_35 hl (by decide) rfl (fun ls hl => ?_)
        exact B37 300 σ0 _ _ _ x2 x3 x4 (0 : Int32) h hB (lv_sub hl [1, 2, 3, 4, 0] rfl)
      · replace h := ie_e c3 h
        refine lv_aload_n F.1 F.2.1 dX10_loadsOf_15 rfl (lv_at hl 0 rfl) ?_
        refine gf_RX10_31 F hE hB po_64 rfl dX10_loadsOf_16 ?_
        refine lv_bipush (v := 7) F.1 F.2.1 dX10_loadsOf_19 (by decide) ?_
        refine lv_iload_n F.1 F.2.1 dX10_loadsOf_21 rfl (lv_at hl 2 rfl) ?_
        refine lv_imul F.1 F.2.1 dX10_loadsOf_22 ?_
        refine lv_iload F.1 F.2.1 dX10_loadsOf_23 (lv_at hl 4 rfl) ?_
        refine lv_iadd F.1 F.2.1 dX10_loadsOf_25 ?_
        refine lv_iconst (v := 0) F.1 F.2.1 dX10_loadsOf_26 (by decide) ?_
        obtain ⟨hi20, h⟩ := ck_e h
        obtain ⟨σ21, e22, h⟩ := lt_e h
        refine q_iast F hE hI hB row_72 hi20 dX10_loadsOf_27 e22 (fun H locs hB => ?_)
        refine lv_iinc (v := (x5 + (1 : Int32))) (lv' := [(5, .int (x5 + (1 : Int32))), (0, .ref (ad 64)), (2, .int x2), (3, .int x3), (4, .int x4)]) F.1 F.2.1 dX10_loadsOf_28 hl (k := 4) rfl rfl (by decide) rfl (fun ls hl => ?_)
        refine lv_goto (tgt := 8) F.1 F.2.1 dX10_loadsOf_31 (by decide) ?_
        exact ih8 σ21 _ _ _ x2 x3 x4 (x5 + (1 : Int32)) h hB (lv_sub hl [1, 2, 3, 4, 0] rfl)
  unfold f_X10_loadsOf at h
  refine lv_aload_n F.1 F.2.1 dX10_loadsOf_0 rfl (lv_at hl 0 rfl) ?_
  refine lv_iload_n F.1 F.2.1 dX10_loadsOf_1 rfl (lv_at hl 1 rfl) ?_
  obtain ⟨σ1, e2, h⟩ := lt_e h
  refine pf_RX10_262 F hE hI hB po_64 rfl rfl (Nat.le_of_ble_eq_true rfl) rfl dX10_loadsOf_2 e2 (fun H locs hB => ?_)
  refine lv_iconst (v := 0) F.1 F.2.1 dX10_loadsOf_5 (by decide) ?_
  refine lv_istore (lv' := [(5, .int (0 : Int32)), (0, .ref (ad 64)), (1, .int a1), (2, .int a2), (3, .int a3), (4, .int a4)]) F.1 F.2.1 dX10_loadsOf_6 hl (by decide) rfl (fun ls hl => ?_)
  exact B8 300 σ1 _ _ _ a2 a3 a4 (0 : Int32) h hB (lv_sub hl [1, 3, 4, 5, 0] rfl)
def f_X10_loads (σ0 : Mem) (a1 : Int32) (a2 : Int32) (a3 : Int32) (a4 : Int32) : Option (Int32 × Mem) := (bv (f_X10_find σ0) (fun σ2 => (bp (f_X10_in σ2 a2.toInt64 (0 : Int64) (6 : Int64)) (fun v4 => (if v4 = (0 : Int32) then (some ((-2 : Int32), σ2)) else (bp (f_X10_isBoat σ2 a3) (fun v7 => (if v7 = (0 : Int32) then (some ((-2 : Int32), σ2)) else (bp (f_X10_isTwo σ2 a4) (fun v10 => (if v10 = (0 : Int32) then (some ((-2 : Int32), σ2)) else (bi (f_X10_loadsOf σ2 a1 a2 a3 a4) (fun v14 σ13 => (some (v14, σ13)))))))))))))))
set_option maxHeartbeats 4000000 in
set_option maxRecDepth 100000 in
theorem k_X10_loads {l : Launch} {D : va_G} {cy : Nat → ClassId} {ad : Nat → Nat} {ta tb : Nat} (hI : AdI ad) (σ0 : Mem) (a1 : Int32) (a2 : Int32) (a3 : Int32) (a4 : Int32) {o : Int32 × Mem} (h : f_X10_loads σ0 a1 a2 a3 a4 = some o) : Met l yX10_loads (Cond.code yX10_loads cX10_loads 5 (some .int) :: wG) rm_X10_loads (CP D cy ad ta tb σ0 [.ref (ad 64), .int a1, .int a2, .int a3, .int a4]) (CQi D cy ad o.1 o.2) 0 0 (AA ad) := by
  refine Met.ofW (cc := cX10_loads) (maxL := 5) (ret := (some .int)) (by decide) rfl ?_
  intro p e s m args below meth c s₁ B hml hv
  obtain ⟨rfl, hE, hP⟩ := hv
  have hts := atoms_spec (ws := Cond.code yX10_loads cX10_loads 5 (some .int) :: wG) B.pre
  have F : CallFix p m c cX10_loads 5 s _ wG RX10 := ⟨B.exec, B.bytes, hml, findClass_of_methodNamed B.named, fun w hw => hts w (List.mem_cons_of_mem _ hw)⟩
  have hr := B.returns
  have hlocks := B.notSynchronized
  have hB : Bd D cy ad σ0 s.heap s.heap [] := ⟨hP, va_S.rf⟩
  have hl := lv_entry ([.ref (ad 64), .int a1, .int a2, .int a3, .int a4] : List Value) (n := 5) (Nat.le_of_ble_eq_true rfl)
  rw [lg_entry_eq]
  generalize (lg_sl ([.ref (ad 64), .int a1, .int a2, .int a3, .int a4] : List Value) ++ List.replicate (5 - (lg_sl ([.ref (ad 64), .int a1, .int a2, .int a3, .int a4] : List Value)).length) Slot.unset).toArray = ls at hl ⊢
  have hl : lv_has ls 5 [(0, .ref (ad 64)), (1, .int a1), (2, .int a2), (3, .int a3), (4, .int a4)] := hl
  unfold f_X10_loads at h
  refine lv_aload_n F.1 F.2.1 dX10_loads_0 rfl (lv_at hl 0 rfl) ?_
  obtain ⟨σ2, hc1, h⟩ := bv_e h
  refine q_cv hB (q_goV F hE hB (k_X10_find hI σ0 hc1) (ca_RX10_129 F.2.2.2.2 ⟨Nat.le_of_ble_eq_true rfl, Nat.le_of_ble_eq_true rfl⟩) rfl po_64 rfl hl.1 rfl (Nat.le_of_ble_eq_true rfl) dX10_loads_1 ⟨Nat.le_of_ble_eq_true rfl, Nat.le_of_ble_eq_true rfl⟩) (fun H locs hB => ?_)
  refine lv_iload_n F.1 F.2.1 dX10_loads_4 rfl (lv_at hl 2 rfl) ?_
  refine lv_i2l F.1 F.2.1 dX10_loads_5 rfl ?_
  refine lv_lconst (v := 0) F.1 F.2.1 dX10_loads_6 (by decide) ?_
  refine lv_ldc2 (v := 6) F.1 F.2.1 F.2.2.2.1 (F.2.2.2.2 _ wm_k_RX10_138) dX10_loads_7 ?_
  obtain ⟨v4, hc3, h⟩ := bp_e h
  refine q_ci hB (q_goS F hE hB (k_X10_in hI σ2 a2.toInt64 (0 : Int64) (6 : Int64) hc3) (ca_RX10_64 F.2.2.2.2 ⟨Nat.le_of_ble_eq_true rfl, Nat.le_of_ble_eq_true rfl⟩) rfl hl.1 rfl (Nat.le_of_ble_eq_true rfl) dX10_loads_10 ⟨Nat.le_of_ble_eq_true rfl, Nat.le_of_ble_eq_true rfl⟩) (fun H locs hB => ?_)
  refine lv_if_eq (tgt := 44) F.1 F.2.1 dX10_loads_13 (by decide) (fun c5 => ?_) (fun c5 => ?_)
  · replace h := it_e c5 h
    refine lv_bipush (v := (-2)) F.1 F.2.1 dX10_loads_44 (by decide) ?_
    exact q_iret F hlocks hr hB (so1 h) (so2 h) dX10_loads_46
  · replace h := ie_e c5 h
    refine lv_aload_n F.1 F.2.1 dX10_loads_16 rfl (lv_at hl 0 rfl) ?_
    refine lv_iload_n F.1 F.2.1 dX10_loads_17 rfl (lv_at hl 3 rfl) ?_
    obtain ⟨v7, hc6, h⟩ := bp_e h
    refine q_ci hB (q_goV F hE hB (k_X10_isBoat hI σ2 a3 hc6) (ca_RX10_135 F.2.2.2.2 ⟨Nat.le_of_ble_eq_true rfl, Nat.le_of_ble_eq_true rfl⟩) rfl po_64 rfl hl.1 rfl (Nat.le_of_ble_eq_true rfl) dX10_loads_18 ⟨Nat.le_of_ble_eq_true rfl, Nat.le_of_ble_eq_true rfl⟩) (fun H locs hB => ?_)
    refine lv_if_eq (tgt := 44) F.1 F.2.1 dX10_loads_21 (by decide) (fun c8 => ?_) (fun c8 => ?_)
    · replace h := it_e c8 h
      refine lv_bipush (v := (-2)) F.1 F.2.1 dX10_loads_44 (by decide) ?_
      exact q_iret F hlocks hr hB (so1 h) (so2 h) dX10_loads_46
    · replace h := ie_e c8 h
      refine lv_iload F.1 F.2.1 dX10_loads_24 (lv_at hl 4 rfl) ?_
      obtain ⟨v10, hc9, h⟩ := bp_e h
      refine q_ci hB (q_goS F hE hB (k_X10_isTwo hI σ2 a4 hc9) (ca_RX10_92 F.2.2.2.2 ⟨Nat.le_of_ble_eq_true rfl, Nat.le_of_ble_eq_true rfl⟩) rfl hl.1 rfl (Nat.le_of_ble_eq_true rfl) dX10_loads_26 ⟨Nat.le_of_ble_eq_true rfl, Nat.le_of_ble_eq_true rfl⟩) (fun H locs hB => ?_)
      refine lv_if_eq (tgt := 44) F.1 F.2.1 dX10_loads_29 (by decide) (fun c11 => ?_) (fun c11 => ?_)
      · replace h := it_e c11 h
        refine lv_bipush (v := (-2)) F.1 F.2.1 dX10_loads_44 (by decide) ?_
        exact q_iret F hlocks hr hB (so1 h) (so2 h) dX10_loads_46
      · replace h := ie_e c11 h
        refine lv_aload_n F.1 F.2.1 dX10_loads_32 rfl (lv_at hl 0 rfl) ?_
        refine lv_iload_n F.1 F.2.1 dX10_loads_33 rfl (lv_at hl 1 rfl) ?_
        refine lv_iload_n F.1 F.2.1 dX10_loads_34 rfl (lv_at hl 2 rfl) ?_
        refine lv_iload_n F.1 F.2.1 dX10_loads_35 rfl (lv_at hl 3 rfl) ?_
        refine lv_iload F.1 F.2.1 dX10_loads_36 (lv_at hl 4 rfl) ?_
        obtain ⟨v14, σ13, hc12, h⟩ := bi_e h
        refine q_ci hB (q_goV F hE hB (k_X10_loadsOf hI σ2 a1 a2 a3 a4 hc12) (ca_RX10_268 F.2.2.2.2 ⟨Nat.le_of_ble_eq_true rfl, Nat.le_of_ble_eq_true rfl⟩) rfl po_64 rfl hl.1 rfl (Nat.le_of_ble_eq_true rfl) dX10_loads_38 ⟨Nat.le_of_ble_eq_true rfl, Nat.le_of_ble_eq_true rfl⟩) (fun H locs hB => ?_)
        refine lv_goto (tgt := 46) F.1 F.2.1 dX10_loads_41 (by decide) ?_
        exact q_iret F hlocks hr hB (so1 h) (so2 h) dX10_loads_46
def f_X10_write_b58 : Nat → Mem → Int32 → Int32 → Int32 → Option (Int32 × Mem)
  | 0, _, _, _, _ => none
  | n58 + 1, σ0, x2, x3, x4 => (if x3 ≤ x4 then (some (x3, σ0)) else (ck x2 4 (ck x4 8 (bp (f_X10_cut σ0 (σ0.1 65 x2.toNatClampNeg) (σ0.1 74 x4.toNatClampNeg)) (fun v20 => (ck (((60 : Int32) * x2) + x4) 240 (lt (ms σ0 67 (((60 : Int32) * x2) + x4).toNatClampNeg v20) (fun σ22 => (f_X10_write_b58 n58 σ22 x2 x3 (x4 + (1 : Int32)))))))))))
def f_X10_write (σ0 : Mem) (a1 : Int32) (a2 : Int32) : Option (Int32 × Mem) := (bp (f_X10_isStep σ0 a1) (fun v2 => (if v2 = (0 : Int32) then (some ((-2 : Int32), σ0)) else (bp (f_X10_isSheet σ0 a2) (fun v5 => (if v5 = (0 : Int32) then (some ((-2 : Int32), σ0)) else (ck a2 4 (if (0 : Int32) ≤ (σ0.1 65 a2.toNatClampNeg) then (bv (f_X10_find σ0) (fun σ10 => (bv (f_X10_lives σ10 a1) (fun σ12 => (ck a2 4 (bp (f_X10_lesser σ12 (σ12.1 66 a2.toNatClampNeg) (σ12.1 64 9)) (fun v15 => (f_X10_write_b58 300 σ12 a2 v15 (0 : Int32))))))))) else (bi (f_X10_finds σ0 (1 : Int32)) (fun v26 σ25 => (some (v26, σ25))))))))))))
set_option maxHeartbeats 4000000 in
set_option maxRecDepth 100000 in
theorem k_X10_write {l : Launch} {D : va_G} {cy : Nat → ClassId} {ad : Nat → Nat} {ta tb : Nat} (hI : AdI ad) (σ0 : Mem) (a1 : Int32) (a2 : Int32) {o : Int32 × Mem} (h : f_X10_write σ0 a1 a2 = some o) : Met l yX10_write (Cond.code yX10_write cX10_write 5 (some .int) :: wG) rm_X10_write (CP D cy ad ta tb σ0 [.ref (ad 64), .int a1, .int a2]) (CQi D cy ad o.1 o.2) 0 0 (AA ad) := by
  refine Met.ofW (cc := cX10_write) (maxL := 5) (ret := (some .int)) (by decide) rfl ?_
  intro p e s m args below meth c s₁ B hml hv
  obtain ⟨rfl, hE, hP⟩ := hv
  have hts := atoms_spec (ws := Cond.code yX10_write cX10_write 5 (some .int) :: wG) B.pre
  have F : CallFix p m c cX10_write 5 s _ wG RX10 := ⟨B.exec, B.bytes, hml, findClass_of_methodNamed B.named, fun w hw => hts w (List.mem_cons_of_mem _ hw)⟩
  have hr := B.returns
  have hlocks := B.notSynchronized
  have hB : Bd D cy ad σ0 s.heap s.heap [] := ⟨hP, va_S.rf⟩
  have hl := lv_entry ([.ref (ad 64), .int a1, .int a2] : List Value) (n := 5) (Nat.le_of_ble_eq_true rfl)
  rw [lg_entry_eq]
  generalize (lg_sl ([.ref (ad 64), .int a1, .int a2] : List Value) ++ List.replicate (5 - (lg_sl ([.ref (ad 64), .int a1, .int a2] : List Value)).length) Slot.unset).toArray = ls at hl ⊢
  have hl : lv_has ls 5 [(0, .ref (ad 64)), (1, .int a1), (2, .int a2)] := hl
  have B58 : ∀ (n58 : Nat) (σ0 : Mem) (H : Heap) (locs : List Loc) (ls : Array Slot) (x2 : Int32) (x3 : Int32) (x4 : Int32), f_X10_write_b58 n58 σ0 x2 x3 x4 = some o → Bd D cy ad σ0 s.heap H locs → lv_has ls 5 [(0, .ref (ad 64)), (2, .int x2), (3, .int x3), (4, .int x4)] → W p l e rm_X10_write s m ([.ref (ad 64), .int a1, .int a2] : List Value).toArray below meth c H locs 0 0 (MQ below (CQi D cy ad o.1 o.2) ([.ref (ad 64), .int a1, .int a2] : List Value).toArray s 0 0 (AA ad)) (F0 m 58 ls []) := by
    intro n58
    induction n58 with
    | zero => intro σ0 H locs ls x2 x3 x4 h hB hl; cases h
    | succ n58 ih58 =>
      intro σ0 H locs ls x2 x3 x4 h hB hl
      rw [f_X10_write_b58] at h
      refine lv_iload F.1 F.2.1 dX10_write_58 (lv_at hl 3 rfl) ?_
      refine lv_iload_n F.1 F.2.1 dX10_write_60 rfl (lv_at hl 2 rfl) ?_
      refine lv_icmp_ge (tgt := 98) F.1 F.2.1 dX10_write_61 (by decide) (fun c16 => ?_) (fun c16 => ?_)
      · replace h := it_e c16 h
        refine lv_iload_n F.1 F.2.1 dX10_write_98 rfl (lv_at hl 2 rfl) ?_
        exact q_iret F hlocks hr hB (so1 h) (so2 h) dX10_write_99
      · replace h := ie_e c16 h
        refine lv_aload_n F.1 F.2.1 dX10_write_64 rfl (lv_at hl 0 rfl) ?_
        refine gf_RX10_16 F hE hB po_64 rfl dX10_write_65 ?_
        refine lv_bipush (v := 60) F.1 F.2.1 dX10_write_68 (by decide) ?_
        refine lv_iload_n F.1 F.2.1 dX10_write_70 rfl (lv_at hl 1 rfl) ?_
        refine lv_imul F.1 F.2.1 dX10_write_71 ?_
        refine lv_iload F.1 F.2.1 dX10_write_72 (lv_at hl 3 rfl) ?_
        refine lv_iadd F.1 F.2.1 dX10_write_74 ?_
        refine lv_aload_n F.1 F.2.1 dX10_write_75 rfl (lv_at hl 0 rfl) ?_
        refine gf_RX10_7 F hE hB po_64 rfl dX10_write_76 ?_
        refine lv_iload_n F.1 F.2.1 dX10_write_79 rfl (lv_at hl 1 rfl) ?_
        obtain ⟨hi17, h⟩ := ck_e h
        refine q_iald F hE hB po_65 hi17 dX10_write_80 ?_
        refine lv_aload_n F.1 F.2.1 dX10_write_81 rfl (lv_at hl 0 rfl) ?_
        refine gf_RX10_37 F hE hB po_64 rfl dX10_write_82 ?_
        refine lv_iload F.1 F.2.1 dX10_write_85 (lv_at hl 3 rfl) ?_
        obtain ⟨hi18, h⟩ := ck_e h
        refine q_iald F hE hB po_74 hi18 dX10_write_87 ?_
        obtain ⟨v20, hc19, h⟩ := bp_e h
        refine q_ci hB (q_goS F hE hB (k_X10_cut hI σ0 (σ0.1 65 x2.toNatClampNeg) (σ0.1 74 x4.toNatClampNeg) hc19) (ca_RX10_87 F.2.2.2.2 ⟨Nat.le_of_ble_eq_true rfl, Nat.le_of_ble_eq_true rfl⟩) rfl hl.1 rfl (Nat.le_of_ble_eq_true rfl) dX10_write_88 ⟨Nat.le_of_ble_eq_true rfl, Nat.le_of_ble_eq_true rfl⟩) (fun H locs hB => ?_)
        obtain ⟨hi21, h⟩ := ck_e h
        obtain ⟨σ22, e23, h⟩ := lt_e h
        refine q_iast F hE hI hB row_67 hi21 dX10_write_91 e23 (fun H locs hB => ?_)
        refine lv_iinc (v := (x4 + (1 : Int32))) (lv' := [(4, .int (x4 + (1 : Int32))), (0, .ref (ad 64)), (2, .int x2), (3, .int x3)]) F.1 F.2.1 dX10_write_92 hl (k := 3) rfl rfl (by decide) rfl (fun ls hl => ?_)
        refine lv_goto (tgt := 58) F.1 F.2.1 dX10_write_95 (by decide) ?_
        exact ih58 σ22 _ _ _ x2 x3 (x4 + (1 : Int32)) h hB (lv_sub hl [1, 2, 3, 0] rfl)
  unfold f_X10_write at h
  refine lv_iload_n F.1 F.2.1 dX10_write_0 rfl (lv_at hl 1 rfl) ?_
  obtain ⟨v2, hc1, h⟩ := bp_e h
  refine q_ci hB (q_goS F hE hB (k_X10_isStep hI σ0 a1 hc1) (ca_RX10_188 F.2.2.2.2 ⟨Nat.le_of_ble_eq_true rfl, Nat.le_of_ble_eq_true rfl⟩) rfl hl.1 rfl (Nat.le_of_ble_eq_true rfl) dX10_write_1 ⟨Nat.le_of_ble_eq_true rfl, Nat.le_of_ble_eq_true rfl⟩) (fun H locs hB => ?_)
  refine lv_if_eq (tgt := 14) F.1 F.2.1 dX10_write_4 (by decide) (fun c3 => ?_) (fun c3 => ?_)
  · replace h := it_e c3 h
    refine lv_bipush (v := (-2)) F.1 F.2.1 dX10_write_14 (by decide) ?_
    exact q_iret F hlocks hr hB (so1 h) (so2 h) dX10_write_16
  · replace h := ie_e c3 h
    refine lv_iload_n F.1 F.2.1 dX10_write_7 rfl (lv_at hl 2 rfl) ?_
    obtain ⟨v5, hc4, h⟩ := bp_e h
    refine q_ci hB (q_goS F hE hB (k_X10_isSheet hI σ0 a2 hc4) (ca_RX10_73 F.2.2.2.2 ⟨Nat.le_of_ble_eq_true rfl, Nat.le_of_ble_eq_true rfl⟩) rfl hl.1 rfl (Nat.le_of_ble_eq_true rfl) dX10_write_8 ⟨Nat.le_of_ble_eq_true rfl, Nat.le_of_ble_eq_true rfl⟩) (fun H locs hB => ?_)
    refine lv_if_ne (tgt := 17) F.1 F.2.1 dX10_write_11 (by decide) (fun c6 => ?_) (fun c6 => ?_)
    · replace h := ie_e c6 h
      refine lv_aload_n F.1 F.2.1 dX10_write_17 rfl (lv_at hl 0 rfl) ?_
      refine gf_RX10_7 F hE hB po_64 rfl dX10_write_18 ?_
      refine lv_iload_n F.1 F.2.1 dX10_write_21 rfl (lv_at hl 2 rfl) ?_
      obtain ⟨hi7, h⟩ := ck_e h
      refine q_iald F hE hB po_65 hi7 dX10_write_22 ?_
      refine lv_if_ge (tgt := 32) F.1 F.2.1 dX10_write_23 (by decide) (fun c8 => ?_) (fun c8 => ?_)
      · replace h := it_e c8 h
        refine lv_aload_n F.1 F.2.1 dX10_write_32 rfl (lv_at hl 0 rfl) ?_
        obtain ⟨σ10, hc9, h⟩ := bv_e h
        refine q_cv hB (q_goV F hE hB (k_X10_find hI σ0 hc9) (ca_RX10_129 F.2.2.2.2 ⟨Nat.le_of_ble_eq_true rfl, Nat.le_of_ble_eq_true rfl⟩) rfl po_64 rfl hl.1 rfl (Nat.le_of_ble_eq_true rfl) dX10_write_33 ⟨Nat.le_of_ble_eq_true rfl, Nat.le_of_ble_eq_true rfl⟩) (fun H locs hB => ?_)
        refine lv_aload_n F.1 F.2.1 dX10_write_36 rfl (lv_at hl 0 rfl) ?_
        refine lv_iload_n F.1 F.2.1 dX10_write_37 rfl (lv_at hl 1 rfl) ?_
        obtain ⟨σ12, hc11, h⟩ := bv_e h
        refine q_cv hB (q_goV F hE hB (k_X10_lives hI σ10 a1 hc11) (ca_RX10_185 F.2.2.2.2 ⟨Nat.le_of_ble_eq_true rfl, Nat.le_of_ble_eq_true rfl⟩) rfl po_64 rfl hl.1 rfl (Nat.le_of_ble_eq_true rfl) dX10_write_38 ⟨Nat.le_of_ble_eq_true rfl, Nat.le_of_ble_eq_true rfl⟩) (fun H locs hB => ?_)
        refine lv_aload_n F.1 F.2.1 dX10_write_41 rfl (lv_at hl 0 rfl) ?_
        refine gf_RX10_13 F hE hB po_64 rfl dX10_write_42 ?_
        refine lv_iload_n F.1 F.2.1 dX10_write_45 rfl (lv_at hl 2 rfl) ?_
        obtain ⟨hi13, h⟩ := ck_e h
        refine q_iald F hE hB po_66 hi13 dX10_write_46 ?_
        refine lv_aload_n F.1 F.2.1 dX10_write_47 rfl (lv_at hl 0 rfl) ?_
        refine gf_RX10_111 F hE hB po_64 rfl dX10_write_48 ?_
        obtain ⟨v15, hc14, h⟩ := bp_e h
        refine q_ci hB (q_goS F hE hB (k_X10_lesser hI σ12 (σ12.1 66 a2.toNatClampNeg) (σ12.1 64 9) hc14) (ca_RX10_272 F.2.2.2.2 ⟨Nat.le_of_ble_eq_true rfl, Nat.le_of_ble_eq_true rfl⟩) rfl hl.1 rfl (Nat.le_of_ble_eq_true rfl) dX10_write_51 ⟨Nat.le_of_ble_eq_true rfl, Nat.le_of_ble_eq_true rfl⟩) (fun H locs hB => ?_)
        refine lv_istore_n (lv' := [(3, .int v15), (0, .ref (ad 64)), (1, .int a1), (2, .int a2)]) F.1 F.2.1 dX10_write_54 rfl hl (by decide) rfl (fun ls hl => ?_)
        refine lv_iconst (v := 0) F.1 F.2.1 dX10_write_55 (by decide) ?_
        refine lv_istore (lv' := [(4, .int (0 : Int32)), (3, .int v15), (0, .ref (ad 64)), (1, .int a1), (2, .int a2)]) F.1 F.2.1 dX10_write_56 hl (by decide) rfl (fun ls hl => ?_)
        exact B58 300 σ12 _ _ _ a2 v15 (0 : Int32) h hB (lv_sub hl [2, 4, 1, 0] rfl)
      · replace h := ie_e c8 h
        refine lv_aload_n F.1 F.2.1 dX10_write_26 rfl (lv_at hl 0 rfl) ?_
        refine lv_iconst (v := 1) F.1 F.2.1 dX10_write_27 (by decide) ?_
        obtain ⟨v26, σ25, hc24, h⟩ := bi_e h
        refine q_ci hB (q_goV F hE hB (k_X10_finds hI σ0 (1 : Int32) hc24) (ca_RX10_79 F.2.2.2.2 ⟨Nat.le_of_ble_eq_true rfl, Nat.le_of_ble_eq_true rfl⟩) rfl po_64 rfl hl.1 rfl (Nat.le_of_ble_eq_true rfl) dX10_write_28 ⟨Nat.le_of_ble_eq_true rfl, Nat.le_of_ble_eq_true rfl⟩) (fun H locs hB => ?_)
        exact q_iret F hlocks hr hB (so1 h) (so2 h) dX10_write_31
    · replace h := it_e c6 h
      refine lv_bipush (v := (-2)) F.1 F.2.1 dX10_write_14 (by decide) ?_
      exact q_iret F hlocks hr hB (so1 h) (so2 h) dX10_write_16
