def f_X10_count_b70 (σ0 : Mem) (x1 : Int32) : Option (Int32 × Mem) := (ck (x1 - (2 : Int32)) 2 (some ((σ0.1 70 (x1 - (2 : Int32)).toNatClampNeg), σ0)))
def f_X10_count (σ0 : Mem) (a1 : Int32) : Option (Int32 × Mem) := (bv (f_X10_find σ0) (fun σ2 => (bv (f_X10_lives σ2 (99 : Int32)) (fun σ4 => (if a1 = (0 : Int32) then (some ((σ4.1 64 7), σ4)) else (if a1 = (1 : Int32) then (some ((σ4.1 64 9), σ4)) else (if a1 = (2 : Int32) then (f_X10_count_b70 σ4 a1) else (if a1 = (3 : Int32) then (f_X10_count_b70 σ4 a1) else (if a1 = (4 : Int32) then (some ((σ4.1 64 11), σ4)) else (if a1 = (5 : Int32) then (bp (f_X10_throughNow σ4) (fun v13 => (bp (f_X10_ones σ4 v13) (fun v15 => (some (v15, σ4)))))) else (if a1 = (6 : Int32) then (bp (f_X10_allWait σ4) (fun v18 => (some (v18, σ4)))) else (if a1 = (7 : Int32) then (some ((σ4.1 64 22), σ4)) else (if a1 = (8 : Int32) then (some ((σ4.1 64 4), σ4)) else (some ((-2 : Int32), σ4)))))))))))))))
set_option maxHeartbeats 4000000 in
set_option maxRecDepth 100000 in
theorem k_X10_count {l : Launch} {D : va_G} {cy : Nat → ClassId} {ad : Nat → Nat} {ta tb : Nat} (hI : AdI ad) (σ0 : Mem) (a1 : Int32) {o : Int32 × Mem} (h : f_X10_count σ0 a1 = some o) : Met l yX10_count (Cond.code yX10_count cX10_count 2 (some .int) :: wG) rm_X10_count (CP D cy ad ta tb σ0 [.ref (ad 64), .int a1]) (CQi D cy ad o.1 o.2) 0 0 (AA ad) := by
  refine Met.ofW (cc := cX10_count) (maxL := 2) (ret := (some .int)) (by decide) rfl ?_
  intro p e s m args below meth c s₁ B hml hv
  obtain ⟨rfl, hE, hP⟩ := hv
  have hts := atoms_spec (ws := Cond.code yX10_count cX10_count 2 (some .int) :: wG) B.pre
  have F : CallFix p m c cX10_count 2 s _ wG RX10 := ⟨B.exec, B.bytes, hml, findClass_of_methodNamed B.named, fun w hw => hts w (List.mem_cons_of_mem _ hw)⟩
  have hr := B.returns
  have hlocks := B.notSynchronized
  have hB : Bd D cy ad σ0 s.heap s.heap [] := ⟨hP, va_S.rf⟩
  have hl := lv_entry ([.ref (ad 64), .int a1] : List Value) (n := 2) (Nat.le_of_ble_eq_true rfl)
  rw [lg_entry_eq]
  generalize (lg_sl ([.ref (ad 64), .int a1] : List Value) ++ List.replicate (2 - (lg_sl ([.ref (ad 64), .int a1] : List Value)).length) Slot.unset).toArray = ls at hl ⊢
  have hl : lv_has ls 2 [(0, .ref (ad 64)), (1, .int a1)] := hl
  have B70 : ∀ (σ0 : Mem) (H : Heap) (locs : List Loc) (ls : Array Slot) (x1 : Int32), f_X10_count_b70 σ0 x1 = some o → Bd D cy ad σ0 s.heap H locs → lv_has ls 2 [(0, .ref (ad 64)), (1, .int x1)] → W p l e rm_X10_count s m ([.ref (ad 64), .int a1] : List Value).toArray below meth c H locs 0 0 (MQ below (CQi D cy ad o.1 o.2) ([.ref (ad 64), .int a1] : List Value).toArray s 0 0 (AA ad)) (F0 m 70 ls []) := by
    intro σ0 H locs ls x1 h hB hl
    unfold f_X10_count_b70 at h
    refine lv_aload_n F.1 F.2.1 dX10_count_70 rfl (lv_at hl 0 rfl) ?_
    refine gf_RX10_25 F hE hB po_64 rfl dX10_count_71 ?_
    refine lv_iload_n F.1 F.2.1 dX10_count_74 rfl (lv_at hl 1 rfl) ?_
    refine lv_iconst (v := 2) F.1 F.2.1 dX10_count_75 (by decide) ?_
    refine lv_isub F.1 F.2.1 dX10_count_76 ?_
    obtain ⟨hi8, h⟩ := ck_e h
    refine q_iald F hE hB po_70 hi8 dX10_count_77 ?_
    exact q_iret F hlocks hr hB (so1 h) (so2 h) dX10_count_78
  unfold f_X10_count at h
  refine lv_aload_n F.1 F.2.1 dX10_count_0 rfl (lv_at hl 0 rfl) ?_
  obtain ⟨σ2, hc1, h⟩ := bv_e h
  refine q_cv hB (q_goV F hE hB (k_X10_find hI σ0 hc1) (ca_RX10_129 F.2.2.2.2 ⟨Nat.le_of_ble_eq_true rfl, Nat.le_of_ble_eq_true rfl⟩) rfl po_64 rfl hl.1 rfl (Nat.le_of_ble_eq_true rfl) dX10_count_1 ⟨Nat.le_of_ble_eq_true rfl, Nat.le_of_ble_eq_true rfl⟩) (fun H locs hB => ?_)
  refine lv_aload_n F.1 F.2.1 dX10_count_4 rfl (lv_at hl 0 rfl) ?_
  refine lv_bipush (v := 99) F.1 F.2.1 dX10_count_5 (by decide) ?_
  obtain ⟨σ4, hc3, h⟩ := bv_e h
  refine q_cv hB (q_goV F hE hB (k_X10_lives hI σ2 (99 : Int32) hc3) (ca_RX10_185 F.2.2.2.2 ⟨Nat.le_of_ble_eq_true rfl, Nat.le_of_ble_eq_true rfl⟩) rfl po_64 rfl hl.1 rfl (Nat.le_of_ble_eq_true rfl) dX10_count_7 ⟨Nat.le_of_ble_eq_true rfl, Nat.le_of_ble_eq_true rfl⟩) (fun H locs hB => ?_)
  refine lv_iload_n F.1 F.2.1 dX10_count_10 rfl (lv_at hl 1 rfl) ?_
  by_cases c5 : a1 = (0 : Int32)
  · replace h := it_e c5 h
    refine lv_tableIn (off := 49) (tgt := 60) F.1 F.2.1 dX10_count_11 (by rw [c5]; decide) (by rw [c5]; decide) (by rw [c5]; decide) (by decide) ?_
    refine lv_aload_n F.1 F.2.1 dX10_count_60 rfl (lv_at hl 0 rfl) ?_
    refine gf_RX10_105 F hE hB po_64 rfl dX10_count_61 ?_
    exact q_iret F hlocks hr hB (so1 h) (so2 h) dX10_count_64
  · replace h := ie_e c5 h
    by_cases c6 : a1 = (1 : Int32)
    · replace h := it_e c6 h
      refine lv_tableIn (off := 54) (tgt := 65) F.1 F.2.1 dX10_count_11 (by rw [c6]; decide) (by rw [c6]; decide) (by rw [c6]; decide) (by decide) ?_
      refine lv_aload_n F.1 F.2.1 dX10_count_65 rfl (lv_at hl 0 rfl) ?_
      refine gf_RX10_111 F hE hB po_64 rfl dX10_count_66 ?_
      exact q_iret F hlocks hr hB (so1 h) (so2 h) dX10_count_69
    · replace h := ie_e c6 h
      by_cases c7 : a1 = (2 : Int32)
      · replace h := it_e c7 h
        refine lv_tableIn (off := 59) (tgt := 70) F.1 F.2.1 dX10_count_11 (by rw [c7]; decide) (by rw [c7]; decide) (by rw [c7]; decide) (by decide) ?_
        exact B70 σ4 _ _ _ a1 h hB (lv_sub hl [0, 1] rfl)
      · replace h := ie_e c7 h
        by_cases c9 : a1 = (3 : Int32)
        · replace h := it_e c9 h
          refine lv_tableIn (off := 59) (tgt := 70) F.1 F.2.1 dX10_count_11 (by rw [c9]; decide) (by rw [c9]; decide) (by rw [c9]; decide) (by decide) ?_
          exact B70 σ4 _ _ _ a1 h hB (lv_sub hl [0, 1] rfl)
        · replace h := ie_e c9 h
          by_cases c10 : a1 = (4 : Int32)
          · replace h := it_e c10 h
            refine lv_tableIn (off := 68) (tgt := 79) F.1 F.2.1 dX10_count_11 (by rw [c10]; decide) (by rw [c10]; decide) (by rw [c10]; decide) (by decide) ?_
            refine lv_aload_n F.1 F.2.1 dX10_count_79 rfl (lv_at hl 0 rfl) ?_
            refine gf_RX10_144 F hE hB po_64 rfl dX10_count_80 ?_
            exact q_iret F hlocks hr hB (so1 h) (so2 h) dX10_count_83
          · replace h := ie_e c10 h
            by_cases c11 : a1 = (5 : Int32)
            · replace h := it_e c11 h
              refine lv_tableIn (off := 73) (tgt := 84) F.1 F.2.1 dX10_count_11 (by rw [c11]; decide) (by rw [c11]; decide) (by rw [c11]; decide) (by decide) ?_
              refine lv_aload_n F.1 F.2.1 dX10_count_84 rfl (lv_at hl 0 rfl) ?_
              obtain ⟨v13, hc12, h⟩ := bp_e h
              refine q_ci hB (q_goV F hE hB (k_X10_throughNow hI σ4 hc12) (ca_RX10_200 F.2.2.2.2 ⟨Nat.le_of_ble_eq_true rfl, Nat.le_of_ble_eq_true rfl⟩) rfl po_64 rfl hl.1 rfl (Nat.le_of_ble_eq_true rfl) dX10_count_85 ⟨Nat.le_of_ble_eq_true rfl, Nat.le_of_ble_eq_true rfl⟩) (fun H locs hB => ?_)
              obtain ⟨v15, hc14, h⟩ := bp_e h
              refine q_ci hB (q_goS F hE hB (k_X10_ones hI σ4 v13 hc14) (ca_RX10_223 F.2.2.2.2 ⟨Nat.le_of_ble_eq_true rfl, Nat.le_of_ble_eq_true rfl⟩) rfl hl.1 rfl (Nat.le_of_ble_eq_true rfl) dX10_count_88 ⟨Nat.le_of_ble_eq_true rfl, Nat.le_of_ble_eq_true rfl⟩) (fun H locs hB => ?_)
              exact q_iret F hlocks hr hB (so1 h) (so2 h) dX10_count_91
            · replace h := ie_e c11 h
              by_cases c16 : a1 = (6 : Int32)
              · replace h := it_e c16 h
                refine lv_tableIn (off := 81) (tgt := 92) F.1 F.2.1 dX10_count_11 (by rw [c16]; decide) (by rw [c16]; decide) (by rw [c16]; decide) (by decide) ?_
                refine lv_aload_n F.1 F.2.1 dX10_count_92 rfl (lv_at hl 0 rfl) ?_
                obtain ⟨v18, hc17, h⟩ := bp_e h
                refine q_ci hB (q_goV F hE hB (k_X10_allWait hI σ4 hc17) (ca_RX10_217 F.2.2.2.2 ⟨Nat.le_of_ble_eq_true rfl, Nat.le_of_ble_eq_true rfl⟩) rfl po_64 rfl hl.1 rfl (Nat.le_of_ble_eq_true rfl) dX10_count_93 ⟨Nat.le_of_ble_eq_true rfl, Nat.le_of_ble_eq_true rfl⟩) (fun H locs hB => ?_)
                exact q_iret F hlocks hr hB (so1 h) (so2 h) dX10_count_96
              · replace h := ie_e c16 h
                by_cases c19 : a1 = (7 : Int32)
                · replace h := it_e c19 h
                  refine lv_tableIn (off := 86) (tgt := 97) F.1 F.2.1 dX10_count_11 (by rw [c19]; decide) (by rw [c19]; decide) (by rw [c19]; decide) (by decide) ?_
                  refine lv_aload_n F.1 F.2.1 dX10_count_97 rfl (lv_at hl 0 rfl) ?_
                  refine gf_RX10_231 F hE hB po_64 rfl dX10_count_98 ?_
                  exact q_iret F hlocks hr hB (so1 h) (so2 h) dX10_count_101
                · replace h := ie_e c19 h
                  by_cases c20 : a1 = (8 : Int32)
                  · replace h := it_e c20 h
                    refine lv_tableIn (off := 91) (tgt := 102) F.1 F.2.1 dX10_count_11 (by rw [c20]; decide) (by rw [c20]; decide) (by rw [c20]; decide) (by decide) ?_
                    refine lv_aload_n F.1 F.2.1 dX10_count_102 rfl (lv_at hl 0 rfl) ?_
                    refine gf_RX10_68 F hE hB po_64 rfl dX10_count_103 ?_
                    exact q_iret F hlocks hr hB (so1 h) (so2 h) dX10_count_106
                  · replace h := ie_e c20 h
                    refine lv_tableOut (tgt := 107) F.1 F.2.1 dX10_count_11 (sw_9 c5 c6 c7 c9 c10 c11 c16 c19 c20) (by decide) ?_
                    refine lv_bipush (v := (-2)) F.1 F.2.1 dX10_count_107 (by decide) ?_
                    exact q_iret F hlocks hr hB (so1 h) (so2 h) dX10_count_109
def f_X10_tellsBridge_b120 (k90 : Mem → Int32 → Int64 → Int32 → Option (Int64 × Mem)) (σ0 : Mem) (x3 : Int32) (x6 : Int32) (y0 : Int32) (y1 : Int64) : Option (Int64 × Mem) := (bi (f_X10_passesOf σ0 x3 x6 (0 : Int32)) (fun v17 σ16 => (bi (f_X10_passesOf σ16 x3 x6 (1 : Int32)) (fun v20 σ19 => (k90 σ19 x3 (((31 : Int64) * (((31 : Int64) * (y1 + y0.toInt64)) + v17.toInt64)) + v20.toInt64) (x6 + (1 : Int32)))))))
def f_X10_tellsBridge_b90 : Nat → Mem → Int32 → Int64 → Int32 → Option (Int64 × Mem)
  | 0, _, _, _, _ => none
  | n90 + 1, σ0, x3, x4, x6 => (if (σ0.1 64 9) ≤ x6 then (some (x4, σ0)) else (bp (f_X10_isLifted σ0 x3 x6) (fun v13 => (if v13 = (0 : Int32) then (f_X10_tellsBridge_b120 (f_X10_tellsBridge_b90 n90) σ0 x3 x6 (0 : Int32) ((31 : Int64) * x4)) else (f_X10_tellsBridge_b120 (f_X10_tellsBridge_b90 n90) σ0 x3 x6 (1 : Int32) ((31 : Int64) * x4))))))
def f_X10_tellsBridge_b6 : Nat → Mem → Int32 → Int64 → Int32 → Option (Int64 × Mem)
  | 0, _, _, _, _ => none
  | n6 + 1, σ0, x3, x4, x6 => (if (3 : Int32) ≤ x6 then (bi (f_X10_likedOf σ0 x3 (0 : Int32)) (fun v4 σ3 => (bi (f_X10_likedOf σ3 x3 (1 : Int32)) (fun v7 σ6 => (bi (f_X10_askOf σ6 x3 (5 : Int32)) (fun v10 σ9 => (f_X10_tellsBridge_b90 300 σ9 x3 (((31 : Int64) * (((31 : Int64) * (((31 : Int64) * x4) + v4.toInt64)) + v7.toInt64)) + v10.toInt64) (0 : Int32)))))))) else (ck (((3 : Int32) * x3) + x6) 24 (f_X10_tellsBridge_b6 n6 σ0 x3 (((31 : Int64) * x4) + (σ0.1 71 (((3 : Int32) * x3) + x6).toNatClampNeg).toInt64) (x6 + (1 : Int32)))))
def f_X10_tellsBridge (σ0 : Mem) (a1 : Int64) (a3 : Int32) : Option (Int64 × Mem) := (f_X10_tellsBridge_b6 300 σ0 a3 a1 (0 : Int32))
set_option maxHeartbeats 4000000 in
set_option maxRecDepth 100000 in
theorem k_X10_tellsBridge {l : Launch} {D : va_G} {cy : Nat → ClassId} {ad : Nat → Nat} {ta tb : Nat} (hI : AdI ad) (σ0 : Mem) (a1 : Int64) (a3 : Int32) {o : Int64 × Mem} (h : f_X10_tellsBridge σ0 a1 a3 = some o) : Met l yX10_tellsBridge (Cond.code yX10_tellsBridge cX10_tellsBridge 7 (some .long) :: wG) rm_X10_tellsBridge (CP D cy ad ta tb σ0 [.ref (ad 64), .long a1, .int a3]) (CQl D cy ad o.1 o.2) 0 0 (AA ad) := by
  refine Met.ofW (cc := cX10_tellsBridge) (maxL := 7) (ret := (some .long)) (by decide) rfl ?_
  intro p e s m args below meth c s₁ B hml hv
  obtain ⟨rfl, hE, hP⟩ := hv
  have hts := atoms_spec (ws := Cond.code yX10_tellsBridge cX10_tellsBridge 7 (some .long) :: wG) B.pre
  have F : CallFix p m c cX10_tellsBridge 7 s _ wG RX10 := ⟨B.exec, B.bytes, hml, findClass_of_methodNamed B.named, fun w hw => hts w (List.mem_cons_of_mem _ hw)⟩
  have hr := B.returns
  have hlocks := B.notSynchronized
  have hB : Bd D cy ad σ0 s.heap s.heap [] := ⟨hP, va_S.rf⟩
  have hl := lv_entry ([.ref (ad 64), .long a1, .int a3] : List Value) (n := 7) (Nat.le_of_ble_eq_true rfl)
  rw [lg_entry_eq]
  generalize (lg_sl ([.ref (ad 64), .long a1, .int a3] : List Value) ++ List.replicate (7 - (lg_sl ([.ref (ad 64), .long a1, .int a3] : List Value)).length) Slot.unset).toArray = ls at hl ⊢
  have hl : lv_has ls 7 [(0, .ref (ad 64)), (1, .long a1), (3, .int a3)] := hl
  have B90 : ∀ (n90 : Nat) (σ0 : Mem) (H : Heap) (locs : List Loc) (ls : Array Slot) (x3 : Int32) (x4 : Int64) (x6 : Int32), f_X10_tellsBridge_b90 n90 σ0 x3 x4 x6 = some o → Bd D cy ad σ0 s.heap H locs → lv_has ls 7 [(0, .ref (ad 64)), (3, .int x3), (4, .long x4), (6, .int x6)] → W p l e rm_X10_tellsBridge s m ([.ref (ad 64), .long a1, .int a3] : List Value).toArray below meth c H locs 0 0 (MQ below (CQl D cy ad o.1 o.2) ([.ref (ad 64), .long a1, .int a3] : List Value).toArray s 0 0 (AA ad)) (F0 m 90 ls []) := by
    intro n90
    induction n90 with
    | zero => intro σ0 H locs ls x3 x4 x6 h hB hl; cases h
    | succ n90 ih90 =>
      have B120 : ∀ (σ0 : Mem) (H : Heap) (locs : List Loc) (ls : Array Slot) (x3 : Int32) (x6 : Int32) (y0 : Int32) (y1 : Int64), f_X10_tellsBridge_b120 (f_X10_tellsBridge_b90 n90) σ0 x3 x6 y0 y1 = some o → Bd D cy ad σ0 s.heap H locs → lv_has ls 7 [(0, .ref (ad 64)), (3, .int x3), (6, .int x6)] → W p l e rm_X10_tellsBridge s m ([.ref (ad 64), .long a1, .int a3] : List Value).toArray below meth c H locs 0 0 (MQ below (CQl D cy ad o.1 o.2) ([.ref (ad 64), .long a1, .int a3] : List Value).toArray s 0 0 (AA ad)) (F0 m 120 ls [.int y0, .long y1]) := by
        intro σ0 H locs ls x3 x6 y0 y1 h hB hl
        unfold f_X10_tellsBridge_b120 at h
        refine lv_i2l F.1 F.2.1 dX10_tellsBridge_120 rfl ?_
        refine lv_ladd F.1 F.2.1 dX10_tellsBridge_121 ?_
        refine lv_lstore (lv' := [(4, .long (y1 + y0.toInt64)), (0, .ref (ad 64)), (3, .int x3), (6, .int x6)]) F.1 F.2.1 dX10_tellsBridge_122 hl (by decide) rfl (fun ls hl => ?_)
        refine lv_ldc2 (v := 31) F.1 F.2.1 F.2.2.2.1 (F.2.2.2.2 _ wm_k_RX10_275) dX10_tellsBridge_124 ?_
        refine lv_lload F.1 F.2.1 dX10_tellsBridge_127 (lv_at hl 0 rfl) ?_
        refine lv_lmul F.1 F.2.1 dX10_tellsBridge_129 ?_
        refine lv_aload_n F.1 F.2.1 dX10_tellsBridge_130 rfl (lv_at hl 1 rfl) ?_
        refine lv_iload_n F.1 F.2.1 dX10_tellsBridge_131 rfl (lv_at hl 2 rfl) ?_
        refine lv_iload F.1 F.2.1 dX10_tellsBridge_132 (lv_at hl 3 rfl) ?_
        refine lv_iconst (v := 0) F.1 F.2.1 dX10_tellsBridge_134 (by decide) ?_
        obtain ⟨v17, σ16, hc15, h⟩ := bi_e h
        refine q_ci hB (q_goV F hE hB (k_X10_passesOf hI σ0 x3 x6 (0 : Int32) hc15) (ca_RX10_194 F.2.2.2.2 ⟨Nat.le_of_ble_eq_true rfl, Nat.le_of_ble_eq_true rfl⟩) rfl po_64 rfl hl.1 rfl (Nat.le_of_ble_eq_true rfl) dX10_tellsBridge_135 ⟨Nat.le_of_ble_eq_true rfl, Nat.le_of_ble_eq_true rfl⟩) (fun H locs hB => ?_)
        refine lv_i2l F.1 F.2.1 dX10_tellsBridge_138 rfl ?_
        refine lv_ladd F.1 F.2.1 dX10_tellsBridge_139 ?_
        refine lv_lstore (lv' := [(4, .long (((31 : Int64) * (y1 + y0.toInt64)) + v17.toInt64)), (0, .ref (ad 64)), (3, .int x3), (6, .int x6)]) F.1 F.2.1 dX10_tellsBridge_140 hl (by decide) rfl (fun ls hl => ?_)
        refine lv_ldc2 (v := 31) F.1 F.2.1 F.2.2.2.1 (F.2.2.2.2 _ wm_k_RX10_275) dX10_tellsBridge_142 ?_
        refine lv_lload F.1 F.2.1 dX10_tellsBridge_145 (lv_at hl 0 rfl) ?_
        refine lv_lmul F.1 F.2.1 dX10_tellsBridge_147 ?_
        refine lv_aload_n F.1 F.2.1 dX10_tellsBridge_148 rfl (lv_at hl 1 rfl) ?_
        refine lv_iload_n F.1 F.2.1 dX10_tellsBridge_149 rfl (lv_at hl 2 rfl) ?_
        refine lv_iload F.1 F.2.1 dX10_tellsBridge_150 (lv_at hl 3 rfl) ?_
        refine lv_iconst (v := 1) F.1 F.2.1 dX10_tellsBridge_152 (by decide) ?_
        obtain ⟨v20, σ19, hc18, h⟩ := bi_e h
        refine q_ci hB (q_goV F hE hB (k_X10_passesOf hI σ16 x3 x6 (1 : Int32) hc18) (ca_RX10_194 F.2.2.2.2 ⟨Nat.le_of_ble_eq_true rfl, Nat.le_of_ble_eq_true rfl⟩) rfl po_64 rfl hl.1 rfl (Nat.le_of_ble_eq_true rfl) dX10_tellsBridge_153 ⟨Nat.le_of_ble_eq_true rfl, Nat.le_of_ble_eq_true rfl⟩) (fun H locs hB => ?_)
        refine lv_i2l F.1 F.2.1 dX10_tellsBridge_156 rfl ?_
        refine lv_ladd F.1 F.2.1 dX10_tellsBridge_157 ?_
        refine lv_lstore (lv' := [(4, .long (((31 : Int64) * (((31 : Int64) * (y1 + y0.toInt64)) + v17.toInt64)) + v20.toInt64)), (0, .ref (ad 64)), (3, .int x3), (6, .int x6)]) F.1 F.2.1 dX10_tellsBridge_158 hl (by decide) rfl (fun ls hl => ?_)
        refine lv_iinc (v := (x6 + (1 : Int32))) (lv' := [(6, .int (x6 + (1 : Int32))), (4, .long (((31 : Int64) * (((31 : Int64) * (y1 + y0.toInt64)) + v17.toInt64)) + v20.toInt64)), (0, .ref (ad 64)), (3, .int x3)]) F.1 F.2.1 dX10_tellsBridge_160 hl (k := 3) rfl rfl (by decide) rfl (fun ls hl => ?_)
        refine lv_goto (tgt := 90) F.1 F.2.1 dX10_tellsBridge_163 (by decide) ?_
        exact ih90 σ19 _ _ _ x3 (((31 : Int64) * (((31 : Int64) * (y1 + y0.toInt64)) + v17.toInt64)) + v20.toInt64) (x6 + (1 : Int32)) h hB (lv_sub hl [2, 3, 1, 0] rfl)
      intro σ0 H locs ls x3 x4 x6 h hB hl
      rw [f_X10_tellsBridge_b90] at h
      refine lv_iload F.1 F.2.1 dX10_tellsBridge_90 (lv_at hl 3 rfl) ?_
      refine lv_aload_n F.1 F.2.1 dX10_tellsBridge_92 rfl (lv_at hl 0 rfl) ?_
      refine gf_RX10_111 F hE hB po_64 rfl dX10_tellsBridge_93 ?_
      refine lv_icmp_ge (tgt := 166) F.1 F.2.1 dX10_tellsBridge_96 (by decide) (fun c11 => ?_) (fun c11 => ?_)
      · replace h := it_e c11 h
        refine lv_lload F.1 F.2.1 dX10_tellsBridge_166 (lv_at hl 2 rfl) ?_
        exact q_lret F hlocks hr hB (so1 h) (so2 h) dX10_tellsBridge_168
      · replace h := ie_e c11 h
        refine lv_ldc2 (v := 31) F.1 F.2.1 F.2.2.2.1 (F.2.2.2.2 _ wm_k_RX10_275) dX10_tellsBridge_99 ?_
        refine lv_lload F.1 F.2.1 dX10_tellsBridge_102 (lv_at hl 2 rfl) ?_
        refine lv_lmul F.1 F.2.1 dX10_tellsBridge_104 ?_
        refine lv_aload_n F.1 F.2.1 dX10_tellsBridge_105 rfl (lv_at hl 0 rfl) ?_
        refine lv_iload_n F.1 F.2.1 dX10_tellsBridge_106 rfl (lv_at hl 1 rfl) ?_
        refine lv_iload F.1 F.2.1 dX10_tellsBridge_107 (lv_at hl 3 rfl) ?_
        obtain ⟨v13, hc12, h⟩ := bp_e h
        refine q_ci hB (q_goV F hE hB (k_X10_isLifted hI σ0 x3 x6 hc12) (ca_RX10_156 F.2.2.2.2 ⟨Nat.le_of_ble_eq_true rfl, Nat.le_of_ble_eq_true rfl⟩) rfl po_64 rfl hl.1 rfl (Nat.le_of_ble_eq_true rfl) dX10_tellsBridge_109 ⟨Nat.le_of_ble_eq_true rfl, Nat.le_of_ble_eq_true rfl⟩) (fun H locs hB => ?_)
        refine lv_if_eq (tgt := 119) F.1 F.2.1 dX10_tellsBridge_112 (by decide) (fun c14 => ?_) (fun c14 => ?_)
        · replace h := it_e c14 h
          refine lv_iconst (v := 0) F.1 F.2.1 dX10_tellsBridge_119 (by decide) ?_
          exact B120 σ0 _ _ _ x3 x6 (0 : Int32) ((31 : Int64) * x4) h hB (lv_sub hl [0, 1, 3] rfl)
        · replace h := ie_e c14 h
          refine lv_iconst (v := 1) F.1 F.2.1 dX10_tellsBridge_115 (by decide) ?_
          refine lv_goto (tgt := 120) F.1 F.2.1 dX10_tellsBridge_116 (by decide) ?_
          exact B120 σ0 _ _ _ x3 x6 (1 : Int32) ((31 : Int64) * x4) h hB (lv_sub hl [0, 1, 3] rfl)
  have B6 : ∀ (n6 : Nat) (σ0 : Mem) (H : Heap) (locs : List Loc) (ls : Array Slot) (x3 : Int32) (x4 : Int64) (x6 : Int32), f_X10_tellsBridge_b6 n6 σ0 x3 x4 x6 = some o → Bd D cy ad σ0 s.heap H locs → lv_has ls 7 [(0, .ref (ad 64)), (3, .int x3), (4, .long x4), (6, .int x6)] → W p l e rm_X10_tellsBridge s m ([.ref (ad 64), .long a1, .int a3] : List Value).toArray below meth c H locs 0 0 (MQ below (CQl D cy ad o.1 o.2) ([.ref (ad 64), .long a1, .int a3] : List Value).toArray s 0 0 (AA ad)) (F0 m 6 ls []) := by
    intro n6
    induction n6 with
    | zero => intro σ0 H locs ls x3 x4 x6 h hB hl; cases h
    | succ n6 ih6 =>
      intro σ0 H locs ls x3 x4 x6 h hB hl
      rw [f_X10_tellsBridge_b6] at h
      refine lv_iload F.1 F.2.1 dX10_tellsBridge_6 (lv_at hl 3 rfl) ?_
      refine lv_iconst (v := 3) F.1 F.2.1 dX10_tellsBridge_8 (by decide) ?_
      refine lv_icmp_ge (tgt := 39) F.1 F.2.1 dX10_tellsBridge_9 (by decide) (fun c1 => ?_) (fun c1 => ?_)
      · replace h := it_e c1 h
        refine lv_ldc2 (v := 31) F.1 F.2.1 F.2.2.2.1 (F.2.2.2.2 _ wm_k_RX10_275) dX10_tellsBridge_39 ?_
        refine lv_lload F.1 F.2.1 dX10_tellsBridge_42 (lv_at hl 2 rfl) ?_
        refine lv_lmul F.1 F.2.1 dX10_tellsBridge_44 ?_
        refine lv_aload_n F.1 F.2.1 dX10_tellsBridge_45 rfl (lv_at hl 0 rfl) ?_
        refine lv_iload_n F.1 F.2.1 dX10_tellsBridge_46 rfl (lv_at hl 1 rfl) ?_
        refine lv_iconst (v := 0) F.1 F.2.1 dX10_tellsBridge_47 (by decide) ?_
        obtain ⟨v4, σ3, hc2, h⟩ := bi_e h
        refine q_ci hB (q_goV F hE hB (k_X10_likedOf hI σ0 x3 (0 : Int32) hc2) (ca_RX10_238 F.2.2.2.2 ⟨Nat.le_of_ble_eq_true rfl, Nat.le_of_ble_eq_true rfl⟩) rfl po_64 rfl hl.1 rfl (Nat.le_of_ble_eq_true rfl) dX10_tellsBridge_48 ⟨Nat.le_of_ble_eq_true rfl, Nat.le_of_ble_eq_true rfl⟩) (fun H locs hB => ?_)
        refine lv_i2l F.1 F.2.1 dX10_tellsBridge_51 rfl ?_
        refine lv_ladd F.1 F.2.1 dX10_tellsBridge_52 ?_
        refine lv_lstore (lv' := [(4, .long (((31 : Int64) * x4) + v4.toInt64)), (0, .ref (ad 64)), (3, .int x3), (6, .int x6)]) F.1 F.2.1 dX10_tellsBridge_53 hl (by decide) rfl (fun ls hl => ?_)
        refine lv_ldc2 (v := 31) F.1 F.2.1 F.2.2.2.1 (F.2.2.2.2 _ wm_k_RX10_275) dX10_tellsBridge_55 ?_
        refine lv_lload F.1 F.2.1 dX10_tellsBridge_58 (lv_at hl 0 rfl) ?_
        refine lv_lmul F.1 F.2.1 dX10_tellsBridge_60 ?_
        refine lv_aload_n F.1 F.2.1 dX10_tellsBridge_61 rfl (lv_at hl 1 rfl) ?_
        refine lv_iload_n F.1 F.2.1 dX10_tellsBridge_62 rfl (lv_at hl 2 rfl) ?_
        refine lv_iconst (v := 1) F.1 F.2.1 dX10_tellsBridge_63 (by decide) ?_
        obtain ⟨v7, σ6, hc5, h⟩ := bi_e h
        refine q_ci hB (q_goV F hE hB (k_X10_likedOf hI σ3 x3 (1 : Int32) hc5) (ca_RX10_238 F.2.2.2.2 ⟨Nat.le_of_ble_eq_true rfl, Nat.le_of_ble_eq_true rfl⟩) rfl po_64 rfl hl.1 rfl (Nat.le_of_ble_eq_true rfl) dX10_tellsBridge_64 ⟨Nat.le_of_ble_eq_true rfl, Nat.le_of_ble_eq_true rfl⟩) (fun H locs hB => ?_)
        refine lv_i2l F.1 F.2.1 dX10_tellsBridge_67 rfl ?_
        refine lv_ladd F.1 F.2.1 dX10_tellsBridge_68 ?_
        refine lv_lstore (lv' := [(4, .long (((31 : Int64) * (((31 : Int64) * x4) + v4.toInt64)) + v7.toInt64)), (0, .ref (ad 64)), (3, .int x3), (6, .int x6)]) F.1 F.2.1 dX10_tellsBridge_69 hl (by decide) rfl (fun ls hl => ?_)
        refine lv_ldc2 (v := 31) F.1 F.2.1 F.2.2.2.1 (F.2.2.2.2 _ wm_k_RX10_275) dX10_tellsBridge_71 ?_
        refine lv_lload F.1 F.2.1 dX10_tellsBridge_74 (lv_at hl 0 rfl) ?_
        refine lv_lmul F.1 F.2.1 dX10_tellsBridge_76 ?_
        refine lv_aload_n F.1 F.2.1 dX10_tellsBridge_77 rfl (lv_at hl 1 rfl) ?_
        refine lv_iload_n F.1 F.2.1 dX10_tellsBridge_78 rfl (lv_at hl 2 rfl) ?_
        refine lv_iconst (v := 5) F.1 F.2.1 dX10_tellsBridge_79 (by decide) ?_
        obtain ⟨v10, σ9, hc8, h⟩ := bi_e h
        refine q_ci hB (q_goV F hE hB (k_X10_askOf hI σ6 x3 (5 : Int32) hc8) (ca_RX10_244 F.2.2.2.2 ⟨Nat.le_of_ble_eq_true rfl, Nat.le_of_ble_eq_true rfl⟩) rfl po_64 rfl hl.1 rfl (Nat.le_of_ble_eq_true rfl) dX10_tellsBridge_80 ⟨Nat.le_of_ble_eq_true rfl, Nat.le_of_ble_eq_true rfl⟩) (fun H locs hB => ?_)
        refine lv_i2l F.1 F.2.1 dX10_tellsBridge_83 rfl ?_
        refine lv_ladd F.1 F.2.1 dX10_tellsBridge_84 ?_
        refine lv_lstore (lv' := [(4, .long (((31 : Int64) * (((31 : Int64) * (((31 : Int64) * x4) + v4.toInt64)) + v7.toInt64)) + v10.toInt64)), (0, .ref (ad 64)), (3, .int x3), (6, .int x6)]) F.1 F.2.1 dX10_tellsBridge_85 hl (by decide) rfl (fun ls hl => ?_)
        refine lv_iconst (v := 0) F.1 F.2.1 dX10_tellsBridge_87 (by decide) ?_
        refine lv_istore (lv' := [(6, .int (0 : Int32)), (4, .long (((31 : Int64) * (((31 : Int64) * (((31 : Int64) * x4) + v4.toInt64)) + v7.toInt64)) + v10.toInt64)), (0, .ref (ad 64)), (3, .int x3)]) F.1 F.2.1 dX10_tellsBridge_88 hl (by decide) rfl (fun ls hl => ?_)
        exact B90 300 σ9 _ _ _ x3 (((31 : Int64) * (((31 : Int64) * (((31 : Int64) * x4) + v4.toInt64)) + v7.toInt64)) + v10.toInt64) (0 : Int32) h hB (lv_sub hl [2, 3, 1, 0] rfl)
      · replace h := ie_e c1 h
        refine lv_ldc2 (v := 31) F.1 F.2.1 F.2.2.2.1 (F.2.2.2.2 _ wm_k_RX10_275) dX10_tellsBridge_12 ?_
        refine lv_lload F.1 F.2.1 dX10_tellsBridge_15 (lv_at hl 2 rfl) ?_
        refine lv_lmul F.1 F.2.1 dX10_tellsBridge_17 ?_
        refine lv_aload_n F.1 F.2.1 dX10_tellsBridge_18 rfl (lv_at hl 0 rfl) ?_
        refine gf_RX10_28 F hE hB po_64 rfl dX10_tellsBridge_19 ?_
        refine lv_iconst (v := 3) F.1 F.2.1 dX10_tellsBridge_22 (by decide) ?_
        refine lv_iload_n F.1 F.2.1 dX10_tellsBridge_23 rfl (lv_at hl 1 rfl) ?_
        refine lv_imul F.1 F.2.1 dX10_tellsBridge_24 ?_
        refine lv_iload F.1 F.2.1 dX10_tellsBridge_25 (lv_at hl 3 rfl) ?_
        refine lv_iadd F.1 F.2.1 dX10_tellsBridge_27 ?_
        obtain ⟨hi21, h⟩ := ck_e h
        refine q_iald F hE hB po_71 hi21 dX10_tellsBridge_28 ?_
        refine lv_i2l F.1 F.2.1 dX10_tellsBridge_29 rfl ?_
        refine lv_ladd F.1 F.2.1 dX10_tellsBridge_30 ?_
        refine lv_lstore (lv' := [(4, .long (((31 : Int64) * x4) + (σ0.1 71 (((3 : Int32) * x3) + x6).toNatClampNeg).toInt64)), (0, .ref (ad 64)), (3, .int x3), (6, .int x6)]) F.1 F.2.1 dX10_tellsBridge_31 hl (by decide) rfl (fun ls hl => ?_)
        refine lv_iinc (v := (x6 + (1 : Int32))) (lv' := [(6, .int (x6 + (1 : Int32))), (4, .long (((31 : Int64) * x4) + (σ0.1 71 (((3 : Int32) * x3) + x6).toNatClampNeg).toInt64)), (0, .ref (ad 64)), (3, .int x3)]) F.1 F.2.1 dX10_tellsBridge_33 hl (k := 3) rfl rfl (by decide) rfl (fun ls hl => ?_)
        refine lv_goto (tgt := 6) F.1 F.2.1 dX10_tellsBridge_36 (by decide) ?_
        exact ih6 σ0 _ _ _ x3 (((31 : Int64) * x4) + (σ0.1 71 (((3 : Int32) * x3) + x6).toNatClampNeg).toInt64) (x6 + (1 : Int32)) h hB (lv_sub hl [2, 3, 1, 0] rfl)
  unfold f_X10_tellsBridge at h
  refine lv_lload_n F.1 F.2.1 dX10_tellsBridge_0 rfl (lv_at hl 1 rfl) ?_
  refine lv_lstore (lv' := [(4, .long a1), (0, .ref (ad 64)), (1, .long a1), (3, .int a3)]) F.1 F.2.1 dX10_tellsBridge_1 hl (by decide) rfl (fun ls hl => ?_)
  refine lv_iconst (v := 0) F.1 F.2.1 dX10_tellsBridge_3 (by decide) ?_
  refine lv_istore (lv' := [(6, .int (0 : Int32)), (4, .long a1), (0, .ref (ad 64)), (1, .long a1), (3, .int a3)]) F.1 F.2.1 dX10_tellsBridge_4 hl (by decide) rfl (fun ls hl => ?_)
  exact B6 300 σ0 _ _ _ a3 a1 (0 : Int32) h hB (lv_sub hl [2, 4, 1, 0] rfl)
def f_X10_tellsBoat_b6 : Nat → Mem → Int32 → Int64 → Int32 → Option (Int64 × Mem)
  | 0, _, _, _, _ => none
  | n6 + 1, σ0, x3, x4, x6 => (if (7 : Int32) ≤ x6 then (bi (f_X10_atOf σ0 (5 : Int32) x3) (fun v4 σ3 => (bi (f_X10_atOf σ3 (30 : Int32) x3) (fun v7 σ6 => (bi (f_X10_waitsOf σ6 x3) (fun v10 σ9 => (bi (f_X10_cargoOf σ9 x3 (-1 : Int32)) (fun v13 σ12 => (bi (f_X10_cargoOf σ12 x3 (0 : Int32)) (fun v16 σ15 => (bi (f_X10_sailOf σ15 x3 (0 : Int32)) (fun v19 σ18 => (bi (f_X10_sailOf σ18 x3 (1 : Int32)) (fun v22 σ21 => (bi (f_X10_underOf σ21 x3) (fun v25 σ24 => (bi (f_X10_believedOf σ24 (5 : Int32) x3 (20 : Int32) (0 : Int32)) (fun v28 σ27 => (bi (f_X10_believedOf σ27 (5 : Int32) x3 (20 : Int32) (1 : Int32)) (fun v31 σ30 => (bi (f_X10_loadsOf σ30 (7 : Int32) (4 : Int32) x3 (0 : Int32)) (fun v34 σ33 => (bi (f_X10_loadsOf σ33 (7 : Int32) (4 : Int32) x3 (1 : Int32)) (fun v37 σ36 => (some ((((31 : Int64) * (((31 : Int64) * (((31 : Int64) * (((31 : Int64) * (((31 : Int64) * (((31 : Int64) * (((31 : Int64) * (((31 : Int64) * (((31 : Int64) * (((31 : Int64) * (((31 : Int64) * (((31 : Int64) * x4) + v4.toInt64)) + v7.toInt64)) + v10.toInt64)) + v13.toInt64)) + v16.toInt64)) + v19.toInt64)) + v22.toInt64)) + v25.toInt64)) + v28)) + v31)) + v34.toInt64)) + v37.toInt64), σ36)))))))))))))))))))))))))) else (ck (((7 : Int32) * x3) + x6) 56 (f_X10_tellsBoat_b6 n6 σ0 x3 (((31 : Int64) * x4) + (σ0.1 72 (((7 : Int32) * x3) + x6).toNatClampNeg).toInt64) (x6 + (1 : Int32)))))
def f_X10_tellsBoat (σ0 : Mem) (a1 : Int64) (a3 : Int32) : Option (Int64 × Mem) := (f_X10_tellsBoat_b6 300 σ0 a3 a1 (0 : Int32))
set_option maxHeartbeats 4000000 in
set_option maxRecDepth 100000 in
theorem k_X10_tellsBoat {l : Launch} {D : va_G} {cy : Nat → ClassId} {ad : Nat → Nat} {ta tb : Nat} (hI : AdI ad) (σ0 : Mem) (a1 : Int64) (a3 : Int32) {o : Int64 × Mem} (h : f_X10_tellsBoat σ0 a1 a3 = some o) : Met l yX10_tellsBoat (Cond.code yX10_tellsBoat cX10_tellsBoat 7 (some .long) :: wG) rm_X10_tellsBoat (CP D cy ad ta tb σ0 [.ref (ad 64), .long a1, .int a3]) (CQl D cy ad o.1 o.2) 0 0 (AA ad) := by
  refine Met.ofW (cc := cX10_tellsBoat) (maxL := 7) (ret := (some .long)) (by decide) rfl ?_
  intro p e s m args below meth c s₁ B hml hv
  obtain ⟨rfl, hE, hP⟩ := hv
  have hts := atoms_spec (ws := Cond.code yX10_tellsBoat cX10_tellsBoat 7 (some .long) :: wG) B.pre
  have F : CallFix p m c cX10_tellsBoat 7 s _ wG RX10 := ⟨B.exec, B.bytes, hml, findClass_of_methodNamed B.named, fun w hw => hts w (List.mem_cons_of_mem _ hw)⟩
  have hr := B.returns
  have hlocks := B.notSynchronized
  have hB : Bd D cy ad σ0 s.heap s.heap [] := ⟨hP, va_S.rf⟩
  have hl := lv_entry ([.ref (ad 64), .long a1, .int a3] : List Value) (n := 7) (Nat.le_of_ble_eq_true rfl)
  rw [lg_entry_eq]
  generalize (lg_sl ([.ref (ad 64), .long a1, .int a3] : List Value) ++ List.replicate (7 - (lg_sl ([.ref (ad 64), .long a1, .int a3] : List Value)).length) Slot.unset).toArray = ls at hl ⊢
  have hl : lv_has ls 7 [(0, .ref (ad 64)), (1, .long a1), (3, .int a3)] := hl
  have B6 : ∀ (n6 : Nat) (σ0 : Mem) (H : Heap) (locs : List Loc) (ls : Array Slot) (x3 : Int32) (x4 : Int64) (x6 : Int32), f_X10_tellsBoat_b6 n6 σ0 x3 x4 x6 = some o → Bd D cy ad σ0 s.heap H locs → lv_has ls 7 [(0, .ref (ad 64)), (3, .int x3), (4, .long x4), (6, .int x6)] → W p l e rm_X10_tellsBoat s m ([.ref (ad 64), .long a1, .int a3] : List Value).toArray below meth c H locs 0 0 (MQ below (CQl D cy ad o.1 o.2) ([.ref (ad 64), .long a1, .int a3] : List Value).toArray s 0 0 (AA ad)) (F0 m 6 ls []) := by
    intro n6
    induction n6 with
    | zero => intro σ0 H locs ls x3 x4 x6 h hB hl; cases h
    | succ n6 ih6 =>
      intro σ0 H locs ls x3 x4 x6 h hB hl
      rw [f_X10_tellsBoat_b6] at h
      refine lv_iload F.1 F.2.1 dX10_tellsBoat_6 (lv_at hl 3 rfl) ?_
      refine lv_bipush (v := 7) F.1 F.2.1 dX10_tellsBoat_8 (by decide) ?_
      refine lv_icmp_ge (tgt := 41) F.1 F.2.1 dX10_tellsBoat_10 (by decide) (fun c1 => ?_) (fun c1 => ?_)
      · replace h := it_e c1 h
        refine lv_ldc2 (v := 31) F.1 F.2.1 F.2.2.2.1 (F.2.2.2.2 _ wm_k_RX10_275) dX10_tellsBoat_41 ?_
        refine lv_lload F.1 F.2.1 dX10_tellsBoat_44 (lv_at hl 2 rfl) ?_
        refine lv_lmul F.1 F.2.1 dX10_tellsBoat_46 ?_
        refine lv_aload_n F.1 F.2.1 dX10_tellsBoat_47 rfl (lv_at hl 0 rfl) ?_
        refine lv_iconst (v := 5) F.1 F.2.1 dX10_tellsBoat_48 (by decide) ?_
        refine lv_iload_n F.1 F.2.1 dX10_tellsBoat_49 rfl (lv_at hl 1 rfl) ?_
        obtain ⟨v4, σ3, hc2, h⟩ := bi_e h
        refine q_ci hB (q_goV F hE hB (k_X10_atOf hI σ0 (5 : Int32) x3 hc2) (ca_RX10_191 F.2.2.2.2 ⟨Nat.le_of_ble_eq_true rfl, Nat.le_of_ble_eq_true rfl⟩) rfl po_64 rfl hl.1 rfl (Nat.le_of_ble_eq_true rfl) dX10_tellsBoat_50 ⟨Nat.le_of_ble_eq_true rfl, Nat.le_of_ble_eq_true rfl⟩) (fun H locs hB => ?_)
        refine lv_i2l F.1 F.2.1 dX10_tellsBoat_53 rfl ?_
        refine lv_ladd F.1 F.2.1 dX10_tellsBoat_54 ?_
        refine lv_lstore (lv' := [(4, .long (((31 : Int64) * x4) + v4.toInt64)), (0, .ref (ad 64)), (3, .int x3), (6, .int x6)]) F.1 F.2.1 dX10_tellsBoat_55 hl (by decide) rfl (fun ls hl => ?_)
        refine lv_ldc2 (v := 31) F.1 F.2.1 F.2.2.2.1 (F.2.2.2.2 _ wm_k_RX10_275) dX10_tellsBoat_57 ?_
        refine lv_lload F.1 F.2.1 dX10_tellsBoat_60 (lv_at hl 0 rfl) ?_
        refine lv_lmul F.1 F.2.1 dX10_tellsBoat_62 ?_
        refine lv_aload_n F.1 F.2.1 dX10_tellsBoat_63 rfl (lv_at hl 1 rfl) ?_
        refine lv_bipush (v := 30) F.1 F.2.1 dX10_tellsBoat_64 (by decide) ?_
        refine lv_iload_n F.1 F.2.1 dX10_tellsBoat_66 rfl (lv_at hl 2 rfl) ?_
        obtain ⟨v7, σ6, hc5, h⟩ := bi_e h
        refine q_ci hB (q_goV F hE hB (k_X10_atOf hI σ3 (30 : Int32) x3 hc5) (ca_RX10_191 F.2.2.2.2 ⟨Nat.le_of_ble_eq_true rfl, Nat.le_of_ble_eq_true rfl⟩) rfl po_64 rfl hl.1 rfl (Nat.le_of_ble_eq_true rfl) dX10_tellsBoat_67 ⟨Nat.le_of_ble_eq_true rfl, Nat.le_of_ble_eq_true rfl⟩) (fun H locs hB => ?_)
        refine lv_i2l F.1 F.2.1 dX10_tellsBoat_70 rfl ?_
        refine lv_ladd F.1 F.2.1 dX10_tellsBoat_71 ?_
        refine lv_lstore (lv' := [(4, .long (((31 : Int64) * (((31 : Int64) * x4) + v4.toInt64)) + v7.toInt64)), (0, .ref (ad 64)), (3, .int x3), (6, .int x6)]) F.1 F.2.1 dX10_tellsBoat_72 hl (by decide) rfl (fun ls hl => ?_)
        refine lv_ldc2 (v := 31) F.1 F.2.1 F.2.2.2.1 (F.2.2.2.2 _ wm_k_RX10_275) dX10_tellsBoat_74 ?_
        refine lv_lload F.1 F.2.1 dX10_tellsBoat_77 (lv_at hl 0 rfl) ?_
        refine lv_lmul F.1 F.2.1 dX10_tellsBoat_79 ?_
        refine lv_aload_n F.1 F.2.1 dX10_tellsBoat_80 rfl (lv_at hl 1 rfl) ?_
        refine lv_iload_n F.1 F.2.1 dX10_tellsBoat_81 rfl (lv_at hl 2 rfl) ?_
        obtain ⟨v10, σ9, hc8, h⟩ := bi_e h
        refine q_ci hB (q_goV F hE hB (k_X10_waitsOf hI σ6 x3 hc8) (ca_RX10_197 F.2.2.2.2 ⟨Nat.le_of_ble_eq_true rfl, Nat.le_of_ble_eq_true rfl⟩) rfl po_64 rfl hl.1 rfl (Nat.le_of_ble_eq_true rfl) dX10_tellsBoat_82 ⟨Nat.le_of_ble_eq_true rfl, Nat.le_of_ble_eq_true rfl⟩) (fun H locs hB => ?_)
        refine lv_i2l F.1 F.2.1 dX10_tellsBoat_85 rfl ?_
        refine lv_ladd F.1 F.2.1 dX10_tellsBoat_86 ?_
        refine lv_lstore (lv' := [(4, .long (((31 : Int64) * (((31 : Int64) * (((31 : Int64) * x4) + v4.toInt64)) + v7.toInt64)) + v10.toInt64)), (0, .ref (ad 64)), (3, .int x3), (6, .int x6)]) F.1 F.2.1 dX10_tellsBoat_87 hl (by decide) rfl (fun ls hl => ?_)
        refine lv_ldc2 (v := 31) F.1 F.2.1 F.2.2.2.1 (F.2.2.2.2 _ wm_k_RX10_275) dX10_tellsBoat_89 ?_
        refine lv_lload F.1 F.2.1 dX10_tellsBoat_92 (lv_at hl 0 rfl) ?_
        refine lv_lmul F.1 F.2.1 dX10_tellsBoat_94 ?_
        refine lv_aload_n F.1 F.2.1 dX10_tellsBoat_95 rfl (lv_at hl 1 rfl) ?_
        refine lv_iload_n F.1 F.2.1 dX10_tellsBoat_96 rfl (lv_at hl 2 rfl) ?_
        refine lv_iconst (v := (-1)) F.1 F.2.1 dX10_tellsBoat_97 (by decide) ?_
        obtain ⟨v13, σ12, hc11, h⟩ := bi_e h
        refine q_ci hB (q_goV F hE hB (k_X10_cargoOf hI σ9 x3 (-1 : Int32) hc11) (ca_RX10_214 F.2.2.2.2 ⟨Nat.le_of_ble_eq_true rfl, Nat.le_of_ble_eq_true rfl⟩) rfl po_64 rfl hl.1 rfl (Nat.le_of_ble_eq_true rfl) dX10_tellsBoat_98 ⟨Nat.le_of_ble_eq_true rfl, Nat.le_of_ble_eq_true rfl⟩) (fun H locs hB => ?_)
        refine lv_i2l F.1 F.2.1 dX10_tellsBoat_101 rfl ?_
        refine lv_ladd F.1 F.2.1 dX10_tellsBoat_102 ?_
        refine lv_lstore (lv' := [(4, .long (((31 : Int64) * (((31 : Int64) * (((31 : Int64) * (((31 : Int64) * x4) + v4.toInt64)) + v7.toInt64)) + v10.toInt64)) + v13.toInt64)), (0, .ref (ad 64)), (3, .int x3), (6, .int x6)]) F.1 F.2.1 dX10_tellsBoat_103 hl (by decide) rfl (fun ls hl => ?_)
        refine lv_ldc2 (v := 31) F.1 F.2.1 F.2.2.2.1 (F.2.2.2.2 _ wm_k_RX10_275) dX10_tellsBoat_105 ?_
        refine lv_lload F.1 F.2.1 dX10_tellsBoat_108 (lv_at hl 0 rfl) ?_
        refine lv_lmul F.1 F.2.1 dX10_tellsBoat_110 ?_
        refine lv_aload_n F.1 F.2.1 dX10_tellsBoat_111 rfl (lv_at hl 1 rfl) ?_
        refine lv_iload_n F.1 F.2.1 dX10_tellsBoat_112 rfl (lv_at hl 2 rfl) ?_
        refine lv_iconst (v := 0) F.1 F.2.1 dX10_tellsBoat_113 (by decide) ?_
        obtain ⟨v16, σ15, hc14, h⟩ := bi_e h
        refine q_ci hB (q_goV F hE hB (k_X10_cargoOf hI σ12 x3 (0 : Int32) hc14) (ca_RX10_214 F.2.2.2.2 ⟨Nat.le_of_ble_eq_true rfl, Nat.le_of_ble_eq_true rfl⟩) rfl po_64 rfl hl.1 rfl (Nat.le_of_ble_eq_true rfl) dX10_tellsBoat_114 ⟨Nat.le_of_ble_eq_true rfl, Nat.le_of_ble_eq_true rfl⟩) (fun H locs hB => ?_)
        refine lv_i2l F.1 F.2.1 dX10_tellsBoat_117 rfl ?_
        refine lv_ladd F.1 F.2.1 dX10_tellsBoat_118 ?_
        refine lv_lstore (lv' := [(4, .long (((31 : Int64) * (((31 : Int64) * (((31 : Int64) * (((31 : Int64) * (((31 : Int64) * x4) + v4.toInt64)) + v7.toInt64)) + v10.toInt64)) + v13.toInt64)) + v16.toInt64)), (0, .ref (ad 64)), (3, .int x3), (6, .int x6)]) F.1 F.2.1 dX10_tellsBoat_119 hl (by decide) rfl (fun ls hl => ?_)
        refine lv_ldc2 (v := 31) F.1 F.2.1 F.2.2.2.1 (F.2.2.2.2 _ wm_k_RX10_275) dX10_tellsBoat_121 ?_
        refine lv_lload F.1 F.2.1 dX10_tellsBoat_124 (lv_at hl 0 rfl) ?_
        refine lv_lmul F.1 F.2.1 dX10_tellsBoat_126 ?_
        refine lv_aload_n F.1 F.2.1 dX10_tellsBoat_127 rfl (lv_at hl 1 rfl) ?_
        refine lv_iload_n F.1 F.2.1 dX10_tellsBoat_128 rfl (lv_at hl 2 rfl) ?_
        refine lv_iconst (v := 0) F.1 F.2.1 dX10_tellsBoat_129 (by decide) ?_
        obtain ⟨v19, σ18, hc17, h⟩ := bi_e h
        refine q_ci hB (q_goV F hE hB (k_X10_sailOf hI σ15 x3 (0 : Int32) hc17) (ca_RX10_220 F.2.2.2.2 ⟨Nat.le_of_ble_eq_true rfl, Nat.le_of_ble_eq_true rfl⟩) rfl po_64 rfl hl.1 rfl (Nat.le_of_ble_eq_true rfl) dX10_tellsBoat_130 ⟨Nat.le_of_ble_eq_true rfl, Nat.le_of_ble_eq_true rfl⟩) (fun H locs hB => ?_)
        refine lv_i2l F.1 F.2.1 dX10_tellsBoat_133 rfl ?_
        refine lv_ladd F.1 F.2.1 dX10_tellsBoat_134 ?_
        refine lv_lstore (lv' := [(4, .long (((31 : Int64) * (((31 : Int64) * (((31 : Int64) * (((31 : Int64) * (((31 : Int64) * (((31 : Int64) * x4) + v4.toInt64)) + v7.toInt64)) + v10.toInt64)) + v13.toInt64)) + v16.toInt64)) + v19.toInt64)), (0, .ref (ad 64)), (3, .int x3), (6, .int x6)]) F.1 F.2.1 dX10_tellsBoat_135 hl (by decide) rfl (fun ls hl => ?_)
        refine lv_ldc2 (v := 31) F.1 F.2.1 F.2.2.2.1 (F.2.2.2.2 _ wm_k_RX10_275) dX10_tellsBoat_137 ?_
        refine lv_lload F.1 F.2.1 dX10_tellsBoat_140 (lv_at hl 0 rfl) ?_
        refine lv_lmul F.1 F.2.1 dX10_tellsBoat_142 ?_
        refine lv_aload_n F.1 F.2.1 dX10_tellsBoat_143 rfl (lv_at hl 1 rfl) ?_
        refine lv_iload_n F.1 F.2.1 dX10_tellsBoat_144 rfl (lv_at hl 2 rfl) ?_
        refine lv_iconst (v := 1) F.1 F.2.1 dX10_tellsBoat_145 (by decide) ?_
        obtain ⟨v22, σ21, hc20, h⟩ := bi_e h
        refine q_ci hB (q_goV F hE hB (k_X10_sailOf hI σ18 x3 (1 : Int32) hc20) (ca_RX10_220 F.2.2.2.2 ⟨Nat.le_of_ble_eq_true rfl, Nat.le_of_ble_eq_true rfl⟩) rfl po_64 rfl hl.1 rfl (Nat.le_of_ble_eq_true rfl) dX10_tellsBoat_146 ⟨Nat.le_of_ble_eq_true rfl, Nat.le_of_ble_eq_true rfl⟩) (fun H locs hB => ?_)
        refine lv_i2l F.1 F.2.1 dX10_tellsBoat_149 rfl ?_
        refine lv_ladd F.1 F.2.1 dX10_tellsBoat_150 ?_
        refine lv_lstore (lv' := [(4, .long (((31 : Int64) * (((31 : Int64) * (((31 : Int64) * (((31 : Int64) * (((31 : Int64) * (((31 : Int64) * (((31 : Int64) * x4) + v4.toInt64)) + v7.toInt64)) + v10.toInt64)) + v13.toInt64)) + v16.toInt64)) + v19.toInt64)) + v22.toInt64)), (0, .ref (ad 64)), (3, .int x3), (6, .int x6)]) F.1 F.2.1 dX10_tellsBoat_151 hl (by decide) rfl (fun ls hl => ?_)
        refine lv_ldc2 (v := 31) F.1 F.2.1 F.2.2.2.1 (F.2.2.2.2 _ wm_k_RX10_275) dX10_tellsBoat_153 ?_
        refine lv_lload F.1 F.2.1 dX10_tellsBoat_156 (lv_at hl 0 rfl) ?_
        refine lv_lmul F.1 F.2.1 dX10_tellsBoat_158 ?_
        refine lv_aload_n F.1 F.2.1 dX10_tellsBoat_159 rfl (lv_at hl 1 rfl) ?_
        refine lv_iload_n F.1 F.2.1 dX10_tellsBoat_160 rfl (lv_at hl 2 rfl) ?_
        obtain ⟨v25, σ24, hc23, h⟩ := bi_e h
        refine q_ci hB (q_goV F hE hB (k_X10_underOf hI σ21 x3 hc23) (ca_RX10_241 F.2.2.2.2 ⟨Nat.le_of_ble_eq_true rfl, Nat.le_of_ble_eq_true rfl⟩) rfl po_64 rfl hl.1 rfl (Nat.le_of_ble_eq_true rfl) dX10_tellsBoat_161 ⟨Nat.le_of_ble_eq_true rfl, Nat.le_of_ble_eq_true rfl⟩) (fun H locs hB => ?_)
        refine lv_i2l F.1 F.2.1 dX10_tellsBoat_164 rfl ?_
        refine lv_ladd F.1 F.2.1 dX10_tellsBoat_165 ?_
        refine lv_lstore (lv' := [(4, .long (((31 : Int64) * (((31 : Int64) * (((31 : Int64) * (((31 : Int64) * (((31 : Int64) * (((31 : Int64) * (((31 : Int64) * (((31 : Int64) * x4) + v4.toInt64)) + v7.toInt64)) + v10.toInt64)) + v13.toInt64)) + v16.toInt64)) + v19.toInt64)) + v22.toInt64)) + v25.toInt64)), (0, .ref (ad 64)), (3, .int x3), (6, .int x6)]) F.1 F.2.1 dX10_tellsBoat_166 hl (by decide) rfl (fun ls hl => ?_)
        refine lv_ldc2 (v := 31) F.1 F.2.1 F.2.2.2.1 (F.2.2.2.2 _ wm_k_RX10_275) dX10_tellsBoat_168 ?_
        refine lv_lload F.1 F.2.1 dX10_tellsBoat_171 (lv_at hl 0 rfl) ?_
        refine lv_lmul F.1 F.2.1 dX10_tellsBoat_173 ?_
        refine lv_aload_n F.1 F.2.1 dX10_tellsBoat_174 rfl (lv_at hl 1 rfl) ?_
        refine lv_iconst (v := 5) F.1 F.2.1 dX10_tellsBoat_175 (by decide) ?_
        refine lv_iload_n F.1 F.2.1 dX10_tellsBoat_176 rfl (lv_at hl 2 rfl) ?_
        refine lv_bipush (v := 20) F.1 F.2.1 dX10_tellsBoat_177 (by decide) ?_
        refine lv_iconst (v := 0) F.1 F.2.1 dX10_tellsBoat_179 (by decide) ?_
        obtain ⟨v28, σ27, hc26, h⟩ := bi_e h
        refine q_cl hB (q_goV F hE hB (k_X10_believedOf hI σ24 (5 : Int32) x3 (20 : Int32) (0 : Int32) hc26) (ca_RX10_253 F.2.2.2.2 ⟨Nat.le_of_ble_eq_true rfl, Nat.le_of_ble_eq_true rfl⟩) rfl po_64 rfl hl.1 rfl (Nat.le_of_ble_eq_true rfl) dX10_tellsBoat_180 ⟨Nat.le_of_ble_eq_true rfl, Nat.le_of_ble_eq_true rfl⟩) (fun H locs hB => ?_)
        refine lv_ladd F.1 F.2.1 dX10_tellsBoat_183 ?_
        refine lv_lstore (lv' := [(4, .long (((31 : Int64) * (((31 : Int64) * (((31 : Int64) * (((31 : Int64) * (((31 : Int64) * (((31 : Int64) * (((31 : Int64) * (((31 : Int64) * (((31 : Int64) * x4) + v4.toInt64)) + v7.toInt64)) + v10.toInt64)) + v13.toInt64)) + v16.toInt64)) + v19.toInt64)) + v22.toInt64)) + v25.toInt64)) + v28)), (0, .ref (ad 64)), (3, .int x3), (6, .int x6)]) F.1 F.2.1 dX10_tellsBoat_184 hl (by decide) rfl (fun ls hl => ?_)
        refine lv_ldc2 (v := 31) F.1 F.2.1 F.2.2.2.1 (F.2.2.2.2 _ wm_k_RX10_275) dX10_tellsBoat_186 ?_
        refine lv_lload F.1 F.2.1 dX10_tellsBoat_189 (lv_at hl 0 rfl) ?_
        refine lv_lmul F.1 F.2.1 dX10_tellsBoat_191 ?_
        refine lv_aload_n F.1 F.2.1 dX10_tellsBoat_192 rfl (lv_at hl 1 rfl) ?_
        refine lv_iconst (v := 5) F.1 F.2.1 dX10_tellsBoat_193 (by decide) ?_
        refine lv_iload_n F.1 F.2.1 dX10_tellsBoat_194 rfl (lv_at hl 2 rfl) ?_
        refine lv_bipush (v := 20) F.1 F.2.1 dX10_tellsBoat_195 (by decide) ?_
        refine lv_iconst (v := 1) F.1 F.2.1 dX10_tellsBoat_197 (by decide) ?_
        obtain ⟨v31, σ30, hc29, h⟩ := bi_e h
        refine q_cl hB (q_goV F hE hB (k_X10_believedOf hI σ27 (5 : Int32) x3 (20 : Int32) (1 : Int32) hc29) (ca_RX10_253 F.2.2.2.2 ⟨Nat.le_of_ble_eq_true rfl, Nat.le_of_ble_eq_true rfl⟩) rfl po_64 rfl hl.1 rfl (Nat.le_of_ble_eq_true rfl) dX10_tellsBoat_198 ⟨Nat.le_of_ble_eq_true rfl, Nat.le_of_ble_eq_true rfl⟩) (fun H locs hB => ?_)
        refine lv_ladd F.1 F.2.1 dX10_tellsBoat_201 ?_
        refine lv_lstore (lv' := [(4, .long (((31 : Int64) * (((31 : Int64) * (((31 : Int64) * (((31 : Int64) * (((31 : Int64) * (((31 : Int64) * (((31 : Int64) * (((31 : Int64) * (((31 : Int64) * (((31 : Int64) * x4) + v4.toInt64)) + v7.toInt64)) + v10.toInt64)) + v13.toInt64)) + v16.toInt64)) + v19.toInt64)) + v22.toInt64)) + v25.toInt64)) + v28)) + v31)), (0, .ref (ad 64)), (3, .int x3), (6, .int x6)]) F.1 F.2.1 dX10_tellsBoat_202 hl (by decide) rfl (fun ls hl => ?_)
        refine lv_ldc2 (v := 31) F.1 F.2.1 F.2.2.2.1 (F.2.2.2.2 _ wm_k_RX10_275) dX10_tellsBoat_204 ?_
        refine lv_lload F.1 F.2.1 dX10_tellsBoat_207 (lv_at hl 0 rfl) ?_
        refine lv_lmul F.1 F.2.1 dX10_tellsBoat_209 ?_
        refine lv_aload_n F.1 F.2.1 dX10_tellsBoat_210 rfl (lv_at hl 1 rfl) ?_
        refine lv_bipush (v := 7) F.1 F.2.1 dX10_tellsBoat_211 (by decide) ?_
        refine lv_iconst (v := 4) F.1 F.2.1 dX10_tellsBoat_213 (by decide) ?_
        refine lv_iload_n F.1 F.2.1 dX10_tellsBoat_214 rfl (lv_at hl 2 rfl) ?_
        refine lv_iconst (v := 0) F.1 F.2.1 dX10_tellsBoat_215 (by decide) ?_
        obtain ⟨v34, σ33, hc32, h⟩ := bi_e h
        refine q_ci hB (q_goV F hE hB (k_X10_loadsOf hI σ30 (7 : Int32) (4 : Int32) x3 (0 : Int32) hc32) (ca_RX10_268 F.2.2.2.2 ⟨Nat.le_of_ble_eq_true rfl, Nat.le_of_ble_eq_true rfl⟩) rfl po_64 rfl hl.1 rfl (Nat.le_of_ble_eq_true rfl) dX10_tellsBoat_216 ⟨Nat.le_of_ble_eq_true rfl, Nat.le_of_ble_eq_true rfl⟩) (fun H locs hB => ?_)
        refine lv_i2l F.1 F.2.1 dX10_tellsBoat_219 rfl ?_
        refine lv_ladd F.1 F.2.1 dX10_tellsBoat_220 ?_
        refine lv_lstore (lv' := [(4, .long (((31 : Int64) * (((31 : Int64) * (((31 : Int64) * (((31 : Int64) * (((31 : Int64) * (((31 : Int64) * (((31 : Int64) * (((31 : Int64) * (((31 : Int64) * (((31 : Int64) * (((31 : Int64) * x4) + v4.toInt64)) + v7.toInt64)) + v10.toInt64)) + v13.toInt64)) + v16.toInt64)) + v19.toInt64)) + v22.toInt64)) + v25.toInt64)) + v28)) + v31)) + v34.toInt64)), (0, .ref (ad 64)), (3, .int x3), (6, .int x6)]) F.1 F.2.1 dX10_tellsBoat_221 hl (by decide) rfl (fun ls hl => ?_)
        refine lv_ldc2 (v := 31) F.1 F.2.1 F.2.2.2.1 (F.2.2.2.2 _ wm_k_RX10_275) dX10_tellsBoat_223 ?_
        refine lv_lload F.1 F.2.1 dX10_tellsBoat_226 (lv_at hl 0 rfl) ?_
        refine lv_lmul F.1 F.2.1 dX10_tellsBoat_228 ?_
        refine lv_aload_n F.1 F.2.1 dX10_tellsBoat_229 rfl (lv_at hl 1 rfl) ?_
        refine lv_bipush (v := 7) F.1 F.2.1 dX10_tellsBoat_230 (by decide) ?_
        refine lv_iconst (v := 4) F.1 F.2.1 dX10_tellsBoat_232 (by decide) ?_
        refine lv_iload_n F.1 F.2.1 dX10_tellsBoat_233 rfl (lv_at hl 2 rfl) ?_
        refine lv_iconst (v := 1) F.1 F.2.1 dX10_tellsBoat_234 (by decide) ?_
        obtain ⟨v37, σ36, hc35, h⟩ := bi_e h
        refine q_ci hB (q_goV F hE hB (k_X10_loadsOf hI σ33 (7 : Int32) (4 : Int32) x3 (1 : Int32) hc35) (ca_RX10_268 F.2.2.2.2 ⟨Nat.le_of_ble_eq_true rfl, Nat.le_of_ble_eq_true rfl⟩) rfl po_64 rfl hl.1 rfl (Nat.le_of_ble_eq_true rfl) dX10_tellsBoat_235 ⟨Nat.le_of_ble_eq_true rfl, Nat.le_of_ble_eq_true rfl⟩) (fun H locs hB => ?_)
        refine lv_i2l F.1 F.2.1 dX10_tellsBoat_238 rfl ?_
        refine lv_ladd F.1 F.2.1 dX10_tellsBoat_239 ?_
        exact q_lret F hlocks hr hB (so1 h) (so2 h) dX10_tellsBoat_240
      · replace h := ie_e c1 h
        refine lv_ldc2 (v := 31) F.1 F.2.1 F.2.2.2.1 (F.2.2.2.2 _ wm_k_RX10_275) dX10_tellsBoat_13 ?_
        refine lv_lload F.1 F.2.1 dX10_tellsBoat_16 (lv_at hl 2 rfl) ?_
        refine lv_lmul F.1 F.2.1 dX10_tellsBoat_18 ?_
        refine lv_aload_n F.1 F.2.1 dX10_tellsBoat_19 rfl (lv_at hl 0 rfl) ?_
        refine gf_RX10_31 F hE hB po_64 rfl dX10_tellsBoat_20 ?_
        refine lv_bipush (v := 7) F.1 F.2.1 dX10_tellsBoat_23 (by decide) ?_
        refine lv_iload_n F.1 F.2.1 dX10_tellsBoat_25 rfl (lv_at hl 1 rfl) ?_
        refine lv_imul F.1 F.2.1 dX10_tellsBoat_26 ?_
        refine lv_iload F.1 F.2.1 dX10_tellsBoat_27 (lv_at hl 3 rfl) ?_
        refine lv_iadd F.1 F.2.1 dX10_tellsBoat_29 ?_
        obtain ⟨hi38, h⟩ := ck_e h
        refine q_iald F hE hB po_72 hi38 dX10_tellsBoat_30 ?_
        refine lv_i2l F.1 F.2.1 dX10_tellsBoat_31 rfl ?_
        refine lv_ladd F.1 F.2.1 dX10_tellsBoat_32 ?_
        refine lv_lstore (lv' := [(4, .long (((31 : Int64) * x4) + (σ0.1 72 (((7 : Int32) * x3) + x6).toNatClampNeg).toInt64)), (0, .ref (ad 64)), (3, .int x3), (6, .int x6)]) F.1 F.2.1 dX10_tellsBoat_33 hl (by decide) rfl (fun ls hl => ?_)
        refine lv_iinc (v := (x6 + (1 : Int32))) (lv' := [(6, .int (x6 + (1 : Int32))), (4, .long (((31 : Int64) * x4) + (σ0.1 72 (((7 : Int32) * x3) + x6).toNatClampNeg).toInt64)), (0, .ref (ad 64)), (3, .int x3)]) F.1 F.2.1 dX10_tellsBoat_35 hl (k := 3) rfl rfl (by decide) rfl (fun ls hl => ?_)
        refine lv_goto (tgt := 6) F.1 F.2.1 dX10_tellsBoat_38 (by decide) ?_
        exact ih6 σ0 _ _ _ x3 (((31 : Int64) * x4) + (σ0.1 72 (((7 : Int32) * x3) + x6).toNatClampNeg).toInt64) (x6 + (1 : Int32)) h hB (lv_sub hl [2, 3, 1, 0] rfl)
  unfold f_X10_tellsBoat at h
  refine lv_lload_n F.1 F.2.1 dX10_tellsBoat_0 rfl (lv_at hl 1 rfl) ?_
  refine lv_lstore (lv' := [(4, .long a1), (0, .ref (ad 64)), (1, .long a1), (3, .int a3)]) F.1 F.2.1 dX10_tellsBoat_1 hl (by decide) rfl (fun ls hl => ?_)
  refine lv_iconst (v := 0) F.1 F.2.1 dX10_tellsBoat_3 (by decide) ?_
  refine lv_istore (lv' := [(6, .int (0 : Int32)), (4, .long a1), (0, .ref (ad 64)), (1, .long a1), (3, .int a3)]) F.1 F.2.1 dX10_tellsBoat_4 hl (by decide) rfl (fun ls hl => ?_)
  exact B6 300 σ0 _ _ _ a3 a1 (0 : Int32) h hB (lv_sub hl [2, 4, 1, 0] rfl)
