def f_X10_cargoOf_b105 (k96 : Mem → Int32 → Int32 → Int32 → Option (Int32 × Mem)) : Nat → Mem → Int32 → Int32 → Int32 → Int32 → Option (Int32 × Mem)
  | 0, _, _, _, _, _ => none
  | n105 + 1, σ0, x1, x2, x3, x4 => (if (6 : Int32) ≤ x4 then (k96 σ0 x1 x2 (x3 + (1 : Int32))) else (ck (((7 : Int32) * x1) + x3) 56 (ck (((7 : Int32) * x1) + x3) 56 (lt (ms σ0 72 (((7 : Int32) * x1) + x3).toNatClampNeg ((σ0.1 72 (((7 : Int32) * x1) + x3).toNatClampNeg) + (1 : Int32))) (fun σ10 => (ck (((7 : Int32) * x1) + x4) 56 (ck (((7 : Int32) * x1) + x4) 56 (lt (ms σ10 72 (((7 : Int32) * x1) + x4).toNatClampNeg ((σ10.1 72 (((7 : Int32) * x1) + x4).toNatClampNeg) + (1 : Int32))) (fun σ14 => (bi (f_X10_isThrough σ14 x1) (fun v18 σ17 => (ck (((7 : Int32) * x1) + x3) 56 (ck (((7 : Int32) * x1) + x3) 56 (lt (ms σ17 72 (((7 : Int32) * x1) + x3).toNatClampNeg ((σ17.1 72 (((7 : Int32) * x1) + x3).toNatClampNeg) - (1 : Int32))) (fun σ21 => (ck (((7 : Int32) * x1) + x4) 56 (ck (((7 : Int32) * x1) + x4) 56 (lt (ms σ21 72 (((7 : Int32) * x1) + x4).toNatClampNeg ((σ21.1 72 (((7 : Int32) * x1) + x4).toNatClampNeg) - (1 : Int32))) (fun σ25 => (if v18 = (0 : Int32) then (f_X10_cargoOf_b105 k96 n105 σ25 x1 x2 x3 (x4 + (1 : Int32))) else (if x2 = (-1 : Int32) then (some ((2 : Int32), σ25)) else (if x2 = (0 : Int32) then (some (x3, σ25)) else (some (x4, σ25))))))))))))))))))))))))
def f_X10_cargoOf_b96 : Nat → Mem → Int32 → Int32 → Int32 → Option (Int32 × Mem)
  | 0, _, _, _, _ => none
  | n96 + 1, σ0, x1, x2, x3 => (if (6 : Int32) ≤ x3 then (some ((-1 : Int32), σ0)) else (f_X10_cargoOf_b105 (f_X10_cargoOf_b96 n96) 300 σ0 x1 x2 x3 x3))
def f_X10_cargoOf_b21 : Nat → Mem → Int32 → Int32 → Int32 → Option (Int32 × Mem)
  | 0, _, _, _, _ => none
  | n21 + 1, σ0, x1, x2, x3 => (if (6 : Int32) ≤ x3 then (f_X10_cargoOf_b96 300 σ0 x1 x2 (0 : Int32)) else (ck (((7 : Int32) * x1) + x3) 56 (ck (((7 : Int32) * x1) + x3) 56 (lt (ms σ0 72 (((7 : Int32) * x1) + x3).toNatClampNeg ((σ0.1 72 (((7 : Int32) * x1) + x3).toNatClampNeg) + (1 : Int32))) (fun σ32 => (bi (f_X10_isThrough σ32 x1) (fun v36 σ35 => (ck (((7 : Int32) * x1) + x3) 56 (ck (((7 : Int32) * x1) + x3) 56 (lt (ms σ35 72 (((7 : Int32) * x1) + x3).toNatClampNeg ((σ35.1 72 (((7 : Int32) * x1) + x3).toNatClampNeg) - (1 : Int32))) (fun σ39 => (if v36 = (0 : Int32) then (f_X10_cargoOf_b21 n21 σ39 x1 x2 (x3 + (1 : Int32))) else (if x2 = (-1 : Int32) then (some ((1 : Int32), σ39)) else (if x2 = (0 : Int32) then (some (x3, σ39)) else (some ((-1 : Int32), σ39))))))))))))))))
def f_X10_cargoOf (σ0 : Mem) (a1 : Int32) (a2 : Int32) : Option (Int32 × Mem) := (bi (f_X10_isThrough σ0 a1) (fun v3 σ2 => (if v3 = (0 : Int32) then (f_X10_cargoOf_b21 300 σ2 a1 a2 (0 : Int32)) else (if a2 = (-1 : Int32) then (some ((0 : Int32), σ2)) else (some ((-1 : Int32), σ2))))))
set_option maxHeartbeats 4000000 in
set_option maxRecDepth 100000 in
theorem k_X10_cargoOf {l : Launch} {D : va_G} {cy : Nat → ClassId} {ad : Nat → Nat} {ta tb : Nat} (hI : AdI ad) (σ0 : Mem) (a1 : Int32) (a2 : Int32) {o : Int32 × Mem} (h : f_X10_cargoOf σ0 a1 a2 = some o) : Met l yX10_cargoOf (Cond.code yX10_cargoOf cX10_cargoOf 6 (some .int) :: wG) rm_X10_cargoOf (CP D cy ad ta tb σ0 [.ref (ad 64), .int a1, .int a2]) (CQi D cy ad o.1 o.2) 0 0 (AA ad) := by
  refine Met.ofW (cc := cX10_cargoOf) (maxL := 6) (ret := (some .int)) (by decide) rfl ?_
  intro p e s m args below meth c s₁ B hml hv
  obtain ⟨rfl, hE, hP⟩ := hv
  have hts := atoms_spec (ws := Cond.code yX10_cargoOf cX10_cargoOf 6 (some .int) :: wG) B.pre
  have F : CallFix p m c cX10_cargoOf 6 s _ wG RX10 := ⟨B.exec, B.bytes, hml, findClass_of_methodNamed B.named, fun w hw => hts w (List.mem_cons_of_mem _ hw)⟩
  have hr := B.returns
  have hlocks := B.notSynchronized
  have hB : Bd D cy ad σ0 s.heap s.heap [] := ⟨hP, va_S.rf⟩
  have hl := lv_entry ([.ref (ad 64), .int a1, .int a2] : List Value) (n := 6) (Nat.le_of_ble_eq_true rfl)
  rw [lg_entry_eq]
  generalize (lg_sl ([.ref (ad 64), .int a1, .int a2] : List Value) ++ List.replicate (6 - (lg_sl ([.ref (ad 64), .int a1, .int a2] : List Value)).length) Slot.unset).toArray = ls at hl ⊢
  have hl : lv_has ls 6 [(0, .ref (ad 64)), (1, .int a1), (2, .int a2)] := hl
  have B96 : ∀ (n96 : Nat) (σ0 : Mem) (H : Heap) (locs : List Loc) (ls : Array Slot) (x1 : Int32) (x2 : Int32) (x3 : Int32), f_X10_cargoOf_b96 n96 σ0 x1 x2 x3 = some o → Bd D cy ad σ0 s.heap H locs → lv_has ls 6 [(0, .ref (ad 64)), (1, .int x1), (2, .int x2), (3, .int x3)] → W p l e rm_X10_cargoOf s m ([.ref (ad 64), .int a1, .int a2] : List Value).toArray below meth c H locs 0 0 (MQ below (CQi D cy ad o.1 o.2) ([.ref (ad 64), .int a1, .int a2] : List Value).toArray s 0 0 (AA ad)) (F0 m 96 ls []) := by
    intro n96
    induction n96 with
    | zero => intro σ0 H locs ls x1 x2 x3 h hB hl; cases h
    | succ n96 ih96 =>
      have B105 : ∀ (n105 : Nat) (σ0 : Mem) (H : Heap) (locs : List Loc) (ls : Array Slot) (x1 : Int32) (x2 : Int32) (x3 : Int32) (x4 : Int32), f_X10_cargoOf_b105 (f_X10_cargoOf_b96 n96) n105 σ0 x1 x2 x3 x4 = some o → Bd D cy ad σ0 s.heap H locs → lv_has ls 6 [(0, .ref (ad 64)), (1, .int x1), (2, .int x2), (3, .int x3), (4, .int x4)] → W p l e rm_X10_cargoOf s m ([.ref (ad 64), .int a1, .int a2] : List Value).toArray below meth c H locs 0 0 (MQ below (CQi D cy ad o.1 o.2) ([.ref (ad 64), .int a1, .int a2] : List Value).toArray s 0 0 (AA ad)) (F0 m 105 ls []) := by
        intro n105
        induction n105 with
        | zero => intro σ0 H locs ls x1 x2 x3 x4 h hB hl; cases h
        | succ n105 ih105 =>
          intro σ0 H locs ls x1 x2 x3 x4 h hB hl
          rw [f_X10_cargoOf_b105] at h
          refine lv_iload F.1 F.2.1 dX10_cargoOf_105 (lv_at hl 4 rfl) ?_
          refine lv_bipush (v := 6) F.1 F.2.1 dX10_cargoOf_107 (by decide) ?_
          refine lv_icmp_ge (tgt := 212) F.1 F.2.1 dX10_cargoOf_109 (by decide) (fun c7 => ?_) (fun c7 => ?_)
          · replace h := it_e c7 h
            refine lv_iinc (v := (x3 + (1 : Int32))) (lv' := [(3, .int (x3 + (1 : Int32))), (0, .ref (ad 64)), (1, .int x1), (2, .int x2), (4, .int x4)]) F.1 F.2.1 dX10_cargoOf_212 hl (k := 3) rfl rfl (by decide) rfl (fun ls hl => ?_)
            refine lv_goto (tgt := 96) F.1 F.2.1 dX10_cargoOf_215 (by decide) ?_
            exact ih96 σ0 _ _ _ x1 x2 (x3 + (1 : Int32)) h hB (lv_sub hl [1, 2, 3, 0] rfl)
          · replace h := ie_e c7 h
            refine lv_aload_n F.1 F.2.1 dX10_cargoOf_112 rfl (lv_at hl 0 rfl) ?_
            refine gf_RX10_31 F hE hB po_64 rfl dX10_cargoOf_113 ?_
            refine lv_bipush (v := 7) F.1 F.2.1 dX10_cargoOf_116 (by decide) ?_
            refine lv_iload_n F.1 F.2.1 dX10_cargoOf_118 rfl (lv_at hl 1 rfl) ?_
            refine lv_imul F.1 F.2.1 dX10_cargoOf_119 ?_
            refine lv_iload_n F.1 F.2.1 dX10_cargoOf_120 rfl (lv_at hl 3 rfl) ?_
            refine lv_iadd F.1 F.2.1 dX10_cargoOf_121 ?_
            refine lv_dup2_11 F.1 F.2.1 dX10_cargoOf_122 rfl rfl ?_
            obtain ⟨hi8, h⟩ := ck_e h
            refine q_iald F hE hB po_72 hi8 dX10_cargoOf_123 ?_
            refine lv_iconst (v := 1) F.1 F.2.1 dX10_cargoOf_124 (by decide) ?_
            refine lv_iadd F.1 F.2.1 dX10_cargoOf_125 ?_
            obtain ⟨hi9, h⟩ := ck_e h
            obtain ⟨σ10, e11, h⟩ := lt_e h
            refine q_iast F hE hI hB row_72 hi9 dX10_cargoOf_126 e11 (fun H locs hB => ?_)
            refine lv_aload_n F.1 F.2.1 dX10_cargoOf_127 rfl (lv_at hl 0 rfl) ?_
            refine gf_RX10_31 F hE hB po_64 rfl dX10_cargoOf_128 ?_
            refine lv_bipush (v := 7) F.1 F.2.1 dX10_cargoOf_131 (by decide) ?_
            refine lv_iload_n F.1 F.2.1 dX10_cargoOf_133 rfl (lv_at hl 1 rfl) ?_
            refine lv_imul F.1 F.2.1 dX10_cargoOf_134 ?_
            refine lv_iload F.1 F.2.1 dX10_cargoOf_135 (lv_at hl 4 rfl) ?_
            refine lv_iadd F.1 F.2.1 dX10_cargoOf_137 ?_
            refine lv_dup2_11 F.1 F.2.1 dX10_cargoOf_138 rfl rfl ?_
            obtain ⟨hi12, h⟩ := ck_e h
            refine q_iald F hE hB po_72 hi12 dX10_cargoOf_139 ?_
            refine lv_iconst (v := 1) F.1 F.2.1 dX10_cargoOf_140 (by decide) ?_
            refine lv_iadd F.1 F.2.1 dX10_cargoOf_141 ?_
            obtain ⟨hi13, h⟩ := ck_e h
            obtain ⟨σ14, e15, h⟩ := lt_e h
            refine q_iast F hE hI hB row_72 hi13 dX10_cargoOf_142 e15 (fun H locs hB => ?_)
            refine lv_aload_n F.1 F.2.1 dX10_cargoOf_143 rfl (lv_at hl 0 rfl) ?_
            refine lv_iload_n F.1 F.2.1 dX10_cargoOf_144 rfl (lv_at hl 1 rfl) ?_
            obtain ⟨v18, σ17, hc16, h⟩ := bi_e h
            refine q_ci hB (q_goV F hE hB (k_X10_isThrough hI σ14 x1 hc16) (ca_RX10_209 F.2.2.2.2 ⟨Nat.le_of_ble_eq_true rfl, Nat.le_of_ble_eq_true rfl⟩) rfl po_64 rfl hl.1 rfl (Nat.le_of_ble_eq_true rfl) dX10_cargoOf_145 ⟨Nat.le_of_ble_eq_true rfl, Nat.le_of_ble_eq_true rfl⟩) (fun H locs hB => ?_)
            refine lv_istore (lv' := [(5, .int v18), (0, .ref (ad 64)), (1, .int x1), (2, .int x2), (3, .int x3), (4, .int x4)]) F.1 F.2.1 dX10_cargoOf_148 hl (by decide) rfl (fun ls hl => ?_)
            refine lv_aload_n F.1 F.2.1 dX10_cargoOf_150 rfl (lv_at hl 1 rfl) ?_
            refine gf_RX10_31 F hE hB po_64 rfl dX10_cargoOf_151 ?_
            refine lv_bipush (v := 7) F.1 F.2.1 dX10_cargoOf_154 (by decide) ?_
            refine lv_iload_n F.1 F.2.1 dX10_cargoOf_156 rfl (lv_at hl 2 rfl) ?_
            refine lv_imul F.1 F.2.1 dX10_cargoOf_157 ?_
            refine lv_iload_n F.1 F.2.1 dX10_cargoOf_158 rfl (lv_at hl 4 rfl) ?_
            refine lv_iadd F.1 F.2.1 dX10_cargoOf_159 ?_
            refine lv_dup2_11 F.1 F.2.1 dX10_cargoOf_160 rfl rfl ?_
            obtain ⟨hi19, h⟩ := ck_e h
            refine q_iald F hE hB po_72 hi19 dX10_cargoOf_161 ?_
            refine lv_iconst (v := 1) F.1 F.2.1 dX10_cargoOf_162 (by decide) ?_
            refine lv_isub F.1 F.2.1 dX10_cargoOf_163 ?_
            obtain ⟨hi20, h⟩ := ck_e h
            obtain ⟨σ21, e22, h⟩ := lt_e h
            refine q_iast F hE hI hB row_72 hi20 dX10_cargoOf_164 e22 (fun H locs hB => ?_)
            refine lv_aload_n F.1 F.2.1 dX10_cargoOf_165 rfl (lv_at hl 1 rfl) ?_
            refine gf_RX10_31 F hE hB po_64 rfl dX10_cargoOf_166 ?_
            refine lv_bipush (v := 7) F.1 F.2.1 dX10_cargoOf_169 (by decide) ?_
            refine lv_iload_n F.1 F.2.1 dX10_cargoOf_171 rfl (lv_at hl 2 rfl) ?_
            refine lv_imul F.1 F.2.1 dX10_cargoOf_172 ?_
            refine lv_iload F.1 F.2.1 dX10_cargoOf_173 (lv_at hl 5 rfl) ?_
            refine lv_iadd F.1 F.2.1 dX10_cargoOf_175 ?_
            refine lv_dup2_11 F.1 F.2.1 dX10_cargoOf_176 rfl rfl ?_
            obtain ⟨hi23, h⟩ := ck_e h
            refine q_iald F hE hB po_72 hi23 dX10_cargoOf_177 ?_
            refine lv_iconst (v := 1) F.1 F.2.1 dX10_cargoOf_178 (by decide) ?_
            refine lv_isub F.1 F.2.1 dX10_cargoOf_179 ?_
            obtain ⟨hi24, h⟩ := ck_e h
            obtain ⟨σ25, e26, h⟩ := lt_e h
            refine q_iast F hE hI hB row_72 hi24 dX10_cargoOf_180 e26 (fun H locs hB => ?_)
            refine lv_iload F.1 F.2.1 dX10_cargoOf_181 (lv_at hl 0 rfl) ?_
            refine lv_if_eq (tgt := 206) F.1 F.2.1 dX10_cargoOf_183 (by decide) (fun c27 => ?_) (fun c27 => ?_)
            · replace h := it_e c27 h
              refine lv_iinc (v := (x4 + (1 : Int32))) (lv' := [(4, .int (x4 + (1 : Int32))), (5, .int v18), (0, .ref (ad 64)), (1, .int x1), (2, .int x2), (3, .int x3)]) F.1 F.2.1 dX10_cargoOf_206 hl (k := 5) rfl rfl (by decide) rfl (fun ls hl => ?_)
              refine lv_goto (tgt := 105) F.1 F.2.1 dX10_cargoOf_209 (by decide) ?_
              exact ih105 σ25 _ _ _ x1 x2 x3 (x4 + (1 : Int32)) h hB (lv_sub hl [2, 3, 4, 5, 0] rfl)
            · replace h := ie_e c27 h
              refine lv_iload_n F.1 F.2.1 dX10_cargoOf_186 rfl (lv_at hl 3 rfl) ?_
              refine lv_iconst (v := (-1)) F.1 F.2.1 dX10_cargoOf_187 (by decide) ?_
              refine lv_icmp_ne (tgt := 195) F.1 F.2.1 dX10_cargoOf_188 (by decide) (fun c28 => ?_) (fun c28 => ?_)
              · replace h := ie_e c28 h
                refine lv_iload_n F.1 F.2.1 dX10_cargoOf_195 rfl (lv_at hl 3 rfl) ?_
                refine lv_if_ne (tgt := 203) F.1 F.2.1 dX10_cargoOf_196 (by decide) (fun c29 => ?_) (fun c29 => ?_)
                · replace h := ie_e c29 h
                  refine lv_iload F.1 F.2.1 dX10_cargoOf_203 (lv_at hl 5 rfl) ?_
                  exact q_iret F hlocks hr hB (so1 h) (so2 h) dX10_cargoOf_205
                · replace h := it_e c29 h
                  refine lv_iload_n F.1 F.2.1 dX10_cargoOf_199 rfl (lv_at hl 4 rfl) ?_
                  refine lv_goto (tgt := 205) F.1 F.2.1 dX10_cargoOf_200 (by decide) ?_
                  exact q_iret F hlocks hr hB (so1 h) (so2 h) dX10_cargoOf_205
              · replace h := it_e c28 h
                refine lv_iconst (v := 2) F.1 F.2.1 dX10_cargoOf_191 (by decide) ?_
                refine lv_goto (tgt := 205) F.1 F.2.1 dX10_cargoOf_192 (by decide) ?_
                exact q_iret F hlocks hr hB (so1 h) (so2 h) dX10_cargoOf_205
      intro σ0 H locs ls x1 x2 x3 h hB hl
      rw [f_X10_cargoOf_b96] at h
      refine lv_iload_n F.1 F.2.1 dX10_cargoOf_96 rfl (lv_at hl 3 rfl) ?_
      refine lv_bipush (v := 6) F.1 F.2.1 dX10_cargoOf_97 (by decide) ?_
      refine lv_icmp_ge (tgt := 218) F.1 F.2.1 dX10_cargoOf_99 (by decide) (fun c6 => ?_) (fun c6 => ?_)
      · replace h := it_e c6 h
        refine lv_iconst (v := (-1)) F.1 F.2.1 dX10_cargoOf_218 (by decide) ?_
        exact q_iret F hlocks hr hB (so1 h) (so2 h) dX10_cargoOf_219
      · replace h := ie_e c6 h
        refine lv_iload_n F.1 F.2.1 dX10_cargoOf_102 rfl (lv_at hl 3 rfl) ?_
        refine lv_istore (lv' := [(4, .int x3), (0, .ref (ad 64)), (1, .int x1), (2, .int x2), (3, .int x3)]) F.1 F.2.1 dX10_cargoOf_103 hl (by decide) rfl (fun ls hl => ?_)
        exact B105 300 σ0 _ _ _ x1 x2 x3 x3 h hB (lv_sub hl [1, 2, 3, 4, 0] rfl)
  have B21 : ∀ (n21 : Nat) (σ0 : Mem) (H : Heap) (locs : List Loc) (ls : Array Slot) (x1 : Int32) (x2 : Int32) (x3 : Int32), f_X10_cargoOf_b21 n21 σ0 x1 x2 x3 = some o → Bd D cy ad σ0 s.heap H locs → lv_has ls 6 [(0, .ref (ad 64)), (1, .int x1), (2, .int x2), (3, .int x3)] → W p l e rm_X10_cargoOf s m ([.ref (ad 64), .int a1, .int a2] : List Value).toArray below meth c H locs 0 0 (MQ below (CQi D cy ad o.1 o.2) ([.ref (ad 64), .int a1, .int a2] : List Value).toArray s 0 0 (AA ad)) (F0 m 21 ls []) := by
    intro n21
    induction n21 with
    | zero => intro σ0 H locs ls x1 x2 x3 h hB hl; cases h
    | succ n21 ih21 =>
      intro σ0 H locs ls x1 x2 x3 h hB hl
      rw [f_X10_cargoOf_b21] at h
      refine lv_iload_n F.1 F.2.1 dX10_cargoOf_21 rfl (lv_at hl 3 rfl) ?_
      refine lv_bipush (v := 6) F.1 F.2.1 dX10_cargoOf_22 (by decide) ?_
      refine lv_icmp_ge (tgt := 94) F.1 F.2.1 dX10_cargoOf_24 (by decide) (fun c5 => ?_) (fun c5 => ?_)
      · replace h := it_e c5 h
        refine lv_iconst (v := 0) F.1 F.2.1 dX10_cargoOf_94 (by decide) ?_
        refine lv_istore_n (lv' := [(3, .int (0 : Int32)), (0, .ref (ad 64)), (1, .int x1), (2, .int x2)]) F.1 F.2.1 dX10_cargoOf_95 rfl hl (by decide) rfl (fun ls hl => ?_)
        exact B96 300 σ0 _ _ _ x1 x2 (0 : Int32) h hB (lv_sub hl [1, 2, 3, 0] rfl)
      · replace h := ie_e c5 h
        refine lv_aload_n F.1 F.2.1 dX10_cargoOf_27 rfl (lv_at hl 0 rfl) ?_
        refine gf_RX10_31 F hE hB po_64 rfl dX10_cargoOf_28 ?_
        refine lv_bipush (v := 7) F.1 F.2.1 dX10_cargoOf_31 (by decide) ?_
        refine lv_iload_n F.1 F.2.1 dX10_cargoOf_33 rfl (lv_at hl 1 rfl) ?_
        refine lv_imul F.1 F.2.1 dX10_cargoOf_34 ?_
        refine lv_iload_n F.1 F.2.1 dX10_cargoOf_35 rfl (lv_at hl 3 rfl) ?_
        refine lv_iadd F.1 F.2.1 dX10_cargoOf_36 ?_
        refine lv_dup2_11 F.1 F.2.1 dX10_cargoOf_37 rfl rfl ?_
        obtain ⟨hi30, h⟩ := ck_e h
        refine q_iald F hE hB po_72 hi30 dX10_cargoOf_38 ?_
        refine lv_iconst (v := 1) F.1 F.2.1 dX10_cargoOf_39 (by decide) ?_
        refine lv_iadd F.1 F.2.1 dX10_cargoOf_40 ?_
        obtain ⟨hi31, h⟩ := ck_e h
        obtain ⟨σ32, e33, h⟩ := lt_e h
        refine q_iast F hE hI hB row_72 hi31 dX10_cargoOf_41 e33 (fun H locs hB => ?_)
        refine lv_aload_n F.1 F.2.1 dX10_cargoOf_42 rfl (lv_at hl 0 rfl) ?_
        refine lv_iload_n F.1 F.2.1 dX10_cargoOf_43 rfl (lv_at hl 1 rfl) ?_
        obtain ⟨v36, σ35, hc34, h⟩ := bi_e h
        refine q_ci hB (q_goV F hE hB (k_X10_isThrough hI σ32 x1 hc34) (ca_RX10_209 F.2.2.2.2 ⟨Nat.le_of_ble_eq_true rfl, Nat.le_of_ble_eq_true rfl⟩) rfl po_64 rfl hl.1 rfl (Nat.le_of_ble_eq_true rfl) dX10_cargoOf_44 ⟨Nat.le_of_ble_eq_true rfl, Nat.le_of_ble_eq_true rfl⟩) (fun H locs hB => ?_)
        refine lv_istore (lv' := [(4, .int v36), (0, .ref (ad 64)), (1, .int x1), (2, .int x2), (3, .int x3)]) F.1 F.2.1 dX10_cargoOf_47 hl (by decide) rfl (fun ls hl => ?_)
        refine lv_aload_n F.1 F.2.1 dX10_cargoOf_49 rfl (lv_at hl 1 rfl) ?_
        refine gf_RX10_31 F hE hB po_64 rfl dX10_cargoOf_50 ?_
        refine lv_bipush (v := 7) F.1 F.2.1 dX10_cargoOf_53 (by decide) ?_
        refine lv_iload_n F.1 F.2.1 dX10_cargoOf_55 rfl (lv_at hl 2 rfl) ?_
        refine lv_imul F.1 F.2.1 dX10_cargoOf_56 ?_
        refine lv_iload_n F.1 F.2.1 dX10_cargoOf_57 rfl (lv_at hl 4 rfl) ?_
        refine lv_iadd F.1 F.2.1 dX10_cargoOf_58 ?_
        refine lv_dup2_11 F.1 F.2.1 dX10_cargoOf_59 rfl rfl ?_
        obtain ⟨hi37, h⟩ := ck_e h
        refine q_iald F hE hB po_72 hi37 dX10_cargoOf_60 ?_
        refine lv_iconst (v := 1) F.1 F.2.1 dX10_cargoOf_61 (by decide) ?_
        refine lv_isub F.1 F.2.1 dX10_cargoOf_62 ?_
        obtain ⟨hi38, h⟩ := ck_e h
        obtain ⟨σ39, e40, h⟩ := lt_e h
        refine q_iast F hE hI hB row_72 hi38 dX10_cargoOf_63 e40 (fun H locs hB => ?_)
        refine lv_iload F.1 F.2.1 dX10_cargoOf_64 (lv_at hl 0 rfl) ?_
        refine lv_if_eq (tgt := 88) F.1 F.2.1 dX10_cargoOf_66 (by decide) (fun c41 => ?_) (fun c41 => ?_)
        · replace h := it_e c41 h
          refine lv_iinc (v := (x3 + (1 : Int32))) (lv' := [(3, .int (x3 + (1 : Int32))), (4, .int v36), (0, .ref (ad 64)), (1, .int x1), (2, .int x2)]) F.1 F.2.1 dX10_cargoOf_88 hl (k := 4) rfl rfl (by decide) rfl (fun ls hl => ?_)
          refine lv_goto (tgt := 21) F.1 F.2.1 dX10_cargoOf_91 (by decide) ?_
          exact ih21 σ39 _ _ _ x1 x2 (x3 + (1 : Int32)) h hB (lv_sub hl [2, 3, 4, 0] rfl)
        · replace h := ie_e c41 h
          refine lv_iload_n F.1 F.2.1 dX10_cargoOf_69 rfl (lv_at hl 3 rfl) ?_
          refine lv_iconst (v := (-1)) F.1 F.2.1 dX10_cargoOf_70 (by decide) ?_
          refine lv_icmp_ne (tgt := 78) F.1 F.2.1 dX10_cargoOf_71 (by decide) (fun c42 => ?_) (fun c42 => ?_)
          · replace h := ie_e c42 h
            refine lv_iload_n F.1 F.2.1 dX10_cargoOf_78 rfl (lv_at hl 3 rfl) ?_
            refine lv_if_ne (tgt := 86) F.1 F.2.1 dX10_cargoOf_79 (by decide) (fun c43 => ?_) (fun c43 => ?_)
            · replace h := ie_e c43 h
              refine lv_iconst (v := (-1)) F.1 F.2.1 dX10_cargoOf_86 (by decide) ?_
              exact q_iret F hlocks hr hB (so1 h) (so2 h) dX10_cargoOf_87
            · replace h := it_e c43 h
              refine lv_iload_n F.1 F.2.1 dX10_cargoOf_82 rfl (lv_at hl 4 rfl) ?_
              refine lv_goto (tgt := 87) F.1 F.2.1 dX10_cargoOf_83 (by decide) ?_
              exact q_iret F hlocks hr hB (so1 h) (so2 h) dX10_cargoOf_87
          · replace h := it_e c42 h
            refine lv_iconst (v := 1) F.1 F.2.1 dX10_cargoOf_74 (by decide) ?_
            refine lv_goto (tgt := 87) F.1 F.2.1 dX10_cargoOf_75 (by decide) ?_
            exact q_iret F hlocks hr hB (so1 h) (so2 h) dX10_cargoOf_87
  unfold f_X10_cargoOf at h
  refine lv_aload_n F.1 F.2.1 dX10_cargoOf_0 rfl (lv_at hl 0 rfl) ?_
  refine lv_iload_n F.1 F.2.1 dX10_cargoOf_1 rfl (lv_at hl 1 rfl) ?_
  obtain ⟨v3, σ2, hc1, h⟩ := bi_e h
  refine q_ci hB (q_goV F hE hB (k_X10_isThrough hI σ0 a1 hc1) (ca_RX10_209 F.2.2.2.2 ⟨Nat.le_of_ble_eq_true rfl, Nat.le_of_ble_eq_true rfl⟩) rfl po_64 rfl hl.1 rfl (Nat.le_of_ble_eq_true rfl) dX10_cargoOf_2 ⟨Nat.le_of_ble_eq_true rfl, Nat.le_of_ble_eq_true rfl⟩) (fun H locs hB => ?_)
  refine lv_if_eq (tgt := 19) F.1 F.2.1 dX10_cargoOf_5 (by decide) (fun c4 => ?_) (fun c4 => ?_)
  · replace h := it_e c4 h
    refine lv_iconst (v := 0) F.1 F.2.1 dX10_cargoOf_19 (by decide) ?_
    refine lv_istore_n (lv' := [(3, .int (0 : Int32)), (0, .ref (ad 64)), (1, .int a1), (2, .int a2)]) F.1 F.2.1 dX10_cargoOf_20 rfl hl (by decide) rfl (fun ls hl => ?_)
    exact B21 300 σ2 _ _ _ a1 a2 (0 : Int32) h hB (lv_sub hl [1, 2, 3, 0] rfl)
  · replace h := ie_e c4 h
    refine lv_iload_n F.1 F.2.1 dX10_cargoOf_8 rfl (lv_at hl 2 rfl) ?_
    refine lv_iconst (v := (-1)) F.1 F.2.1 dX10_cargoOf_9 (by decide) ?_
    refine lv_icmp_ne (tgt := 17) F.1 F.2.1 dX10_cargoOf_10 (by decide) (fun c44 => ?_) (fun c44 => ?_)
    · replace h := ie_e c44 h
      refine lv_iconst (v := (-1)) F.1 F.2.1 dX10_cargoOf_17 (by decide) ?_
      exact q_iret F hlocks hr hB (so1 h) (so2 h) dX10_cargoOf_18
    · replace h := it_e c44 h
      refine lv_iconst (v := 0) F.1 F.2.1 dX10_cargoOf_13 (by decide) ?_
      refine lv_goto (tgt := 18) F.1 F.2.1 dX10_cargoOf_14 (by decide) ?_
      exact q_iret F hlocks hr hB (so1 h) (so2 h) dX10_cargoOf_18
def f_X10_cargo (σ0 : Mem) (a1 : Int32) (a2 : Int32) : Option (Int32 × Mem) := (bv (f_X10_find σ0) (fun σ2 => (bp (f_X10_isBoat σ2 a1) (fun v4 => (if v4 = (0 : Int32) then (some ((-2 : Int32), σ2)) else (bp (f_X10_in σ2 a2.toInt64 (-1 : Int64) (1 : Int64)) (fun v7 => (if v7 = (0 : Int32) then (some ((-2 : Int32), σ2)) else (bi (f_X10_cargoOf σ2 a1 a2) (fun v11 σ10 => (some (v11, σ10))))))))))))
set_option maxHeartbeats 4000000 in
set_option maxRecDepth 100000 in
theorem k_X10_cargo {l : Launch} {D : va_G} {cy : Nat → ClassId} {ad : Nat → Nat} {ta tb : Nat} (hI : AdI ad) (σ0 : Mem) (a1 : Int32) (a2 : Int32) {o : Int32 × Mem} (h : f_X10_cargo σ0 a1 a2 = some o) : Met l yX10_cargo (Cond.code yX10_cargo cX10_cargo 3 (some .int) :: wG) rm_X10_cargo (CP D cy ad ta tb σ0 [.ref (ad 64), .int a1, .int a2]) (CQi D cy ad o.1 o.2) 0 0 (AA ad) := by
  refine Met.ofW (cc := cX10_cargo) (maxL := 3) (ret := (some .int)) (by decide) rfl ?_
  intro p e s m args below meth c s₁ B hml hv
  obtain ⟨rfl, hE, hP⟩ := hv
  have hts := atoms_spec (ws := Cond.code yX10_cargo cX10_cargo 3 (some .int) :: wG) B.pre
  have F : CallFix p m c cX10_cargo 3 s _ wG RX10 := ⟨B.exec, B.bytes, hml, findClass_of_methodNamed B.named, fun w hw => hts w (List.mem_cons_of_mem _ hw)⟩
  have hr := B.returns
  have hlocks := B.notSynchronized
  have hB : Bd D cy ad σ0 s.heap s.heap [] := ⟨hP, va_S.rf⟩
  have hl := lv_entry ([.ref (ad 64), .int a1, .int a2] : List Value) (n := 3) (Nat.le_of_ble_eq_true rfl)
  rw [lg_entry_eq]
  generalize (lg_sl ([.ref (ad 64), .int a1, .int a2] : List Value) ++ List.replicate (3 - (lg_sl ([.ref (ad 64), .int a1, .int a2] : List Value)).length) Slot.unset).toArray = ls at hl ⊢
  have hl : lv_has ls 3 [(0, .ref (ad 64)), (1, .int a1), (2, .int a2)] := hl
  unfold f_X10_cargo at h
  refine lv_aload_n F.1 F.2.1 dX10_cargo_0 rfl (lv_at hl 0 rfl) ?_
  obtain ⟨σ2, hc1, h⟩ := bv_e h
  refine q_cv hB (q_goV F hE hB (k_X10_find hI σ0 hc1) (ca_RX10_129 F.2.2.2.2 ⟨Nat.le_of_ble_eq_true rfl, Nat.le_of_ble_eq_true rfl⟩) rfl po_64 rfl hl.1 rfl (Nat.le_of_ble_eq_true rfl) dX10_cargo_1 ⟨Nat.le_of_ble_eq_true rfl, Nat.le_of_ble_eq_true rfl⟩) (fun H locs hB => ?_)
  refine lv_aload_n F.1 F.2.1 dX10_cargo_4 rfl (lv_at hl 0 rfl) ?_
  refine lv_iload_n F.1 F.2.1 dX10_cargo_5 rfl (lv_at hl 1 rfl) ?_
  obtain ⟨v4, hc3, h⟩ := bp_e h
  refine q_ci hB (q_goV F hE hB (k_X10_isBoat hI σ2 a1 hc3) (ca_RX10_135 F.2.2.2.2 ⟨Nat.le_of_ble_eq_true rfl, Nat.le_of_ble_eq_true rfl⟩) rfl po_64 rfl hl.1 rfl (Nat.le_of_ble_eq_true rfl) dX10_cargo_6 ⟨Nat.le_of_ble_eq_true rfl, Nat.le_of_ble_eq_true rfl⟩) (fun H locs hB => ?_)
  refine lv_if_eq (tgt := 33) F.1 F.2.1 dX10_cargo_9 (by decide) (fun c5 => ?_) (fun c5 => ?_)
  · replace h := it_e c5 h
    refine lv_bipush (v := (-2)) F.1 F.2.1 dX10_cargo_33 (by decide) ?_
    exact q_iret F hlocks hr hB (so1 h) (so2 h) dX10_cargo_35
  · replace h := ie_e c5 h
    refine lv_iload_n F.1 F.2.1 dX10_cargo_12 rfl (lv_at hl 2 rfl) ?_
    refine lv_i2l F.1 F.2.1 dX10_cargo_13 rfl ?_
    refine lv_ldc2 (v := (-1)) F.1 F.2.1 F.2.2.2.1 (F.2.2.2.2 _ wm_k_RX10_212) dX10_cargo_14 ?_
    refine lv_lconst (v := 1) F.1 F.2.1 dX10_cargo_17 (by decide) ?_
    obtain ⟨v7, hc6, h⟩ := bp_e h
    refine q_ci hB (q_goS F hE hB (k_X10_in hI σ2 a2.toInt64 (-1 : Int64) (1 : Int64) hc6) (ca_RX10_64 F.2.2.2.2 ⟨Nat.le_of_ble_eq_true rfl, Nat.le_of_ble_eq_true rfl⟩) rfl hl.1 rfl (Nat.le_of_ble_eq_true rfl) dX10_cargo_18 ⟨Nat.le_of_ble_eq_true rfl, Nat.le_of_ble_eq_true rfl⟩) (fun H locs hB => ?_)
    refine lv_if_eq (tgt := 33) F.1 F.2.1 dX10_cargo_21 (by decide) (fun c8 => ?_) (fun c8 => ?_)
    · replace h := it_e c8 h
      refine lv_bipush (v := (-2)) F.1 F.2.1 dX10_cargo_33 (by decide) ?_
      exact q_iret F hlocks hr hB (so1 h) (so2 h) dX10_cargo_35
    · replace h := ie_e c8 h
      refine lv_aload_n F.1 F.2.1 dX10_cargo_24 rfl (lv_at hl 0 rfl) ?_
      refine lv_iload_n F.1 F.2.1 dX10_cargo_25 rfl (lv_at hl 1 rfl) ?_
      refine lv_iload_n F.1 F.2.1 dX10_cargo_26 rfl (lv_at hl 2 rfl) ?_
      obtain ⟨v11, σ10, hc9, h⟩ := bi_e h
      refine q_ci hB (q_goV F hE hB (k_X10_cargoOf hI σ2 a1 a2 hc9) (ca_RX10_214 F.2.2.2.2 ⟨Nat.le_of_ble_eq_true rfl, Nat.le_of_ble_eq_true rfl⟩) rfl po_64 rfl hl.1 rfl (Nat.le_of_ble_eq_true rfl) dX10_cargo_27 ⟨Nat.le_of_ble_eq_true rfl, Nat.le_of_ble_eq_true rfl⟩) (fun H locs hB => ?_)
      refine lv_goto (tgt := 35) F.1 F.2.1 dX10_cargo_30 (by decide) ?_
      exact q_iret F hlocks hr hB (so1 h) (so2 h) dX10_cargo_35
def f_X10_sailOf_b101 (k22 : Mem → Int32 → Int32 → Int32 → Int32 → Int32 → Int32 → Option (Int32 × Mem)) (σ0 : Mem) (x1 : Int32) (x2 : Int32) (x3 : Int32) (x4 : Int32) (x6 : Int32) (y0 : Int32) : Option (Int32 × Mem) := (k22 σ0 x1 x2 x3 x4 y0 (x6 + (1 : Int32)))
def f_X10_sailOf_b87 (k22 : Mem → Int32 → Int32 → Int32 → Int32 → Int32 → Int32 → Option (Int32 × Mem)) (σ0 : Mem) (x1 : Int32) (x2 : Int32) (x3 : Int32) (x5 : Int32) (x6 : Int32) (x7 : Int32) (x8 : Int32) (y0 : Int32) : Option (Int32 × Mem) := (if x8 = (0 : Int32) then (f_X10_sailOf_b101 k22 σ0 x1 x2 x3 y0 x6 x5) else (f_X10_sailOf_b101 k22 σ0 x1 x2 x3 y0 x6 x7))
def f_X10_sailOf_b73 (k22 : Mem → Int32 → Int32 → Int32 → Int32 → Int32 → Int32 → Option (Int32 × Mem)) (σ0 : Mem) (x1 : Int32) (x2 : Int32) (x3 : Int32) (x4 : Int32) (x5 : Int32) (x6 : Int32) (x7 : Int32) (y0 : Int32) : Option (Int32 × Mem) := (if y0 = (0 : Int32) then (f_X10_sailOf_b87 k22 σ0 x1 x2 x3 x5 x6 x7 y0 x4) else (f_X10_sailOf_b87 k22 σ0 x1 x2 x3 x5 x6 x7 y0 x6))
def f_X10_sailOf_b68 (k22 : Mem → Int32 → Int32 → Int32 → Int32 → Int32 → Int32 → Option (Int32 × Mem)) (σ0 : Mem) (x1 : Int32) (x2 : Int32) (x3 : Int32) (x4 : Int32) (x5 : Int32) (x6 : Int32) (x7 : Int32) : Option (Int32 × Mem) := (f_X10_sailOf_b73 k22 σ0 x1 x2 x3 x4 x5 x6 x7 (1 : Int32))
def f_X10_sailOf_b22 : Nat → Mem → Int32 → Int32 → Int32 → Int32 → Int32 → Int32 → Option (Int32 × Mem)
  | 0, _, _, _, _, _, _, _ => none
  | n22 + 1, σ0, x1, x2, x3, x4, x5, x6 => (if (10 : Int32) ≤ x6 then (ck (((7 : Int32) * x1) + (6 : Int32)) 56 (lt (ms σ0 72 (((7 : Int32) * x1) + (6 : Int32)).toNatClampNeg x3) (fun σ4 => (if x2 = (0 : Int32) then (some (x4, σ4)) else (some (x5, σ4)))))) else (ck (((7 : Int32) * x1) + (6 : Int32)) 56 (lt (ms σ0 72 (((7 : Int32) * x1) + (6 : Int32)).toNatClampNeg x6) (fun σ8 => (bv (f_X10_lives σ8 (99 : Int32)) (fun σ11 => (bp (f_X10_allWait σ11) (fun v13 => (if x4 = (-1 : Int32) then (f_X10_sailOf_b68 (f_X10_sailOf_b22 n22) σ11 x1 x2 x3 x4 x5 x6 v13) else (if x5 ≤ v13 then (f_X10_sailOf_b73 (f_X10_sailOf_b22 n22) σ11 x1 x2 x3 x4 x5 x6 v13 (0 : Int32)) else (f_X10_sailOf_b68 (f_X10_sailOf_b22 n22) σ11 x1 x2 x3 x4 x5 x6 v13)))))))))))
def f_X10_sailOf (σ0 : Mem) (a1 : Int32) (a2 : Int32) : Option (Int32 × Mem) := (ck (((7 : Int32) * a1) + (6 : Int32)) 56 (f_X10_sailOf_b22 300 σ0 a1 a2 (σ0.1 72 (((7 : Int32) * a1) + (6 : Int32)).toNatClampNeg) (-1 : Int32) (0 : Int32) (0 : Int32)))
set_option maxHeartbeats 4000000 in
set_option maxRecDepth 100000 in
theorem k_X10_sailOf {l : Launch} {D : va_G} {cy : Nat → ClassId} {ad : Nat → Nat} {ta tb : Nat} (hI : AdI ad) (σ0 : Mem) (a1 : Int32) (a2 : Int32) {o : Int32 × Mem} (h : f_X10_sailOf σ0 a1 a2 = some o) : Met l yX10_sailOf (Cond.code yX10_sailOf cX10_sailOf 9 (some .int) :: wG) rm_X10_sailOf (CP D cy ad ta tb σ0 [.ref (ad 64), .int a1, .int a2]) (CQi D cy ad o.1 o.2) 0 0 (AA ad) := by
  refine Met.ofW (cc := cX10_sailOf) (maxL := 9) (ret := (some .int)) (by decide) rfl ?_
  intro p e s m args below meth c s₁ B hml hv
  obtain ⟨rfl, hE, hP⟩ := hv
  have hts := atoms_spec (ws := Cond.code yX10_sailOf cX10_sailOf 9 (some .int) :: wG) B.pre
  have F : CallFix p m c cX10_sailOf 9 s _ wG RX10 := ⟨B.exec, B.bytes, hml, findClass_of_methodNamed B.named, fun w hw => hts w (List.mem_cons_of_mem _ hw)⟩
  have hr := B.returns
  have hlocks := B.notSynchronized
  have hB : Bd D cy ad σ0 s.heap s.heap [] := ⟨hP, va_S.rf⟩
  have hl := lv_entry ([.ref (ad 64), .int a1, .int a2] : List Value) (n := 9) (Nat.le_of_ble_eq_true rfl)
  rw [lg_entry_eq]
  generalize (lg_sl ([.ref (ad 64), .int a1, .int a2] : List Value) ++ List.replicate (9 - (lg_sl ([.ref (ad 64), .int a1, .int a2] : List Value)).length) Slot.unset).toArray = ls at hl ⊢
  have hl : lv_has ls 9 [(0, .ref (ad 64)), (1, .int a1), (2, .int a2)] := hl
  have B22 : ∀ (n22 : Nat) (σ0 : Mem) (H : Heap) (locs : List Loc) (ls : Array Slot) (x1 : Int32) (x2 : Int32) (x3 : Int32) (x4 : Int32) (x5 : Int32) (x6 : Int32), f_X10_sailOf_b22 n22 σ0 x1 x2 x3 x4 x5 x6 = some o → Bd D cy ad σ0 s.heap H locs → lv_has ls 9 [(0, .ref (ad 64)), (1, .int x1), (2, .int x2), (3, .int x3), (4, .int x4), (5, .int x5), (6, .int x6)] → W p l e rm_X10_sailOf s m ([.ref (ad 64), .int a1, .int a2] : List Value).toArray below meth c H locs 0 0 (MQ below (CQi D cy ad o.1 o.2) ([.ref (ad 64), .int a1, .int a2] : List Value).toArray s 0 0 (AA ad)) (F0 m 22 ls []) := by
    intro n22
    induction n22 with
    | zero => intro σ0 H locs ls x1 x2 x3 x4 x5 x6 h hB hl; cases h
    | succ n22 ih22 =>
      have B101 : ∀ (σ0 : Mem) (H : Heap) (locs : List Loc) (ls : Array Slot) (x1 : Int32) (x2 : Int32) (x3 : Int32) (x4 : Int32) (x6 : Int32) (y0 : Int32), f_X10_sailOf_b101 (f_X10_sailOf_b22 n22) σ0 x1 x2 x3 x4 x6 y0 = some o → Bd D cy ad σ0 s.heap H locs → lv_has ls 9 [(0, .ref (ad 64)), (1, .int x1), (2, .int x2), (3, .int x3), (4, .int x4), (6, .int x6)] → W p l e rm_X10_sailOf s m ([.ref (ad 64), .int a1, .int a2] : List Value).toArray below meth c H locs 0 0 (MQ below (CQi D cy ad o.1 o.2) ([.ref (ad 64), .int a1, .int a2] : List Value).toArray s 0 0 (AA ad)) (F0 m 101 ls [.int y0]) := by
        intro σ0 H locs ls x1 x2 x3 x4 x6 y0 h hB hl
        unfold f_X10_sailOf_b101 at h
        refine lv_istore (lv' := [(5, .int y0), (0, .ref (ad 64)), (1, .int x1), (2, .int x2), (3, .int x3), (4, .int x4), (6, .int x6)]) F.1 F.2.1 dX10_sailOf_101 hl (by decide) rfl (fun ls hl => ?_)
        refine lv_iinc (v := (x6 + (1 : Int32))) (lv' := [(6, .int (x6 + (1 : Int32))), (5, .int y0), (0, .ref (ad 64)), (1, .int x1), (2, .int x2), (3, .int x3), (4, .int x4)]) F.1 F.2.1 dX10_sailOf_103 hl (k := 6) rfl rfl (by decide) rfl (fun ls hl => ?_)
        refine lv_goto (tgt := 22) F.1 F.2.1 dX10_sailOf_106 (by decide) ?_
        exact ih22 σ0 _ _ _ x1 x2 x3 x4 y0 (x6 + (1 : Int32)) h hB (lv_sub hl [2, 3, 4, 5, 6, 1, 0] rfl)
      have B87 : ∀ (σ0 : Mem) (H : Heap) (locs : List Loc) (ls : Array Slot) (x1 : Int32) (x2 : Int32) (x3 : Int32) (x5 : Int32) (x6 : Int32) (x7 : Int32) (x8 : Int32) (y0 : Int32), f_X10_sailOf_b87 (f_X10_sailOf_b22 n22) σ0 x1 x2 x3 x5 x6 x7 x8 y0 = some o → Bd D cy ad σ0 s.heap H locs → lv_has ls 9 [(0, .ref (ad 64)), (1, .int x1), (2, .int x2), (3, .int x3), (5, .int x5), (6, .int x6), (7, .int x7), (8, .int x8)] → W p l e rm_X10_sailOf s m ([.ref (ad 64), .int a1, .int a2] : List Value).toArray below meth c H locs 0 0 (MQ below (CQi D cy ad o.1 o.2) ([.ref (ad 64), .int a1, .int a2] : List Value).toArray s 0 0 (AA ad)) (F0 m 87 ls [.int y0]) := by
        intro σ0 H locs ls x1 x2 x3 x5 x6 x7 x8 y0 h hB hl
        unfold f_X10_sailOf_b87 at h
        refine lv_istore (lv' := [(4, .int y0), (0, .ref (ad 64)), (1, .int x1), (2, .int x2), (3, .int x3), (5, .int x5), (6, .int x6), (7, .int x7), (8, .int x8)]) F.1 F.2.1 dX10_sailOf_87 hl (by decide) rfl (fun ls hl => ?_)
        refine lv_iload F.1 F.2.1 dX10_sailOf_89 (lv_at hl 8 rfl) ?_
        refine lv_if_eq (tgt := 99) F.1 F.2.1 dX10_sailOf_91 (by decide) (fun c16 => ?_) (fun c16 => ?_)
        · replace h := it_e c16 h
          refine lv_iload F.1 F.2.1 dX10_sailOf_99 (lv_at hl 5 rfl) ?_
          exact B101 σ0 _ _ _ x1 x2 x3 y0 x6 x5 h hB (lv_sub hl [1, 2, 3, 4, 0, 6] rfl)
        · replace h := ie_e c16 h
          refine lv_iload F.1 F.2.1 dX10_sailOf_94 (lv_at hl 7 rfl) ?_
          refine lv_goto (tgt := 101) F.1 F.2.1 dX10_sailOf_96 (by decide) ?_
          exact B101 σ0 _ _ _ x1 x2 x3 y0 x6 x7 h hB (lv_sub hl [1, 2, 3, 4, 0, 6] rfl)
      have B73 : ∀ (σ0 : Mem) (H : Heap) (locs : List Loc) (ls : Array Slot) (x1 : Int32) (x2 : Int32) (x3 : Int32) (x4 : Int32) (x5 : Int32) (x6 : Int32) (x7 : Int32) (y0 : Int32), f_X10_sailOf_b73 (f_X10_sailOf_b22 n22) σ0 x1 x2 x3 x4 x5 x6 x7 y0 = some o → Bd D cy ad σ0 s.heap H locs → lv_has ls 9 [(0, .ref (ad 64)), (1, .int x1), (2, .int x2), (3, .int x3), (4, .int x4), (5, .int x5), (6, .int x6), (7, .int x7)] → W p l e rm_X10_sailOf s m ([.ref (ad 64), .int a1, .int a2] : List Value).toArray below meth c H locs 0 0 (MQ below (CQi D cy ad o.1 o.2) ([.ref (ad 64), .int a1, .int a2] : List Value).toArray s 0 0 (AA ad)) (F0 m 73 ls [.int y0]) := by
        intro σ0 H locs ls x1 x2 x3 x4 x5 x6 x7 y0 h hB hl
        unfold f_X10_sailOf_b73 at h
        refine lv_istore (lv' := [(8, .int y0), (0, .ref (ad 64)), (1, .int x1), (2, .int x2), (3, .int x3), (4, .int x4), (5, .int x5), (6, .int x6), (7, .int x7)]) F.1 F.2.1 dX10_sailOf_73 hl (by decide) rfl (fun ls hl => ?_)
        refine lv_iload F.1 F.2.1 dX10_sailOf_75 (lv_at hl 0 rfl) ?_
        refine lv_if_eq (tgt := 85) F.1 F.2.1 dX10_sailOf_77 (by decide) (fun c15 => ?_) (fun c15 => ?_)
        · replace h := it_e c15 h
          refine lv_iload F.1 F.2.1 dX10_sailOf_85 (lv_at hl 5 rfl) ?_
          exact B87 σ0 _ _ _ x1 x2 x3 x5 x6 x7 y0 x4 h hB (lv_sub hl [1, 2, 3, 4, 6, 7, 8, 0] rfl)
        · replace h := ie_e c15 h
          refine lv_iload F.1 F.2.1 dX10_sailOf_80 (lv_at hl 7 rfl) ?_
          refine lv_goto (tgt := 87) F.1 F.2.1 dX10_sailOf_82 (by decide) ?_
          exact B87 σ0 _ _ _ x1 x2 x3 x5 x6 x7 y0 x6 h hB (lv_sub hl [1, 2, 3, 4, 6, 7, 8, 0] rfl)
      have B68 : ∀ (σ0 : Mem) (H : Heap) (locs : List Loc) (ls : Array Slot) (x1 : Int32) (x2 : Int32) (x3 : Int32) (x4 : Int32) (x5 : Int32) (x6 : Int32) (x7 : Int32), f_X10_sailOf_b68 (f_X10_sailOf_b22 n22) σ0 x1 x2 x3 x4 x5 x6 x7 = some o → Bd D cy ad σ0 s.heap H locs → lv_has ls 9 [(0, .ref (ad 64)), (1, .int x1), (2, .int x2), (3, .int x3), (4, .int x4), (5, .int x5), (6, .int x6), (7, .int x7)] → W p l e rm_X10_sailOf s m ([.ref (ad 64), .int a1, .int a2] : List Value).toArray below meth c H locs 0 0 (MQ below (CQi D cy ad o.1 o.2) ([.ref (ad 64), .int a1, .int a2] : List Value).toArray s 0 0 (AA ad)) (F0 m 68 ls []) := by
        intro σ0 H locs ls x1 x2 x3 x4 x5 x6 x7 h hB hl
        unfold f_X10_sailOf_b68 at h
        refine lv_iconst (v := 1) F.1 F.2.1 dX10_sailOf_68 (by decide) ?_
        refine lv_goto (tgt := 73) F.1 F.2.1 dX10_sailOf_69 (by decide) ?_
        exact B73 σ0 _ _ _ x1 x2 x3 x4 x5 x6 x7 (1 : Int32) h hB (lv_sub hl [0, 1, 2, 3, 4, 5, 6, 7] rfl)
      intro σ0 H locs ls x1 x2 x3 x4 x5 x6 h hB hl
      rw [f_X10_sailOf_b22] at h
      refine lv_iload F.1 F.2.1 dX10_sailOf_22 (lv_at hl 6 rfl) ?_
      refine lv_bipush (v := 10) F.1 F.2.1 dX10_sailOf_24 (by decide) ?_
      refine lv_icmp_ge (tgt := 109) F.1 F.2.1 dX10_sailOf_26 (by decide) (fun c2 => ?_) (fun c2 => ?_)
      · replace h := it_e c2 h
        refine lv_aload_n F.1 F.2.1 dX10_sailOf_109 rfl (lv_at hl 0 rfl) ?_
        refine gf_RX10_31 F hE hB po_64 rfl dX10_sailOf_110 ?_
        refine lv_bipush (v := 7) F.1 F.2.1 dX10_sailOf_113 (by decide) ?_
        refine lv_iload_n F.1 F.2.1 dX10_sailOf_115 rfl (lv_at hl 1 rfl) ?_
        refine lv_imul F.1 F.2.1 dX10_sailOf_116 ?_
        refine lv_bipush (v := 6) F.1 F.2.1 dX10_sailOf_117 (by decide) ?_
        refine lv_iadd F.1 F.2.1 dX10_sailOf_119 ?_
        refine lv_iload_n F.1 F.2.1 dX10_sailOf_120 rfl (lv_at hl 3 rfl) ?_
        obtain ⟨hi3, h⟩ := ck_e h
        obtain ⟨σ4, e5, h⟩ := lt_e h
        refine q_iast F hE hI hB row_72 hi3 dX10_sailOf_121 e5 (fun H locs hB => ?_)
        refine lv_iload_n F.1 F.2.1 dX10_sailOf_122 rfl (lv_at hl 2 rfl) ?_
        refine lv_if_ne (tgt := 131) F.1 F.2.1 dX10_sailOf_123 (by decide) (fun c6 => ?_) (fun c6 => ?_)
        · replace h := ie_e c6 h
          refine lv_iload F.1 F.2.1 dX10_sailOf_131 (lv_at hl 5 rfl) ?_
          exact q_iret F hlocks hr hB (so1 h) (so2 h) dX10_sailOf_133
        · replace h := it_e c6 h
          refine lv_iload F.1 F.2.1 dX10_sailOf_126 (lv_at hl 4 rfl) ?_
          refine lv_goto (tgt := 133) F.1 F.2.1 dX10_sailOf_128 (by decide) ?_
          exact q_iret F hlocks hr hB (so1 h) (so2 h) dX10_sailOf_133
      · replace h := ie_e c2 h
        refine lv_aload_n F.1 F.2.1 dX10_sailOf_29 rfl (lv_at hl 0 rfl) ?_
        refine gf_RX10_31 F hE hB po_64 rfl dX10_sailOf_30 ?_
        refine lv_bipush (v := 7) F.1 F.2.1 dX10_sailOf_33 (by decide) ?_
        refine lv_iload_n F.1 F.2.1 dX10_sailOf_35 rfl (lv_at hl 1 rfl) ?_
        refine lv_imul F.1 F.2.1 dX10_sailOf_36 ?_
        refine lv_bipush (v := 6) F.1 F.2.1 dX10_sailOf_37 (by decide) ?_
        refine lv_iadd F.1 F.2.1 dX10_sailOf_39 ?_
        refine lv_iload F.1 F.2.1 dX10_sailOf_40 (lv_at hl 6 rfl) ?_
        obtain ⟨hi7, h⟩ := ck_e h
        obtain ⟨σ8, e9, h⟩ := lt_e h
        refine q_iast F hE hI hB row_72 hi7 dX10_sailOf_42 e9 (fun H locs hB => ?_)
        refine lv_aload_n F.1 F.2.1 dX10_sailOf_43 rfl (lv_at hl 0 rfl) ?_
        refine lv_bipush (v := 99) F.1 F.2.1 dX10_sailOf_44 (by decide) ?_
        obtain ⟨σ11, hc10, h⟩ := bv_e h
        refine q_cv hB (q_goV F hE hB (k_X10_lives hI σ8 (99 : Int32) hc10) (ca_RX10_185 F.2.2.2.2 ⟨Nat.le_of_ble_eq_true rfl, Nat.le_of_ble_eq_true rfl⟩) rfl po_64 rfl hl.1 rfl (Nat.le_of_ble_eq_true rfl) dX10_sailOf_46 ⟨Nat.le_of_ble_eq_true rfl, Nat.le_of_ble_eq_true rfl⟩) (fun H locs hB => ?_)
        refine lv_aload_n F.1 F.2.1 dX10_sailOf_49 rfl (lv_at hl 0 rfl) ?_
        obtain ⟨v13, hc12, h⟩ := bp_e h
        refine q_ci hB (q_goV F hE hB (k_X10_allWait hI σ11 hc12) (ca_RX10_217 F.2.2.2.2 ⟨Nat.le_of_ble_eq_true rfl, Nat.le_of_ble_eq_true rfl⟩) rfl po_64 rfl hl.1 rfl (Nat.le_of_ble_eq_true rfl) dX10_sailOf_50 ⟨Nat.le_of_ble_eq_true rfl, Nat.le_of_ble_eq_true rfl⟩) (fun H locs hB => ?_)
        refine lv_istore (lv' := [(7, .int v13), (0, .ref (ad 64)), (1, .int x1), (2, .int x2), (3, .int x3), (4, .int x4), (5, .int x5), (6, .int x6)]) F.1 F.2.1 dX10_sailOf_53 hl (by decide) rfl (fun ls hl => ?_)
        refine lv_iload F.1 F.2.1 dX10_sailOf_55 (lv_at hl 5 rfl) ?_
        refine lv_iconst (v := (-1)) F.1 F.2.1 dX10_sailOf_57 (by decide) ?_
        refine lv_icmp_eq (tgt := 68) F.1 F.2.1 dX10_sailOf_58 (by decide) (fun c14 => ?_) (fun c14 => ?_)
        · replace h := it_e c14 h
          exact B68 σ11 _ _ _ x1 x2 x3 x4 x5 x6 v13 h hB (lv_sub hl [1, 2, 3, 4, 5, 6, 7, 0] rfl)
        · replace h := ie_e c14 h
          refine lv_iload F.1 F.2.1 dX10_sailOf_61 (lv_at hl 0 rfl) ?_
          refine lv_iload F.1 F.2.1 dX10_sailOf_63 (lv_at hl 6 rfl) ?_
          refine lv_icmp_ge (tgt := 72) F.1 F.2.1 dX10_sailOf_65 (by decide) (fun c17 => ?_) (fun c17 => ?_)
          · replace h := it_e c17 h
            refine lv_iconst (v := 0) F.1 F.2.1 dX10_sailOf_72 (by decide) ?_
            exact B73 σ11 _ _ _ x1 x2 x3 x4 x5 x6 v13 (0 : Int32) h hB (lv_sub hl [1, 2, 3, 4, 5, 6, 7, 0] rfl)
          · replace h := ie_e c17 h
            exact B68 σ11 _ _ _ x1 x2 x3 x4 x5 x6 v13 h hB (lv_sub hl [1, 2, 3, 4, 5, 6, 7, 0] rfl)
  unfold f_X10_sailOf at h
  refine lv_aload_n F.1 F.2.1 dX10_sailOf_0 rfl (lv_at hl 0 rfl) ?_
  refine gf_RX10_31 F hE hB po_64 rfl dX10_sailOf_1 ?_
  refine lv_bipush (v := 7) F.1 F.2.1 dX10_sailOf_4 (by decide) ?_
  refine lv_iload_n F.1 F.2.1 dX10_sailOf_6 rfl (lv_at hl 1 rfl) ?_
  refine lv_imul F.1 F.2.1 dX10_sailOf_7 ?_
  refine lv_bipush (v := 6) F.1 F.2.1 dX10_sailOf_8 (by decide) ?_
  refine lv_iadd F.1 F.2.1 dX10_sailOf_10 ?_
  obtain ⟨hi1, h⟩ := ck_e h
  refine q_iald F hE hB po_72 hi1 dX10_sailOf_11 ?_
  refine lv_istore_n (lv' := [(3, .int (σ0.1 72 (((7 : Int32) * a1) + (6 : Int32)).toNatClampNeg)), (0, .ref (ad 64)), (1, .int a1), (2, .int a2)]) F.1 F.2.1 dX10_sailOf_12 rfl hl (by decide) rfl (fun ls hl => ?_)
  refine lv_iconst (v := (-1)) F.1 F.2.1 dX10_sailOf_13 (by decide) ?_
  refine lv_istore (lv' := [(4, .int (-1 : Int32)), (3, .int (σ0.1 72 (((7 : Int32) * a1) + (6 : Int32)).toNatClampNeg)), (0, .ref (ad 64)), (1, .int a1), (2, .int a2)]) F.1 F.2.1 dX10_sailOf_14 hl (by decide) rfl (fun ls hl => ?_)
  refine lv_iconst (v := 0) F.1 F.2.1 dX10_sailOf_16 (by decide) ?_
  refine lv_istore (lv' := [(5, .int (0 : Int32)), (4, .int (-1 : Int32)), (3, .int (σ0.1 72 (((7 : Int32) * a1) + (6 : Int32)).toNatClampNeg)), (0, .ref (ad 64)), (1, .int a1), (2, .int a2)]) F.1 F.2.1 dX10_sailOf_17 hl (by decide) rfl (fun ls hl => ?_)
  refine lv_iconst (v := 0) F.1 F.2.1 dX10_sailOf_19 (by decide) ?_
  refine lv_istore (lv' := [(6, .int (0 : Int32)), (5, .int (0 : Int32)), (4, .int (-1 : Int32)), (3, .int (σ0.1 72 (((7 : Int32) * a1) + (6 : Int32)).toNatClampNeg)), (0, .ref (ad 64)), (1, .int a1), (2, .int a2)]) F.1 F.2.1 dX10_sailOf_20 hl (by decide) rfl (fun ls hl => ?_)
  exact B22 300 σ0 _ _ _ a1 a2 (σ0.1 72 (((7 : Int32) * a1) + (6 : Int32)).toNatClampNeg) (-1 : Int32) (0 : Int32) (0 : Int32) h hB (lv_sub hl [4, 5, 6, 3, 2, 1, 0] rfl)
def f_X10_sail (σ0 : Mem) (a1 : Int32) (a2 : Int32) : Option (Int32 × Mem) := (bv (f_X10_find σ0) (fun σ2 => (bp (f_X10_isBoat σ2 a1) (fun v4 => (if v4 = (0 : Int32) then (some ((-2 : Int32), σ2)) else (bp (f_X10_isTwo σ2 a2) (fun v7 => (if v7 = (0 : Int32) then (some ((-2 : Int32), σ2)) else (bi (f_X10_sailOf σ2 a1 a2) (fun v11 σ10 => (some (v11, σ10))))))))))))
set_option maxHeartbeats 4000000 in
set_option maxRecDepth 100000 in
theorem k_X10_sail {l : Launch} {D : va_G} {cy : Nat → ClassId} {ad : Nat → Nat} {ta tb : Nat} (hI : AdI ad) (σ0 : Mem) (a1 : Int32) (a2 : Int32) {o : Int32 × Mem} (h : f_X10_sail σ0 a1 a2 = some o) : Met l yX10_sail (Cond.code yX10_sail cX10_sail 3 (some .int) :: wG) rm_X10_sail (CP D cy ad ta tb σ0 [.ref (ad 64), .int a1, .int a2]) (CQi D cy ad o.1 o.2) 0 0 (AA ad) := by
  refine Met.ofW (cc := cX10_sail) (maxL := 3) (ret := (some .int)) (by decide) rfl ?_
  intro p e s m args below meth c s₁ B hml hv
  obtain ⟨rfl, hE, hP⟩ := hv
  have hts := atoms_spec (ws := Cond.code yX10_sail cX10_sail 3 (some .int) :: wG) B.pre
  have F : CallFix p m c cX10_sail 3 s _ wG RX10 := ⟨B.exec, B.bytes, hml, findClass_of_methodNamed B.named, fun w hw => hts w (List.mem_cons_of_mem _ hw)⟩
  have hr := B.returns
  have hlocks := B.notSynchronized
  have hB : Bd D cy ad σ0 s.heap s.heap [] := ⟨hP, va_S.rf⟩
  have hl := lv_entry ([.ref (ad 64), .int a1, .int a2] : List Value) (n := 3) (Nat.le_of_ble_eq_true rfl)
  rw [lg_entry_eq]
  generalize (lg_sl ([.ref (ad 64), .int a1, .int a2] : List Value) ++ List.replicate (3 - (lg_sl ([.ref (ad 64), .int a1, .int a2] : List Value)).length) Slot.unset).toArray = ls at hl ⊢
  have hl : lv_has ls 3 [(0, .ref (ad 64)), (1, .int a1), (2, .int a2)] := hl
  unfold f_X10_sail at h
  refine lv_aload_n F.1 F.2.1 dX10_sail_0 rfl (lv_at hl 0 rfl) ?_
  obtain ⟨σ2, hc1, h⟩ := bv_e h
  refine q_cv hB (q_goV F hE hB (k_X10_find hI σ0 hc1) (ca_RX10_129 F.2.2.2.2 ⟨Nat.le_of_ble_eq_true rfl, Nat.le_of_ble_eq_true rfl⟩) rfl po_64 rfl hl.1 rfl (Nat.le_of_ble_eq_true rfl) dX10_sail_1 ⟨Nat.le_of_ble_eq_true rfl, Nat.le_of_ble_eq_true rfl⟩) (fun H locs hB => ?_)
  refine lv_aload_n F.1 F.2.1 dX10_sail_4 rfl (lv_at hl 0 rfl) ?_
  refine lv_iload_n F.1 F.2.1 dX10_sail_5 rfl (lv_at hl 1 rfl) ?_
  obtain ⟨v4, hc3, h⟩ := bp_e h
  refine q_ci hB (q_goV F hE hB (k_X10_isBoat hI σ2 a1 hc3) (ca_RX10_135 F.2.2.2.2 ⟨Nat.le_of_ble_eq_true rfl, Nat.le_of_ble_eq_true rfl⟩) rfl po_64 rfl hl.1 rfl (Nat.le_of_ble_eq_true rfl) dX10_sail_6 ⟨Nat.le_of_ble_eq_true rfl, Nat.le_of_ble_eq_true rfl⟩) (fun H locs hB => ?_)
  refine lv_if_eq (tgt := 28) F.1 F.2.1 dX10_sail_9 (by decide) (fun c5 => ?_) (fun c5 => ?_)
  · replace h := it_e c5 h
    refine lv_bipush (v := (-2)) F.1 F.2.1 dX10_sail_28 (by decide) ?_
    exact q_iret F hlocks hr hB (so1 h) (so2 h) dX10_sail_30
  · replace h := ie_e c5 h
    refine lv_iload_n F.1 F.2.1 dX10_sail_12 rfl (lv_at hl 2 rfl) ?_
    obtain ⟨v7, hc6, h⟩ := bp_e h
    refine q_ci hB (q_goS F hE hB (k_X10_isTwo hI σ2 a2 hc6) (ca_RX10_92 F.2.2.2.2 ⟨Nat.le_of_ble_eq_true rfl, Nat.le_of_ble_eq_true rfl⟩) rfl hl.1 rfl (Nat.le_of_ble_eq_true rfl) dX10_sail_13 ⟨Nat.le_of_ble_eq_true rfl, Nat.le_of_ble_eq_true rfl⟩) (fun H locs hB => ?_)
    refine lv_if_eq (tgt := 28) F.1 F.2.1 dX10_sail_16 (by decide) (fun c8 => ?_) (fun c8 => ?_)
    · replace h := it_e c8 h
      refine lv_bipush (v := (-2)) F.1 F.2.1 dX10_sail_28 (by decide) ?_
      exact q_iret F hlocks hr hB (so1 h) (so2 h) dX10_sail_30
    · replace h := ie_e c8 h
      refine lv_aload_n F.1 F.2.1 dX10_sail_19 rfl (lv_at hl 0 rfl) ?_
      refine lv_iload_n F.1 F.2.1 dX10_sail_20 rfl (lv_at hl 1 rfl) ?_
      refine lv_iload_n F.1 F.2.1 dX10_sail_21 rfl (lv_at hl 2 rfl) ?_
      obtain ⟨v11, σ10, hc9, h⟩ := bi_e h
      refine q_ci hB (q_goV F hE hB (k_X10_sailOf hI σ2 a1 a2 hc9) (ca_RX10_220 F.2.2.2.2 ⟨Nat.le_of_ble_eq_true rfl, Nat.le_of_ble_eq_true rfl⟩) rfl po_64 rfl hl.1 rfl (Nat.le_of_ble_eq_true rfl) dX10_sail_22 ⟨Nat.le_of_ble_eq_true rfl, Nat.le_of_ble_eq_true rfl⟩) (fun H locs hB => ?_)
      refine lv_goto (tgt := 30) F.1 F.2.1 dX10_sail_25 (by decide) ?_
      exact q_iret F hlocks hr hB (so1 h) (so2 h) dX10_sail_30
