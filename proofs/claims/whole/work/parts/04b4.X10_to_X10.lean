def f_X10_copy_b35 (σ0 : Mem) : Option (Int32 × Mem) := (bi (f_X10_finds σ0 (1 : Int32)) (fun v11 σ10 => (some (v11, σ10))))
def f_X10_copy_b111 (σ0 : Mem) : Option (Int32 × Mem) := (bi (f_X10_finds σ0 (2 : Int32)) (fun v20 σ19 => (some (v20, σ19))))
def f_X10_copy_b157 : Nat → Mem → Int32 → Int32 → Int32 → Int32 → Option (Int32 × Mem)
  | 0, _, _, _, _, _ => none
  | n157 + 1, σ0, x3, x4, x5, x6 => (if x5 ≤ x6 then (some ((1 : Int32), σ0)) else (ck x6 60 (ck ((((60 : Int32) * x3) + x4) + x6) 240 (lt (ms σ0 67 ((((60 : Int32) * x3) + x4) + x6).toNatClampNeg (σ0.1 68 x6.toNatClampNeg)) (fun σ31 => (f_X10_copy_b157 n157 σ31 x3 x4 x5 (x6 + (1 : Int32))))))))
def f_X10_copy_b120 : Nat → Mem → Int32 → Int32 → Int32 → Int32 → Int32 → Int32 → Option (Int32 × Mem)
  | 0, _, _, _, _, _, _, _ => none
  | n120 + 1, σ0, x1, x2, x3, x4, x5, x6 => (if x5 ≤ x6 then (f_X10_copy_b157 300 σ0 x3 x4 x5 (0 : Int32)) else (ck ((((60 : Int32) * x1) + x2) + x6) 240 (ck x6 60 (lt (ms σ0 68 x6.toNatClampNeg (σ0.1 67 ((((60 : Int32) * x1) + x2) + x6).toNatClampNeg)) (fun σ35 => (f_X10_copy_b120 n120 σ35 x1 x2 x3 x4 x5 (x6 + (1 : Int32))))))))
def f_X10_copy (σ0 : Mem) (a1 : Int32) (a2 : Int32) (a3 : Int32) (a4 : Int32) (a5 : Int32) : Option (Int32 × Mem) := (bp (f_X10_isSheet σ0 a1) (fun v2 => (if v2 = (0 : Int32) then (some ((-2 : Int32), σ0)) else (bp (f_X10_isSheet σ0 a3) (fun v5 => (if v5 = (0 : Int32) then (some ((-2 : Int32), σ0)) else (ck a1 4 (if (σ0.1 65 a1.toNatClampNeg) < (0 : Int32) then (f_X10_copy_b35 σ0) else (ck a3 4 (if (0 : Int32) ≤ (σ0.1 65 a3.toNatClampNeg) then (ck a1 4 (ck a3 4 (if (σ0.1 65 a1.toNatClampNeg) = (σ0.1 65 a3.toNatClampNeg) then (if a2 < (0 : Int32) then (f_X10_copy_b111 σ0) else (if a4 < (0 : Int32) then (f_X10_copy_b111 σ0) else (if a5 < (0 : Int32) then (f_X10_copy_b111 σ0) else (ck a1 4 (if (0 : Int32) < (lg_cmp (a2.toInt64 + a5.toInt64) (σ0.1 66 a1.toNatClampNeg).toInt64) then (f_X10_copy_b111 σ0) else (ck a3 4 (if (lg_cmp (a4.toInt64 + a5.toInt64) (σ0.1 66 a3.toNatClampNeg).toInt64) ≤ (0 : Int32) then (f_X10_copy_b120 300 σ0 a1 a2 a3 a4 a5 (0 : Int32)) else (f_X10_copy_b111 σ0)))))))) else (bi (f_X10_finds σ0 (4 : Int32)) (fun v39 σ38 => (some (v39, σ38))))))) else (f_X10_copy_b35 σ0)))))))))))
set_option maxHeartbeats 4000000 in
set_option maxRecDepth 100000 in
theorem k_X10_copy {l : Launch} {D : va_G} {cy : Nat → ClassId} {ad : Nat → Nat} {ta tb : Nat} (hI : AdI ad) (σ0 : Mem) (a1 : Int32) (a2 : Int32) (a3 : Int32) (a4 : Int32) (a5 : Int32) {o : Int32 × Mem} (h : f_X10_copy σ0 a1 a2 a3 a4 a5 = some o) : Met l yX10_copy (Cond.code yX10_copy cX10_copy 7 (some .int) :: wG) rm_X10_copy (CP D cy ad ta tb σ0 [.ref (ad 64), .int a1, .int a2, .int a3, .int a4, .int a5]) (CQi D cy ad o.1 o.2) 0 0 (AA ad) := by
  refine Met.ofW (cc := cX10_copy) (maxL := 7) (ret := (some .int)) (by decide) rfl ?_
  intro p e s m args below meth c s₁ B hml hv
  obtain ⟨rfl, hE, hP⟩ := hv
  have hts := atoms_spec (ws := Cond.code yX10_copy cX10_copy 7 (some .int) :: wG) B.pre
  have F : CallFix p m c cX10_copy 7 s _ wG RX10 := ⟨B.exec, B.bytes, hml, findClass_of_methodNamed B.named, fun w hw => hts w (List.mem_cons_of_mem _ hw)⟩
  have hr := B.returns
  have hlocks := B.notSynchronized
  have hB : Bd D cy ad σ0 s.heap s.heap [] := ⟨hP, va_S.rf⟩
  have hl := lv_entry ([.ref (ad 64), .int a1, .int a2, .int a3, .int a4, .int a5] : List Value) (n := 7) (Nat.le_of_ble_eq_true rfl)
  rw [lg_entry_eq]
  generalize (lg_sl ([.ref (ad 64), .int a1, .int a2, .int a3, .int a4, .int a5] : List Value) ++ List.replicate (7 - (lg_sl ([.ref (ad 64), .int a1, .int a2, .int a3, .int a4, .int a5] : List Value)).length) Slot.unset).toArray = ls at hl ⊢
  have hl : lv_has ls 7 [(0, .ref (ad 64)), (1, .int a1), (2, .int a2), (3, .int a3), (4, .int a4), (5, .int a5)] := hl
  have B35 : ∀ (σ0 : Mem) (H : Heap) (locs : List Loc) (ls : Array Slot), f_X10_copy_b35 σ0 = some o → Bd D cy ad σ0 s.heap H locs → lv_has ls 7 [(0, .ref (ad 64))] → W p l e rm_X10_copy s m ([.ref (ad 64), .int a1, .int a2, .int a3, .int a4, .int a5] : List Value).toArray below meth c H locs 0 0 (MQ below (CQi D cy ad o.1 o.2) ([.ref (ad 64), .int a1, .int a2, .int a3, .int a4, .int a5] : List Value).toArray s 0 0 (AA ad)) (F0 m 35 ls []) := by
    intro σ0 H locs ls h hB hl
    unfold f_X10_copy_b35 at h
    refine lv_aload_n F.1 F.2.1 dX10_copy_35 rfl (lv_at hl 0 rfl) ?_
    refine lv_iconst (v := 1) F.1 F.2.1 dX10_copy_36 (by decide) ?_
    obtain ⟨v11, σ10, hc9, h⟩ := bi_e h
    refine q_ci hB (q_goV F hE hB (k_X10_finds hI σ0 (1 : Int32) hc9) (ca_RX10_79 F.2.2.2.2 ⟨Nat.le_of_ble_eq_true rfl, Nat.le_of_ble_eq_true rfl⟩) rfl po_64 rfl hl.1 rfl (Nat.le_of_ble_eq_true rfl) dX10_copy_37 ⟨Nat.le_of_ble_eq_true rfl, Nat.le_of_ble_eq_true rfl⟩) (fun H locs hB => ?_)
    exact q_iret F hlocks hr hB (so1 h) (so2 h) dX10_copy_40
  have B111 : ∀ (σ0 : Mem) (H : Heap) (locs : List Loc) (ls : Array Slot), f_X10_copy_b111 σ0 = some o → Bd D cy ad σ0 s.heap H locs → lv_has ls 7 [(0, .ref (ad 64))] → W p l e rm_X10_copy s m ([.ref (ad 64), .int a1, .int a2, .int a3, .int a4, .int a5] : List Value).toArray below meth c H locs 0 0 (MQ below (CQi D cy ad o.1 o.2) ([.ref (ad 64), .int a1, .int a2, .int a3, .int a4, .int a5] : List Value).toArray s 0 0 (AA ad)) (F0 m 111 ls []) := by
    intro σ0 H locs ls h hB hl
    unfold f_X10_copy_b111 at h
    refine lv_aload_n F.1 F.2.1 dX10_copy_111 rfl (lv_at hl 0 rfl) ?_
    refine lv_iconst (v := 2) F.1 F.2.1 dX10_copy_112 (by decide) ?_
    obtain ⟨v20, σ19, hc18, h⟩ := bi_e h
    refine q_ci hB (q_goV F hE hB (k_X10_finds hI σ0 (2 : Int32) hc18) (ca_RX10_79 F.2.2.2.2 ⟨Nat.le_of_ble_eq_true rfl, Nat.le_of_ble_eq_true rfl⟩) rfl po_64 rfl hl.1 rfl (Nat.le_of_ble_eq_true rfl) dX10_copy_113 ⟨Nat.le_of_ble_eq_true rfl, Nat.le_of_ble_eq_true rfl⟩) (fun H locs hB => ?_)
    exact q_iret F hlocks hr hB (so1 h) (so2 h) dX10_copy_116
  have B157 : ∀ (n157 : Nat) (σ0 : Mem) (H : Heap) (locs : List Loc) (ls : Array Slot) (x3 : Int32) (x4 : Int32) (x5 : Int32) (x6 : Int32), f_X10_copy_b157 n157 σ0 x3 x4 x5 x6 = some o → Bd D cy ad σ0 s.heap H locs → lv_has ls 7 [(0, .ref (ad 64)), (3, .int x3), (4, .int x4), (5, .int x5), (6, .int x6)] → W p l e rm_X10_copy s m ([.ref (ad 64), .int a1, .int a2, .int a3, .int a4, .int a5] : List Value).toArray below meth c H locs 0 0 (MQ below (CQi D cy ad o.1 o.2) ([.ref (ad 64), .int a1, .int a2, .int a3, .int a4, .int a5] : List Value).toArray s 0 0 (AA ad)) (F0 m 157 ls []) := by
    intro n157
    induction n157 with
    | zero => intro σ0 H locs ls x3 x4 x5 x6 h hB hl; cases h
    | succ n157 ih157 =>
      intro σ0 H locs ls x3 x4 x5 x6 h hB hl
      rw [f_X10_copy_b157] at h
      refine lv_iload F.1 F.2.1 dX10_copy_157 (lv_at hl 4 rfl) ?_
      refine lv_iload F.1 F.2.1 dX10_copy_159 (lv_at hl 3 rfl) ?_
      refine lv_icmp_ge (tgt := 192) F.1 F.2.1 dX10_copy_161 (by decide) (fun c28 => ?_) (fun c28 => ?_)
      · replace h := it_e c28 h
        refine lv_iconst (v := 1) F.1 F.2.1 dX10_copy_192 (by decide) ?_
        exact q_iret F hlocks hr hB (so1 h) (so2 h) dX10_copy_193
      · replace h := ie_e c28 h
        refine lv_aload_n F.1 F.2.1 dX10_copy_164 rfl (lv_at hl 0 rfl) ?_
        refine gf_RX10_16 F hE hB po_64 rfl dX10_copy_165 ?_
        refine lv_bipush (v := 60) F.1 F.2.1 dX10_copy_168 (by decide) ?_
        refine lv_iload_n F.1 F.2.1 dX10_copy_170 rfl (lv_at hl 1 rfl) ?_
        refine lv_imul F.1 F.2.1 dX10_copy_171 ?_
        refine lv_iload F.1 F.2.1 dX10_copy_172 (lv_at hl 2 rfl) ?_
        refine lv_iadd F.1 F.2.1 dX10_copy_174 ?_
        refine lv_iload F.1 F.2.1 dX10_copy_175 (lv_at hl 4 rfl) ?_
        refine lv_iadd F.1 F.2.1 dX10_copy_177 ?_
        refine lv_aload_n F.1 F.2.1 dX10_copy_178 rfl (lv_at hl 0 rfl) ?_
        refine gf_RX10_19 F hE hB po_64 rfl dX10_copy_179 ?_
        refine lv_iload F.1 F.2.1 dX10_copy_182 (lv_at hl 4 rfl) ?_
        obtain ⟨hi29, h⟩ := ck_e h
        refine q_iald F hE hB po_68 hi29 dX10_copy_184 ?_
        obtain ⟨hi30, h⟩ := ck_e h
        obtain ⟨σ31, e32, h⟩ := lt_e h
        refine q_iast F hE hI hB row_67 hi30 dX10_copy_185 e32 (fun H locs hB => ?_)
        refine lv_iinc (v := (x6 + (1 : Int32))) (lv' := [(6, .int (x6 + (1 : Int32))), (0, .ref (ad 64)), (3, .int x3), (4, .int x4), (5, .int x5)]) F.1 F.2.1 dX10_copy_186 hl (k := 4) rfl rfl (by decide) rfl (fun ls hl => ?_)
        refine lv_goto (tgt := 157) F.1 F.2.1 dX10_copy_189 (by decide) ?_
        exact ih157 σ31 _ _ _ x3 x4 x5 (x6 + (1 : Int32)) h hB (lv_sub hl [1, 2, 3, 4, 0] rfl)
  have B120 : ∀ (n120 : Nat) (σ0 : Mem) (H : Heap) (locs : List Loc) (ls : Array Slot) (x1 : Int32) (x2 : Int32) (x3 : Int32) (x4 : Int32) (x5 : Int32) (x6 : Int32), f_X10_copy_b120 n120 σ0 x1 x2 x3 x4 x5 x6 = some o → Bd D cy ad σ0 s.heap H locs → lv_has ls 7 [(0, .ref (ad 64)), (1, .int x1), (2, .int x2), (3, .int x3), (4, .int x4), (5, .int x5), (6, .int x6)] → W p l e rm_X10_copy s m ([.ref (ad 64), .int a1, .int a2, .int a3, .int a4, .int a5] : List Value).toArray below meth c H locs 0 0 (MQ below (CQi D cy ad o.1 o.2) ([.ref (ad 64), .int a1, .int a2, .int a3, .int a4, .int a5] : List Value).toArray s 0 0 (AA ad)) (F0 m 120 ls []) := by
    intro n120
    induction n120 with
    | zero => intro σ0 H locs ls x1 x2 x3 x4 x5 x6 h hB hl; cases h
    | succ n120 ih120 =>
      intro σ0 H locs ls x1 x2 x3 x4 x5 x6 h hB hl
      rw [f_X10_copy_b120] at h
      refine lv_iload F.1 F.2.1 dX10_copy_120 (lv_at hl 6 rfl) ?_
      refine lv_iload F.1 F.2.1 dX10_copy_122 (lv_at hl 5 rfl) ?_
      refine lv_icmp_ge (tgt := 154) F.1 F.2.1 dX10_copy_124 (by decide) (fun c27 => ?_) (fun c27 => ?_)
      · replace h := it_e c27 h
        refine lv_iconst (v := 0) F.1 F.2.1 dX10_copy_154 (by decide) ?_
        refine lv_istore (lv' := [(6, .int (0 : Int32)), (0, .ref (ad 64)), (1, .int x1), (2, .int x2), (3, .int x3), (4, .int x4), (5, .int x5)]) F.1 F.2.1 dX10_copy_155 hl (by decide) rfl (fun ls hl => ?_)
        exact B157 300 σ0 _ _ _ x3 x4 x5 (0 : Int32) h hB (lv_sub hl [1, 4, 5, 6, 0] rfl)
      · replace h := ie_e c27 h
        refine lv_aload_n F.1 F.2.1 dX10_copy_127 rfl (lv_at hl 0 rfl) ?_
        refine gf_RX10_19 F hE hB po_64 rfl dX10_copy_128 ?_
        refine lv_iload F.1 F.2.1 dX10_copy_131 (lv_at hl 6 rfl) ?_
        refine lv_aload_n F.1 F.2.1 dX10_copy_133 rfl (lv_at hl 0 rfl) ?_
        refine gf_RX10_16 F hE hB po_64 rfl dX10_copy_134 ?_
        refine lv_bipush (v := 60) F.1 F.2.1 dX10_copy_137 (by decide) ?_
        refine lv_iload_n F.1 F.2.1 dX10_copy_139 rfl (lv_at hl 1 rfl) ?_
        refine lv_imul F.1 F.2.1 dX10_copy_140 ?_
        refine lv_iload_n F.1 F.2.1 dX10_copy_141 rfl (lv_at hl 2 rfl) ?_
        refine lv_iadd F.1 F.2.1 dX10_copy_142 ?_
        refine lv_iload F.1 F.2.1 dX10_copy_143 (lv_at hl 6 rfl) ?_
        refine lv_iadd F.1 F.2.1 dX10_copy_145 ?_
        obtain ⟨hi33, h⟩ := ck_e h
        refine q_iald F hE hB po_67 hi33 dX10_copy_146 ?_
        obtain ⟨hi34, h⟩ := ck_e h
        obtain ⟨σ35, e36, h⟩ := lt_e h
        refine q_iast F hE hI hB row_68 hi34 dX10_copy_147 e36 (fun H locs hB => ?_)
        refine lv_iinc (v := (x6 + (1 : Int32))) (lv' := [(6, .int (x6 + (1 : Int32))), (0, .ref (ad 64)), (1, .int x1), (2, .int x2), (3, .int x3), (4, .int x4), (5, .int x5)]) F.1 F.2.1 dX10_copy_148 hl (k := 6) rfl rfl (by decide) rfl (fun ls hl => ?_)
        refine lv_goto (tgt := 120) F.1 F.2.1 dX10_copy_151 (by decide) ?_
        exact ih120 σ35 _ _ _ x1 x2 x3 x4 x5 (x6 + (1 : Int32)) h hB (lv_sub hl [1, 2, 3, 4, 5, 6, 0] rfl)
  unfold f_X10_copy at h
  refine lv_iload_n F.1 F.2.1 dX10_copy_0 rfl (lv_at hl 1 rfl) ?_
  obtain ⟨v2, hc1, h⟩ := bp_e h
  refine q_ci hB (q_goS F hE hB (k_X10_isSheet hI σ0 a1 hc1) (ca_RX10_73 F.2.2.2.2 ⟨Nat.le_of_ble_eq_true rfl, Nat.le_of_ble_eq_true rfl⟩) rfl hl.1 rfl (Nat.le_of_ble_eq_true rfl) dX10_copy_1 ⟨Nat.le_of_ble_eq_true rfl, Nat.le_of_ble_eq_true rfl⟩) (fun H locs hB => ?_)
  refine lv_if_eq (tgt := 14) F.1 F.2.1 dX10_copy_4 (by decide) (fun c3 => ?_) (fun c3 => ?_)
  · replace h := it_e c3 h
    refine lv_bipush (v := (-2)) F.1 F.2.1 dX10_copy_14 (by decide) ?_
    exact q_iret F hlocks hr hB (so1 h) (so2 h) dX10_copy_16
  · replace h := ie_e c3 h
    refine lv_iload_n F.1 F.2.1 dX10_copy_7 rfl (lv_at hl 3 rfl) ?_
    obtain ⟨v5, hc4, h⟩ := bp_e h
    refine q_ci hB (q_goS F hE hB (k_X10_isSheet hI σ0 a3 hc4) (ca_RX10_73 F.2.2.2.2 ⟨Nat.le_of_ble_eq_true rfl, Nat.le_of_ble_eq_true rfl⟩) rfl hl.1 rfl (Nat.le_of_ble_eq_true rfl) dX10_copy_8 ⟨Nat.le_of_ble_eq_true rfl, Nat.le_of_ble_eq_true rfl⟩) (fun H locs hB => ?_)
    refine lv_if_ne (tgt := 17) F.1 F.2.1 dX10_copy_11 (by decide) (fun c6 => ?_) (fun c6 => ?_)
    · replace h := ie_e c6 h
      refine lv_aload_n F.1 F.2.1 dX10_copy_17 rfl (lv_at hl 0 rfl) ?_
      refine gf_RX10_7 F hE hB po_64 rfl dX10_copy_18 ?_
      refine lv_iload_n F.1 F.2.1 dX10_copy_21 rfl (lv_at hl 1 rfl) ?_
      obtain ⟨hi7, h⟩ := ck_e h
      refine q_iald F hE hB po_65 hi7 dX10_copy_22 ?_
      refine lv_if_lt (tgt := 35) F.1 F.2.1 dX10_copy_23 (by decide) (fun c8 => ?_) (fun c8 => ?_)
      · replace h := it_e c8 h
        exact B35 σ0 _ _ _ h hB (lv_sub hl [0] rfl)
      · replace h := ie_e c8 h
        refine lv_aload_n F.1 F.2.1 dX10_copy_26 rfl (lv_at hl 0 rfl) ?_
        refine gf_RX10_7 F hE hB po_64 rfl dX10_copy_27 ?_
        refine lv_iload_n F.1 F.2.1 dX10_copy_30 rfl (lv_at hl 3 rfl) ?_
        obtain ⟨hi12, h⟩ := ck_e h
        refine q_iald F hE hB po_65 hi12 dX10_copy_31 ?_
        refine lv_if_ge (tgt := 41) F.1 F.2.1 dX10_copy_32 (by decide) (fun c13 => ?_) (fun c13 => ?_)
        · replace h := it_e c13 h
          refine lv_aload_n F.1 F.2.1 dX10_copy_41 rfl (lv_at hl 0 rfl) ?_
          refine gf_RX10_7 F hE hB po_64 rfl dX10_copy_42 ?_
          refine lv_iload_n F.1 F.2.1 dX10_copy_45 rfl (lv_at hl 1 rfl) ?_
          obtain ⟨hi14, h⟩ := ck_e h
          refine q_iald F hE hB po_65 hi14 dX10_copy_46 ?_
          refine lv_aload_n F.1 F.2.1 dX10_copy_47 rfl (lv_at hl 0 rfl) ?_
          refine gf_RX10_7 F hE hB po_64 rfl dX10_copy_48 ?_
          refine lv_iload_n F.1 F.2.1 dX10_copy_51 rfl (lv_at hl 3 rfl) ?_
          obtain ⟨hi15, h⟩ := ck_e h
          refine q_iald F hE hB po_65 hi15 dX10_copy_52 ?_
          refine lv_icmp_eq (tgt := 62) F.1 F.2.1 dX10_copy_53 (by decide) (fun c16 => ?_) (fun c16 => ?_)
          · replace h := it_e c16 h
            refine lv_iload_n F.1 F.2.1 dX10_copy_62 rfl (lv_at hl 2 rfl) ?_
            refine lv_if_lt (tgt := 111) F.1 F.2.1 dX10_copy_63 (by decide) (fun c17 => ?_) (fun c17 => ?_)
            · replace h := it_e c17 h
              exact B111 σ0 _ _ _ h hB (lv_sub hl [0] rfl)
            · replace h := ie_e c17 h
              refine lv_iload F.1 F.2.1 dX10_copy_66 (lv_at hl 4 rfl) ?_
              refine lv_if_lt (tgt := 111) F.1 F.2.1 dX10_copy_68 (by decide) (fun c21 => ?_) (fun c21 => ?_)
              · replace h := it_e c21 h
                exact B111 σ0 _ _ _ h hB (lv_sub hl [0] rfl)
              · replace h := ie_e c21 h
                refine lv_iload F.1 F.2.1 dX10_copy_71 (lv_at hl 5 rfl) ?_
                refine lv_if_lt (tgt := 111) F.1 F.2.1 dX10_copy_73 (by decide) (fun c22 => ?_) (fun c22 => ?_)
                · replace h := it_e c22 h
                  exact B111 σ0 _ _ _ h hB (lv_sub hl [0] rfl)
                · replace h := ie_e c22 h
                  refine lv_iload_n F.1 F.2.1 dX10_copy_76 rfl (lv_at hl 2 rfl) ?_
                  refine lv_i2l F.1 F.2.1 dX10_copy_77 rfl ?_
                  refine lv_iload F.1 F.2.1 dX10_copy_78 (lv_at hl 5 rfl) ?_
                  refine lv_i2l F.1 F.2.1 dX10_copy_80 rfl ?_
                  refine lv_ladd F.1 F.2.1 dX10_copy_81 ?_
                  refine lv_aload_n F.1 F.2.1 dX10_copy_82 rfl (lv_at hl 0 rfl) ?_
                  refine gf_RX10_13 F hE hB po_64 rfl dX10_copy_83 ?_
                  refine lv_iload_n F.1 F.2.1 dX10_copy_86 rfl (lv_at hl 1 rfl) ?_
                  obtain ⟨hi23, h⟩ := ck_e h
                  refine q_iald F hE hB po_66 hi23 dX10_copy_87 ?_
                  refine lv_i2l F.1 F.2.1 dX10_copy_88 rfl ?_
                  refine W.lcmp F.1 F.2.1 dX10_copy_89 ?_
                  refine lv_if_gt (tgt := 111) F.1 F.2.1 dX10_copy_90 (by decide) (fun c24 => ?_) (fun c24 => ?_)
                  · replace h := it_e c24 h
                    exact B111 σ0 _ _ _ h hB (lv_sub hl [0] rfl)
                  · replace h := ie_e c24 h
                    refine lv_iload F.1 F.2.1 dX10_copy_93 (lv_at hl 4 rfl) ?_
                    refine lv_i2l F.1 F.2.1 dX10_copy_95 rfl ?_
                    refine lv_iload F.1 F.2.1 dX10_copy_96 (lv_at hl 5 rfl) ?_
                    refine lv_i2l F.1 F.2.1 dX10_copy_98 rfl ?_
                    refine lv_ladd F.1 F.2.1 dX10_copy_99 ?_
                    refine lv_aload_n F.1 F.2.1 dX10_copy_100 rfl (lv_at hl 0 rfl) ?_
                    refine gf_RX10_13 F hE hB po_64 rfl dX10_copy_101 ?_
                    refine lv_iload_n F.1 F.2.1 dX10_copy_104 rfl (lv_at hl 3 rfl) ?_
                    obtain ⟨hi25, h⟩ := ck_e h
                    refine q_iald F hE hB po_66 hi25 dX10_copy_105 ?_
                    refine lv_i2l F.1 F.2.1 dX10_copy_106 rfl ?_
                    refine W.lcmp F.1 F.2.1 dX10_copy_107 ?_
                    refine lv_if_le (tgt := 117) F.1 F.2.1 dX10_copy_108 (by decide) (fun c26 => ?_) (fun c26 => ?_)
                    · replace h := it_e c26 h
                      refine lv_iconst (v := 0) F.1 F.2.1 dX10_copy_117 (by decide) ?_
                      refine lv_istore (lv' := [(6, .int (0 : Int32)), (0, .ref (ad 64)), (1, .int a1), (2, .int a2), (3, .int a3), (4, .int a4), (5, .int a5)]) F.1 F.2.1 dX10_copy_118 hl (by decide) rfl (fun ls hl => ?_)
                      exact B120 300 σ0 _ _ _ a1 a2 a3 a4 a5 (0 : Int32) h hB (lv_sub hl [1, 2, 3, 4, 5, 6, 0] rfl)
                    · replace h := ie_e c26 h
                      exact B111 σ0 _ _ _ h hB (lv_sub hl [0] rfl)
          · replace h := ie_e c16 h
            refine lv_aload_n F.1 F.2.1 dX10_copy_56 rfl (lv_at hl 0 rfl) ?_
            refine lv_iconst (v := 4) F.1 F.2.1 dX10_copy_57 (by decide) ?_
            obtain ⟨v39, σ38, hc37, h⟩ := bi_e h
            refine q_ci hB (q_goV F hE hB (k_X10_finds hI σ0 (4 : Int32) hc37) (ca_RX10_79 F.2.2.2.2 ⟨Nat.le_of_ble_eq_true rfl, Nat.le_of_ble_eq_true rfl⟩) rfl po_64 rfl hl.1 rfl (Nat.le_of_ble_eq_true rfl) dX10_copy_58 ⟨Nat.le_of_ble_eq_true rfl, Nat.le_of_ble_eq_true rfl⟩) (fun H locs hB => ?_)
            exact q_iret F hlocks hr hB (so1 h) (so2 h) dX10_copy_61
        · replace h := ie_e c13 h
          exact B35 σ0 _ _ _ h hB (lv_sub hl [0] rfl)
    · replace h := it_e c6 h
      refine lv_bipush (v := (-2)) F.1 F.2.1 dX10_copy_14 (by decide) ?_
      exact q_iret F hlocks hr hB (so1 h) (so2 h) dX10_copy_16
def f_X10_type_b39 (σ0 : Mem) (x1 : Int32) (x2 : Int32) (y0 : Int32) (y1 : Int32) : Option (Int32 × Mem) := (if y1 = y0 then (some ((-4 : Int32), σ0)) else (ck x1 2 (ck (((64 : Int32) * x1) + (σ0.1 70 x1.toNatClampNeg)) 128 (lt (ms σ0 69 (((64 : Int32) * x1) + (σ0.1 70 x1.toNatClampNeg)).toNatClampNeg x2) (fun σ12 => (ck x1 2 (ck x1 2 (lt (ms σ12 70 x1.toNatClampNeg ((σ12.1 70 x1.toNatClampNeg) + (1 : Int32))) (fun σ16 => (ck x1 2 (some ((σ16.1 70 x1.toNatClampNeg), σ16))))))))))))
def f_X10_type (σ0 : Mem) (a1 : Int32) (a2 : Int32) : Option (Int32 × Mem) := (bp (f_X10_isTwo σ0 a1) (fun v2 => (if v2 = (0 : Int32) then (some ((-2 : Int32), σ0)) else (bp (f_X10_in σ0 a2.toInt64 (0 : Int64) (255 : Int64)) (fun v5 => (if v5 = (0 : Int32) then (some ((-2 : Int32), σ0)) else (ck a1 2 (if a1 = (0 : Int32) then (f_X10_type_b39 σ0 a1 a2 (31 : Int32) (σ0.1 70 a1.toNatClampNeg)) else (f_X10_type_b39 σ0 a1 a2 (63 : Int32) (σ0.1 70 a1.toNatClampNeg))))))))))
set_option maxHeartbeats 4000000 in
set_option maxRecDepth 100000 in
theorem k_X10_type {l : Launch} {D : va_G} {cy : Nat → ClassId} {ad : Nat → Nat} {ta tb : Nat} (hI : AdI ad) (σ0 : Mem) (a1 : Int32) (a2 : Int32) {o : Int32 × Mem} (h : f_X10_type σ0 a1 a2 = some o) : Met l yX10_type (Cond.code yX10_type cX10_type 3 (some .int) :: wG) rm_X10_type (CP D cy ad ta tb σ0 [.ref (ad 64), .int a1, .int a2]) (CQi D cy ad o.1 o.2) 0 0 (AA ad) := by
  refine Met.ofW (cc := cX10_type) (maxL := 3) (ret := (some .int)) (by decide) rfl ?_
  intro p e s m args below meth c s₁ B hml hv
  obtain ⟨rfl, hE, hP⟩ := hv
  have hts := atoms_spec (ws := Cond.code yX10_type cX10_type 3 (some .int) :: wG) B.pre
  have F : CallFix p m c cX10_type 3 s _ wG RX10 := ⟨B.exec, B.bytes, hml, findClass_of_methodNamed B.named, fun w hw => hts w (List.mem_cons_of_mem _ hw)⟩
  have hr := B.returns
  have hlocks := B.notSynchronized
  have hB : Bd D cy ad σ0 s.heap s.heap [] := ⟨hP, va_S.rf⟩
  have hl := lv_entry ([.ref (ad 64), .int a1, .int a2] : List Value) (n := 3) (Nat.le_of_ble_eq_true rfl)
  rw [lg_entry_eq]
  generalize (lg_sl ([.ref (ad 64), .int a1, .int a2] : List Value) ++ List.replicate (3 - (lg_sl ([.ref (ad 64), .int a1, .int a2] : List Value)).length) Slot.unset).toArray = ls at hl ⊢
  have hl : lv_has ls 3 [(0, .ref (ad 64)), (1, .int a1), (2, .int a2)] := hl
  have B39 : ∀ (σ0 : Mem) (H : Heap) (locs : List Loc) (ls : Array Slot) (x1 : Int32) (x2 : Int32) (y0 : Int32) (y1 : Int32), f_X10_type_b39 σ0 x1 x2 y0 y1 = some o → Bd D cy ad σ0 s.heap H locs → lv_has ls 3 [(0, .ref (ad 64)), (1, .int x1), (2, .int x2)] → W p l e rm_X10_type s m ([.ref (ad 64), .int a1, .int a2] : List Value).toArray below meth c H locs 0 0 (MQ below (CQi D cy ad o.1 o.2) ([.ref (ad 64), .int a1, .int a2] : List Value).toArray s 0 0 (AA ad)) (F0 m 39 ls [.int y0, .int y1]) := by
    intro σ0 H locs ls x1 x2 y0 y1 h hB hl
    unfold f_X10_type_b39 at h
    refine lv_icmp_ne (tgt := 45) F.1 F.2.1 dX10_type_39 (by decide) (fun c9 => ?_) (fun c9 => ?_)
    · replace h := ie_e c9 h
      refine lv_aload_n F.1 F.2.1 dX10_type_45 rfl (lv_at hl 0 rfl) ?_
      refine gf_RX10_22 F hE hB po_64 rfl dX10_type_46 ?_
      refine lv_bipush (v := 64) F.1 F.2.1 dX10_type_49 (by decide) ?_
      refine lv_iload_n F.1 F.2.1 dX10_type_51 rfl (lv_at hl 1 rfl) ?_
      refine lv_imul F.1 F.2.1 dX10_type_52 ?_
      refine lv_aload_n F.1 F.2.1 dX10_type_53 rfl (lv_at hl 0 rfl) ?_
      refine gf_RX10_25 F hE hB po_64 rfl dX10_type_54 ?_
      refine lv_iload_n F.1 F.2.1 dX10_type_57 rfl (lv_at hl 1 rfl) ?_
      obtain ⟨hi10, h⟩ := ck_e h
      refine q_iald F hE hB po_70 hi10 dX10_type_58 ?_
      refine lv_iadd F.1 F.2.1 dX10_type_59 ?_
      refine lv_iload_n F.1 F.2.1 dX10_type_60 rfl (lv_at hl 2 rfl) ?_
      obtain ⟨hi11, h⟩ := ck_e h
      obtain ⟨σ12, e13, h⟩ := lt_e h
      refine q_iast F hE hI hB row_69 hi11 dX10_type_61 e13 (fun H locs hB => ?_)
      refine lv_aload_n F.1 F.2.1 dX10_type_62 rfl (lv_at hl 0 rfl) ?_
      refine gf_RX10_25 F hE hB po_64 rfl dX10_type_63 ?_
      refine lv_iload_n F.1 F.2.1 dX10_type_66 rfl (lv_at hl 1 rfl) ?_
      refine lv_dup2_11 F.1 F.2.1 dX10_type_67 rfl rfl ?_
      obtain ⟨hi14, h⟩ := ck_e h
      refine q_iald F hE hB po_70 hi14 dX10_type_68 ?_
      refine lv_iconst (v := 1) F.1 F.2.1 dX10_type_69 (by decide) ?_
      refine lv_iadd F.1 F.2.1 dX10_type_70 ?_
      obtain ⟨hi15, h⟩ := ck_e h
      obtain ⟨σ16, e17, h⟩ := lt_e h
      refine q_iast F hE hI hB row_70 hi15 dX10_type_71 e17 (fun H locs hB => ?_)
      refine lv_aload_n F.1 F.2.1 dX10_type_72 rfl (lv_at hl 0 rfl) ?_
      refine gf_RX10_25 F hE hB po_64 rfl dX10_type_73 ?_
      refine lv_iload_n F.1 F.2.1 dX10_type_76 rfl (lv_at hl 1 rfl) ?_
      obtain ⟨hi18, h⟩ := ck_e h
      refine q_iald F hE hB po_70 hi18 dX10_type_77 ?_
      exact q_iret F hlocks hr hB (so1 h) (so2 h) dX10_type_78
    · replace h := it_e c9 h
      refine lv_bipush (v := (-4)) F.1 F.2.1 dX10_type_42 (by decide) ?_
      exact q_iret F hlocks hr hB (so1 h) (so2 h) dX10_type_44
  unfold f_X10_type at h
  refine lv_iload_n F.1 F.2.1 dX10_type_0 rfl (lv_at hl 1 rfl) ?_
  obtain ⟨v2, hc1, h⟩ := bp_e h
  refine q_ci hB (q_goS F hE hB (k_X10_isTwo hI σ0 a1 hc1) (ca_RX10_92 F.2.2.2.2 ⟨Nat.le_of_ble_eq_true rfl, Nat.le_of_ble_eq_true rfl⟩) rfl hl.1 rfl (Nat.le_of_ble_eq_true rfl) dX10_type_1 ⟨Nat.le_of_ble_eq_true rfl, Nat.le_of_ble_eq_true rfl⟩) (fun H locs hB => ?_)
  refine lv_if_eq (tgt := 19) F.1 F.2.1 dX10_type_4 (by decide) (fun c3 => ?_) (fun c3 => ?_)
  · replace h := it_e c3 h
    refine lv_bipush (v := (-2)) F.1 F.2.1 dX10_type_19 (by decide) ?_
    exact q_iret F hlocks hr hB (so1 h) (so2 h) dX10_type_21
  · replace h := ie_e c3 h
    refine lv_iload_n F.1 F.2.1 dX10_type_7 rfl (lv_at hl 2 rfl) ?_
    refine lv_i2l F.1 F.2.1 dX10_type_8 rfl ?_
    refine lv_lconst (v := 0) F.1 F.2.1 dX10_type_9 (by decide) ?_
    refine lv_ldc2 (v := 255) F.1 F.2.1 F.2.2.2.1 (F.2.2.2.2 _ wm_k_RX10_95) dX10_type_10 ?_
    obtain ⟨v5, hc4, h⟩ := bp_e h
    refine q_ci hB (q_goS F hE hB (k_X10_in hI σ0 a2.toInt64 (0 : Int64) (255 : Int64) hc4) (ca_RX10_64 F.2.2.2.2 ⟨Nat.le_of_ble_eq_true rfl, Nat.le_of_ble_eq_true rfl⟩) rfl hl.1 rfl (Nat.le_of_ble_eq_true rfl) dX10_type_13 ⟨Nat.le_of_ble_eq_true rfl, Nat.le_of_ble_eq_true rfl⟩) (fun H locs hB => ?_)
    refine lv_if_ne (tgt := 22) F.1 F.2.1 dX10_type_16 (by decide) (fun c6 => ?_) (fun c6 => ?_)
    · replace h := ie_e c6 h
      refine lv_aload_n F.1 F.2.1 dX10_type_22 rfl (lv_at hl 0 rfl) ?_
      refine gf_RX10_25 F hE hB po_64 rfl dX10_type_23 ?_
      refine lv_iload_n F.1 F.2.1 dX10_type_26 rfl (lv_at hl 1 rfl) ?_
      obtain ⟨hi7, h⟩ := ck_e h
      refine q_iald F hE hB po_70 hi7 dX10_type_27 ?_
      refine lv_iload_n F.1 F.2.1 dX10_type_28 rfl (lv_at hl 1 rfl) ?_
      refine lv_if_ne (tgt := 37) F.1 F.2.1 dX10_type_29 (by decide) (fun c8 => ?_) (fun c8 => ?_)
      · replace h := ie_e c8 h
        refine lv_bipush (v := 63) F.1 F.2.1 dX10_type_37 (by decide) ?_
        exact B39 σ0 _ _ _ a1 a2 (63 : Int32) (σ0.1 70 a1.toNatClampNeg) h hB (lv_sub hl [0, 1, 2] rfl)
      · replace h := it_e c8 h
        refine lv_bipush (v := 31) F.1 F.2.1 dX10_type_32 (by decide) ?_
        refine lv_goto (tgt := 39) F.1 F.2.1 dX10_type_34 (by decide) ?_
        exact B39 σ0 _ _ _ a1 a2 (31 : Int32) (σ0.1 70 a1.toNatClampNeg) h hB (lv_sub hl [0, 1, 2] rfl)
    · replace h := it_e c6 h
      refine lv_bipush (v := (-2)) F.1 F.2.1 dX10_type_19 (by decide) ?_
      exact q_iret F hlocks hr hB (so1 h) (so2 h) dX10_type_21
def f_X10_wipe (σ0 : Mem) (a1 : Int32) : Option (Int32 × Mem) := (bp (f_X10_isTwo σ0 a1) (fun v2 => (if v2 = (0 : Int32) then (some ((-2 : Int32), σ0)) else (ck a1 2 (ck a1 2 (lt (ms σ0 70 a1.toNatClampNeg (0 : Int32)) (fun σ6 => (some ((σ0.1 70 a1.toNatClampNeg), σ6)))))))))
set_option maxHeartbeats 4000000 in
set_option maxRecDepth 100000 in
theorem k_X10_wipe {l : Launch} {D : va_G} {cy : Nat → ClassId} {ad : Nat → Nat} {ta tb : Nat} (hI : AdI ad) (σ0 : Mem) (a1 : Int32) {o : Int32 × Mem} (h : f_X10_wipe σ0 a1 = some o) : Met l yX10_wipe (Cond.code yX10_wipe cX10_wipe 3 (some .int) :: wG) rm_X10_wipe (CP D cy ad ta tb σ0 [.ref (ad 64), .int a1]) (CQi D cy ad o.1 o.2) 0 0 (AA ad) := by
  refine Met.ofW (cc := cX10_wipe) (maxL := 3) (ret := (some .int)) (by decide) rfl ?_
  intro p e s m args below meth c s₁ B hml hv
  obtain ⟨rfl, hE, hP⟩ := hv
  have hts := atoms_spec (ws := Cond.code yX10_wipe cX10_wipe 3 (some .int) :: wG) B.pre
  have F : CallFix p m c cX10_wipe 3 s _ wG RX10 := ⟨B.exec, B.bytes, hml, findClass_of_methodNamed B.named, fun w hw => hts w (List.mem_cons_of_mem _ hw)⟩
  have hr := B.returns
  have hlocks := B.notSynchronized
  have hB : Bd D cy ad σ0 s.heap s.heap [] := ⟨hP, va_S.rf⟩
  have hl := lv_entry ([.ref (ad 64), .int a1] : List Value) (n := 3) (Nat.le_of_ble_eq_true rfl)
  rw [lg_entry_eq]
  generalize (lg_sl ([.ref (ad 64), .int a1] : List Value) ++ List.replicate (3 - (lg_sl ([.ref (ad 64), .int a1] : List Value)).length) Slot.unset).toArray = ls at hl ⊢
  have hl : lv_has ls 3 [(0, .ref (ad 64)), (1, .int a1)] := hl
  unfold f_X10_wipe at h
  refine lv_iload_n F.1 F.2.1 dX10_wipe_0 rfl (lv_at hl 1 rfl) ?_
  obtain ⟨v2, hc1, h⟩ := bp_e h
  refine q_ci hB (q_goS F hE hB (k_X10_isTwo hI σ0 a1 hc1) (ca_RX10_92 F.2.2.2.2 ⟨Nat.le_of_ble_eq_true rfl, Nat.le_of_ble_eq_true rfl⟩) rfl hl.1 rfl (Nat.le_of_ble_eq_true rfl) dX10_wipe_1 ⟨Nat.le_of_ble_eq_true rfl, Nat.le_of_ble_eq_true rfl⟩) (fun H locs hB => ?_)
  refine lv_if_ne (tgt := 10) F.1 F.2.1 dX10_wipe_4 (by decide) (fun c3 => ?_) (fun c3 => ?_)
  · replace h := ie_e c3 h
    refine lv_aload_n F.1 F.2.1 dX10_wipe_10 rfl (lv_at hl 0 rfl) ?_
    refine gf_RX10_25 F hE hB po_64 rfl dX10_wipe_11 ?_
    refine lv_iload_n F.1 F.2.1 dX10_wipe_14 rfl (lv_at hl 1 rfl) ?_
    obtain ⟨hi4, h⟩ := ck_e h
    refine q_iald F hE hB po_70 hi4 dX10_wipe_15 ?_
    refine lv_istore_n (lv' := [(2, .int (σ0.1 70 a1.toNatClampNeg)), (0, .ref (ad 64)), (1, .int a1)]) F.1 F.2.1 dX10_wipe_16 rfl hl (by decide) rfl (fun ls hl => ?_)
    refine lv_aload_n F.1 F.2.1 dX10_wipe_17 rfl (lv_at hl 1 rfl) ?_
    refine gf_RX10_25 F hE hB po_64 rfl dX10_wipe_18 ?_
    refine lv_iload_n F.1 F.2.1 dX10_wipe_21 rfl (lv_at hl 2 rfl) ?_
    refine lv_iconst (v := 0) F.1 F.2.1 dX10_wipe_22 (by decide) ?_
    obtain ⟨hi5, h⟩ := ck_e h
    obtain ⟨σ6, e7, h⟩ := lt_e h
    refine q_iast F hE hI hB row_70 hi5 dX10_wipe_23 e7 (fun H locs hB => ?_)
    refine lv_iload_n F.1 F.2.1 dX10_wipe_24 rfl (lv_at hl 0 rfl) ?_
    exact q_iret F hlocks hr hB (so1 h) (so2 h) dX10_wipe_25
  · replace h := it_e c3 h
    refine lv_bipush (v := (-2)) F.1 F.2.1 dX10_wipe_7 (by decide) ?_
    exact q_iret F hlocks hr hB (so1 h) (so2 h) dX10_wipe_9
def f_X10_undo (σ0 : Mem) (a1 : Int32) : Option (Int32 × Mem) := (bp (f_X10_isTwo σ0 a1) (fun v2 => (if v2 = (0 : Int32) then (some ((-2 : Int32), σ0)) else (ck a1 2 (if (σ0.1 70 a1.toNatClampNeg) = (0 : Int32) then (some ((-3 : Int32), σ0)) else (ck a1 2 (ck a1 2 (lt (ms σ0 70 a1.toNatClampNeg ((σ0.1 70 a1.toNatClampNeg) - (1 : Int32))) (fun σ8 => (ck a1 2 (some ((σ8.1 70 a1.toNatClampNeg), σ8))))))))))))
set_option maxHeartbeats 4000000 in
set_option maxRecDepth 100000 in
theorem k_X10_undo {l : Launch} {D : va_G} {cy : Nat → ClassId} {ad : Nat → Nat} {ta tb : Nat} (hI : AdI ad) (σ0 : Mem) (a1 : Int32) {o : Int32 × Mem} (h : f_X10_undo σ0 a1 = some o) : Met l yX10_undo (Cond.code yX10_undo cX10_undo 2 (some .int) :: wG) rm_X10_undo (CP D cy ad ta tb σ0 [.ref (ad 64), .int a1]) (CQi D cy ad o.1 o.2) 0 0 (AA ad) := by
  refine Met.ofW (cc := cX10_undo) (maxL := 2) (ret := (some .int)) (by decide) rfl ?_
  intro p e s m args below meth c s₁ B hml hv
  obtain ⟨rfl, hE, hP⟩ := hv
  have hts := atoms_spec (ws := Cond.code yX10_undo cX10_undo 2 (some .int) :: wG) B.pre
  have F : CallFix p m c cX10_undo 2 s _ wG RX10 := ⟨B.exec, B.bytes, hml, findClass_of_methodNamed B.named, fun w hw => hts w (List.mem_cons_of_mem _ hw)⟩
  have hr := B.returns
  have hlocks := B.notSynchronized
  have hB : Bd D cy ad σ0 s.heap s.heap [] := ⟨hP, va_S.rf⟩
  have hl := lv_entry ([.ref (ad 64), .int a1] : List Value) (n := 2) (Nat.le_of_ble_eq_true rfl)
  rw [lg_entry_eq]
  generalize (lg_sl ([.ref (ad 64), .int a1] : List Value) ++ List.replicate (2 - (lg_sl ([.ref (ad 64), .int a1] : List Value)).length) Slot.unset).toArray = ls at hl ⊢
  have hl : lv_has ls 2 [(0, .ref (ad 64)), (1, .int a1)] := hl
  unfold f_X10_undo at h
  refine lv_iload_n F.1 F.2.1 dX10_undo_0 rfl (lv_at hl 1 rfl) ?_
  obtain ⟨v2, hc1, h⟩ := bp_e h
  refine q_ci hB (q_goS F hE hB (k_X10_isTwo hI σ0 a1 hc1) (ca_RX10_92 F.2.2.2.2 ⟨Nat.le_of_ble_eq_true rfl, Nat.le_of_ble_eq_true rfl⟩) rfl hl.1 rfl (Nat.le_of_ble_eq_true rfl) dX10_undo_1 ⟨Nat.le_of_ble_eq_true rfl, Nat.le_of_ble_eq_true rfl⟩) (fun H locs hB => ?_)
  refine lv_if_ne (tgt := 10) F.1 F.2.1 dX10_undo_4 (by decide) (fun c3 => ?_) (fun c3 => ?_)
  · replace h := ie_e c3 h
    refine lv_aload_n F.1 F.2.1 dX10_undo_10 rfl (lv_at hl 0 rfl) ?_
    refine gf_RX10_25 F hE hB po_64 rfl dX10_undo_11 ?_
    refine lv_iload_n F.1 F.2.1 dX10_undo_14 rfl (lv_at hl 1 rfl) ?_
    obtain ⟨hi4, h⟩ := ck_e h
    refine q_iald F hE hB po_70 hi4 dX10_undo_15 ?_
    refine lv_if_ne (tgt := 22) F.1 F.2.1 dX10_undo_16 (by decide) (fun c5 => ?_) (fun c5 => ?_)
    · replace h := ie_e c5 h
      refine lv_aload_n F.1 F.2.1 dX10_undo_22 rfl (lv_at hl 0 rfl) ?_
      refine gf_RX10_25 F hE hB po_64 rfl dX10_undo_23 ?_
      refine lv_iload_n F.1 F.2.1 dX10_undo_26 rfl (lv_at hl 1 rfl) ?_
      refine lv_dup2_11 F.1 F.2.1 dX10_undo_27 rfl rfl ?_
      obtain ⟨hi6, h⟩ := ck_e h
      refine q_iald F hE hB po_70 hi6 dX10_undo_28 ?_
      refine lv_iconst (v := 1) F.1 F.2.1 dX10_undo_29 (by decide) ?_
      refine lv_isub F.1 F.2.1 dX10_undo_30 ?_
      obtain ⟨hi7, h⟩ := ck_e h
      obtain ⟨σ8, e9, h⟩ := lt_e h
      refine q_iast F hE hI hB row_70 hi7 dX10_undo_31 e9 (fun H locs hB => ?_)
      refine lv_aload_n F.1 F.2.1 dX10_undo_32 rfl (lv_at hl 0 rfl) ?_
      refine gf_RX10_25 F hE hB po_64 rfl dX10_undo_33 ?_
      refine lv_iload_n F.1 F.2.1 dX10_undo_36 rfl (lv_at hl 1 rfl) ?_
      obtain ⟨hi10, h⟩ := ck_e h
      refine q_iald F hE hB po_70 hi10 dX10_undo_37 ?_
      exact q_iret F hlocks hr hB (so1 h) (so2 h) dX10_undo_38
    · replace h := it_e c5 h
      refine lv_bipush (v := (-3)) F.1 F.2.1 dX10_undo_19 (by decide) ?_
      exact q_iret F hlocks hr hB (so1 h) (so2 h) dX10_undo_21
  · replace h := it_e c3 h
    refine lv_bipush (v := (-2)) F.1 F.2.1 dX10_undo_7 (by decide) ?_
    exact q_iret F hlocks hr hB (so1 h) (so2 h) dX10_undo_9
def f_X10_bridgeOf (σ0 : Mem) (a0 : Int32) (a1 : Int32) : Option (Int32) := (if a0 = (0 : Int32) then (if a1 = (108 : Int32) then (some (0 : Int32)) else (if a1 = (110 : Int32) then (some (1 : Int32)) else (if a1 = (109 : Int32) then (some (2 : Int32)) else (some (-9 : Int32))))) else (if a0 = (1 : Int32) then (bp (f_X10_in σ0 a1.toInt64 (97 : Int64) (102 : Int64)) (fun v7 => (if v7 = (0 : Int32) then (some (-9 : Int32)) else (some (a1 - (97 : Int32)))))) else (if a0 = (2 : Int32) then (bp (f_X10_in σ0 a1.toInt64 (49 : Int64) (57 : Int64)) (fun v11 => (if v11 = (0 : Int32) then (some (-9 : Int32)) else (some (a1 - (48 : Int32)))))) else (if a1 = (59 : Int32) then (some (0 : Int32)) else (some (-9 : Int32))))))
set_option maxHeartbeats 4000000 in
set_option maxRecDepth 100000 in
theorem k_X10_bridgeOf {l : Launch} {D : va_G} {cy : Nat → ClassId} {ad : Nat → Nat} {ta tb : Nat} (hI : AdI ad) (σ0 : Mem) (a0 : Int32) (a1 : Int32) {o : Int32} (h : f_X10_bridgeOf σ0 a0 a1 = some o) : Met l yX10_bridgeOf (Cond.code yX10_bridgeOf cX10_bridgeOf 2 (some .int) :: wG) rm_X10_bridgeOf (CP D cy ad ta tb σ0 [.int a0, .int a1]) (CQi D cy ad o σ0) 0 0 (AA ad) := by
  refine Met.ofW (cc := cX10_bridgeOf) (maxL := 2) (ret := (some .int)) (by decide) rfl ?_
  intro p e s m args below meth c s₁ B hml hv
  obtain ⟨rfl, hE, hP⟩ := hv
  have hts := atoms_spec (ws := Cond.code yX10_bridgeOf cX10_bridgeOf 2 (some .int) :: wG) B.pre
  have F : CallFix p m c cX10_bridgeOf 2 s _ wG RX10 := ⟨B.exec, B.bytes, hml, findClass_of_methodNamed B.named, fun w hw => hts w (List.mem_cons_of_mem _ hw)⟩
  have hr := B.returns
  have hlocks := B.notSynchronized
  have hB : Bd D cy ad σ0 s.heap s.heap [] := ⟨hP, va_S.rf⟩
  have hl := lv_entry ([.int a0, .int a1] : List Value) (n := 2) (Nat.le_of_ble_eq_true rfl)
  rw [lg_entry_eq]
  generalize (lg_sl ([.int a0, .int a1] : List Value) ++ List.replicate (2 - (lg_sl ([.int a0, .int a1] : List Value)).length) Slot.unset).toArray = ls at hl ⊢
  have hl : lv_has ls 2 [(0, .int a0), (1, .int a1)] := hl
  unfold f_X10_bridgeOf at h
  refine lv_iload_n F.1 F.2.1 dX10_bridgeOf_0 rfl (lv_at hl 0 rfl) ?_
  by_cases c1 : a0 = (0 : Int32)
  · replace h := it_e c1 h
    refine lv_tableIn (off := 27) (tgt := 28) F.1 F.2.1 dX10_bridgeOf_1 (by rw [c1]; decide) (by rw [c1]; decide) (by rw [c1]; decide) (by decide) ?_
    refine lv_iload_n F.1 F.2.1 dX10_bridgeOf_28 rfl (lv_at hl 1 rfl) ?_
    refine lv_bipush (v := 108) F.1 F.2.1 dX10_bridgeOf_29 (by decide) ?_
    refine lv_icmp_ne (tgt := 38) F.1 F.2.1 dX10_bridgeOf_31 (by decide) (fun c2 => ?_) (fun c2 => ?_)
    · replace h := ie_e c2 h
      refine lv_iload_n F.1 F.2.1 dX10_bridgeOf_38 rfl (lv_at hl 1 rfl) ?_
      refine lv_bipush (v := 110) F.1 F.2.1 dX10_bridgeOf_39 (by decide) ?_
      refine lv_icmp_ne (tgt := 48) F.1 F.2.1 dX10_bridgeOf_41 (by decide) (fun c3 => ?_) (fun c3 => ?_)
      · replace h := ie_e c3 h
        refine lv_iload_n F.1 F.2.1 dX10_bridgeOf_48 rfl (lv_at hl 1 rfl) ?_
        refine lv_bipush (v := 109) F.1 F.2.1 dX10_bridgeOf_49 (by decide) ?_
        refine lv_icmp_ne (tgt := 58) F.1 F.2.1 dX10_bridgeOf_51 (by decide) (fun c4 => ?_) (fun c4 => ?_)
        · replace h := ie_e c4 h
          refine lv_bipush (v := (-9)) F.1 F.2.1 dX10_bridgeOf_58 (by decide) ?_
          exact q_iret F hlocks hr hB (Option.some.inj h) rfl dX10_bridgeOf_60
        · replace h := it_e c4 h
          refine lv_iconst (v := 2) F.1 F.2.1 dX10_bridgeOf_54 (by decide) ?_
          refine lv_goto (tgt := 60) F.1 F.2.1 dX10_bridgeOf_55 (by decide) ?_
          exact q_iret F hlocks hr hB (Option.some.inj h) rfl dX10_bridgeOf_60
      · replace h := it_e c3 h
        refine lv_iconst (v := 1) F.1 F.2.1 dX10_bridgeOf_44 (by decide) ?_
        refine lv_goto (tgt := 60) F.1 F.2.1 dX10_bridgeOf_45 (by decide) ?_
        exact q_iret F hlocks hr hB (Option.some.inj h) rfl dX10_bridgeOf_60
    · replace h := it_e c2 h
      refine lv_iconst (v := 0) F.1 F.2.1 dX10_bridgeOf_34 (by decide) ?_
      refine lv_goto (tgt := 60) F.1 F.2.1 dX10_bridgeOf_35 (by decide) ?_
      exact q_iret F hlocks hr hB (Option.some.inj h) rfl dX10_bridgeOf_60
  · replace h := ie_e c1 h
    by_cases c5 : a0 = (1 : Int32)
    · replace h := it_e c5 h
      refine lv_tableIn (off := 60) (tgt := 61) F.1 F.2.1 dX10_bridgeOf_1 (by rw [c5]; decide) (by rw [c5]; decide) (by rw [c5]; decide) (by decide) ?_
      refine lv_iload_n F.1 F.2.1 dX10_bridgeOf_61 rfl (lv_at hl 1 rfl) ?_
      refine lv_i2l F.1 F.2.1 dX10_bridgeOf_62 rfl ?_
      refine lv_ldc2 (v := 97) F.1 F.2.1 F.2.2.2.1 (F.2.2.2.2 _ wm_k_RX10_97) dX10_bridgeOf_63 ?_
      refine lv_ldc2 (v := 102) F.1 F.2.1 F.2.2.2.1 (F.2.2.2.2 _ wm_k_RX10_99) dX10_bridgeOf_66 ?_
      obtain ⟨v7, hc6, h⟩ := bp_e h
      refine q_ci hB (q_goS F hE hB (k_X10_in hI σ0 a1.toInt64 (97 : Int64) (102 : Int64) hc6) (ca_RX10_64 F.2.2.2.2 ⟨Nat.le_of_ble_eq_true rfl, Nat.le_of_ble_eq_true rfl⟩) rfl hl.1 rfl (Nat.le_of_ble_eq_true rfl) dX10_bridgeOf_69 ⟨Nat.le_of_ble_eq_true rfl, Nat.le_of_ble_eq_true rfl⟩) (fun H locs hB => ?_)
      refine lv_if_eq (tgt := 82) F.1 F.2.1 dX10_bridgeOf_72 (by decide) (fun c8 => ?_) (fun c8 => ?_)
      · replace h := it_e c8 h
        refine lv_bipush (v := (-9)) F.1 F.2.1 dX10_bridgeOf_82 (by decide) ?_
        exact q_iret F hlocks hr hB (Option.some.inj h) rfl dX10_bridgeOf_84
      · replace h := ie_e c8 h
        refine lv_iload_n F.1 F.2.1 dX10_bridgeOf_75 rfl (lv_at hl 1 rfl) ?_
        refine lv_bipush (v := 97) F.1 F.2.1 dX10_bridgeOf_76 (by decide) ?_
        refine lv_isub F.1 F.2.1 dX10_bridgeOf_78 ?_
        refine lv_goto (tgt := 84) F.1 F.2.1 dX10_bridgeOf_79 (by decide) ?_
        exact q_iret F hlocks hr hB (Option.some.inj h) rfl dX10_bridgeOf_84
    · replace h := ie_e c5 h
      by_cases c9 : a0 = (2 : Int32)
      · replace h := it_e c9 h
        refine lv_tableIn (off := 84) (tgt := 85) F.1 F.2.1 dX10_bridgeOf_1 (by rw [c9]; decide) (by rw [c9]; decide) (by rw [c9]; decide) (by decide) ?_
        refine lv_iload_n F.1 F.2.1 dX10_bridgeOf_85 rfl (lv_at hl 1 rfl) ?_
        refine lv_i2l F.1 F.2.1 dX10_bridgeOf_86 rfl ?_
        refine lv_ldc2 (v := 49) F.1 F.2.1 F.2.2.2.1 (F.2.2.2.2 _ wm_k_RX10_101) dX10_bridgeOf_87 ?_
        refine lv_ldc2 (v := 57) F.1 F.2.1 F.2.2.2.1 (F.2.2.2.2 _ wm_k_RX10_103) dX10_bridgeOf_90 ?_
        obtain ⟨v11, hc10, h⟩ := bp_e h
        refine q_ci hB (q_goS F hE hB (k_X10_in hI σ0 a1.toInt64 (49 : Int64) (57 : Int64) hc10) (ca_RX10_64 F.2.2.2.2 ⟨Nat.le_of_ble_eq_true rfl, Nat.le_of_ble_eq_true rfl⟩) rfl hl.1 rfl (Nat.le_of_ble_eq_true rfl) dX10_bridgeOf_93 ⟨Nat.le_of_ble_eq_true rfl, Nat.le_of_ble_eq_true rfl⟩) (fun H locs hB => ?_)
        refine lv_if_eq (tgt := 106) F.1 F.2.1 dX10_bridgeOf_96 (by decide) (fun c12 => ?_) (fun c12 => ?_)
        · replace h := it_e c12 h
          refine lv_bipush (v := (-9)) F.1 F.2.1 dX10_bridgeOf_106 (by decide) ?_
          exact q_iret F hlocks hr hB (Option.some.inj h) rfl dX10_bridgeOf_108
        · replace h := ie_e c12 h
          refine lv_iload_n F.1 F.2.1 dX10_bridgeOf_99 rfl (lv_at hl 1 rfl) ?_
          refine lv_bipush (v := 48) F.1 F.2.1 dX10_bridgeOf_100 (by decide) ?_
          refine lv_isub F.1 F.2.1 dX10_bridgeOf_102 ?_
          refine lv_goto (tgt := 108) F.1 F.2.1 dX10_bridgeOf_103 (by decide) ?_
          exact q_iret F hlocks hr hB (Option.some.inj h) rfl dX10_bridgeOf_108
      · replace h := ie_e c9 h
        refine lv_tableOut (tgt := 109) F.1 F.2.1 dX10_bridgeOf_1 (sw_3 c1 c5 c9) (by decide) ?_
        refine lv_iload_n F.1 F.2.1 dX10_bridgeOf_109 rfl (lv_at hl 1 rfl) ?_
        refine lv_bipush (v := 59) F.1 F.2.1 dX10_bridgeOf_110 (by decide) ?_
        refine lv_icmp_ne (tgt := 119) F.1 F.2.1 dX10_bridgeOf_112 (by decide) (fun c13 => ?_) (fun c13 => ?_)
        · replace h := ie_e c13 h
          refine lv_bipush (v := (-9)) F.1 F.2.1 dX10_bridgeOf_119 (by decide) ?_
          exact q_iret F hlocks hr hB (Option.some.inj h) rfl dX10_bridgeOf_121
        · replace h := it_e c13 h
          refine lv_iconst (v := 0) F.1 F.2.1 dX10_bridgeOf_115 (by decide) ?_
          refine lv_goto (tgt := 121) F.1 F.2.1 dX10_bridgeOf_116 (by decide) ?_
          exact q_iret F hlocks hr hB (Option.some.inj h) rfl dX10_bridgeOf_121
def f_X10_readsBridges_b83 (k14 : Mem → Int32 → Int32 → Option (Int32 × Mem)) (σ0 : Mem) (x1 : Int32) (x2 : Int32) (y0 : Int32) (y1 : Int32) : Option (Int32 × Mem) := (lt (ms σ0 64 7 (y1 + y0)) (fun σ15 => (k14 σ15 x1 (x2 + (1 : Int32)))))
def f_X10_readsBridges_b68 (k14 : Mem → Int32 → Int32 → Option (Int32 × Mem)) (σ0 : Mem) (x1 : Int32) (x2 : Int32) (x3 : Int32) : Option (Int32 × Mem) := (if x3 = (2 : Int32) then (f_X10_readsBridges_b83 k14 σ0 x1 x2 (1 : Int32) (σ0.1 64 7)) else (f_X10_readsBridges_b83 k14 σ0 x1 x2 (0 : Int32) (σ0.1 64 7)))
def f_X10_readsBridges_b14 : Nat → Mem → Int32 → Int32 → Option (Int32 × Mem)
  | 0, _, _, _ => none
  | n14 + 1, σ0, x1, x2 => (if x1 ≤ x2 then (if x1 ≤ (0 : Int32) then (some ((-1 : Int32), σ0)) else (if (x1 - x1 / (4 : Int32) * (4 : Int32)) = (3 : Int32) then (some ((-1 : Int32), σ0)) else (lt (ms σ0 64 7 (0 : Int32)) (fun σ7 => (some (x1, σ7)))))) else (ck x2 128 (bp (f_X10_bridgeOf σ0 (x2 - x2 / (4 : Int32) * (4 : Int32)) (σ0.1 69 x2.toNatClampNeg)) (fun v11 => (if v11 = (-9 : Int32) then (lt (ms σ0 64 7 (0 : Int32)) (fun σ20 => (some (x2, σ20)))) else (if (3 : Int32) ≤ (x2 - x2 / (4 : Int32) * (4 : Int32)) then (f_X10_readsBridges_b68 (f_X10_readsBridges_b14 n14) σ0 x1 x2 (x2 - x2 / (4 : Int32) * (4 : Int32))) else (ck (((3 : Int32) * (x2 / (4 : Int32))) + (x2 - x2 / (4 : Int32) * (4 : Int32))) 24 (lt (ms σ0 71 (((3 : Int32) * (x2 / (4 : Int32))) + (x2 - x2 / (4 : Int32) * (4 : Int32))).toNatClampNeg v11) (fun σ18 => (f_X10_readsBridges_b68 (f_X10_readsBridges_b14 n14) σ18 x1 x2 (x2 - x2 / (4 : Int32) * (4 : Int32))))))))))))
def f_X10_readsBridges (σ0 : Mem) : Option (Int32 × Mem) := (lt (ms σ0 64 7 (0 : Int32)) (fun σ1 => (ck (0 : Int32) 2 (f_X10_readsBridges_b14 300 σ1 (σ1.1 70 (0 : Int32).toNatClampNeg) (0 : Int32)))))
set_option maxHeartbeats 4000000 in
set_option maxRecDepth 100000 in
theorem k_X10_readsBridges {l : Launch} {D : va_G} {cy : Nat → ClassId} {ad : Nat → Nat} {ta tb : Nat} (hI : AdI ad) (σ0 : Mem) {o : Int32 × Mem} (h : f_X10_readsBridges σ0 = some o) : Met l yX10_readsBridges (Cond.code yX10_readsBridges cX10_readsBridges 5 (some .int) :: wG) rm_X10_readsBridges (CP D cy ad ta tb σ0 [.ref (ad 64)]) (CQi D cy ad o.1 o.2) 0 0 (AA ad) := by
  refine Met.ofW (cc := cX10_readsBridges) (maxL := 5) (ret := (some .int)) (by decide) rfl ?_
  intro p e s m args below meth c s₁ B hml hv
  obtain ⟨rfl, hE, hP⟩ := hv
  have hts := atoms_spec (ws := Cond.code yX10_readsBridges cX10_readsBridges 5 (some .int) :: wG) B.pre
  have F : CallFix p m c cX10_readsBridges 5 s _ wG RX10 := ⟨B.exec, B.bytes, hml, findClass_of_methodNamed B.named, fun w hw => hts w (List.mem_cons_of_mem _ hw)⟩
  have hr := B.returns
  have hlocks := B.notSynchronized
  have hB : Bd D cy ad σ0 s.heap s.heap [] := ⟨hP, va_S.rf⟩
  have hl := lv_entry ([.ref (ad 64)] : List Value) (n := 5) (Nat.le_of_ble_eq_true rfl)
  rw [lg_entry_eq]
  generalize (lg_sl ([.ref (ad 64)] : List Value) ++ List.replicate (5 - (lg_sl ([.ref (ad 64)] : List Value)).length) Slot.unset).toArray = ls at hl ⊢
  have hl : lv_has ls 5 [(0, .ref (ad 64))] := hl
  have B14 : ∀ (n14 : Nat) (σ0 : Mem) (H : Heap) (locs : List Loc) (ls : Array Slot) (x1 : Int32) (x2 : Int32), f_X10_readsBridges_b14 n14 σ0 x1 x2 = some o → Bd D cy ad σ0 s.heap H locs → lv_has ls 5 [(0, .ref (ad 64)), (1, .int x1), (2, .int x2)] → W p l e rm_X10_readsBridges s m ([.ref (ad 64)] : List Value).toArray below meth c H locs 0 0 (MQ below (CQi D cy ad o.1 o.2) ([.ref (ad 64)] : List Value).toArray s 0 0 (AA ad)) (F0 m 14 ls []) := by
    intro n14
    induction n14 with
    | zero => intro σ0 H locs ls x1 x2 h hB hl; cases h
    | succ n14 ih14 =>
      have B83 : ∀ (σ0 : Mem) (H : Heap) (locs : List Loc) (ls : Array Slot) (x1 : Int32) (x2 : Int32) (y0 : Int32) (y1 : Int32), f_X10_readsBridges_b83 (f_X10_readsBridges_b14 n14) σ0 x1 x2 y0 y1 = some o → Bd D cy ad σ0 s.heap H locs → lv_has ls 5 [(0, .ref (ad 64)), (1, .int x1), (2, .int x2)] → W p l e rm_X10_readsBridges s m ([.ref (ad 64)] : List Value).toArray below meth c H locs 0 0 (MQ below (CQi D cy ad o.1 o.2) ([.ref (ad 64)] : List Value).toArray s 0 0 (AA ad)) (F0 m 83 ls [.int y0, .int y1, .ref (ad 64)]) := by
        intro σ0 H locs ls x1 x2 y0 y1 h hB hl
        unfold f_X10_readsBridges_b83 at h
        refine lv_iadd F.1 F.2.1 dX10_readsBridges_83 ?_
        obtain ⟨σ15, e16, h⟩ := lt_e h
        refine pf_RX10_105 F hE hI hB po_64 rfl rfl (Nat.le_of_ble_eq_true rfl) rfl dX10_readsBridges_84 e16 (fun H locs hB => ?_)
        refine lv_iinc (v := (x2 + (1 : Int32))) (lv' := [(2, .int (x2 + (1 : Int32))), (0, .ref (ad 64)), (1, .int x1)]) F.1 F.2.1 dX10_readsBridges_87 hl (k := 2) rfl rfl (by decide) rfl (fun ls hl => ?_)
        refine lv_goto (tgt := 14) F.1 F.2.1 dX10_readsBridges_90 (by decide) ?_
        exact ih14 σ15 _ _ _ x1 (x2 + (1 : Int32)) h hB (lv_sub hl [1, 2, 0] rfl)
      have B68 : ∀ (σ0 : Mem) (H : Heap) (locs : List Loc) (ls : Array Slot) (x1 : Int32) (x2 : Int32) (x3 : Int32), f_X10_readsBridges_b68 (f_X10_readsBridges_b14 n14) σ0 x1 x2 x3 = some o → Bd D cy ad σ0 s.heap H locs → lv_has ls 5 [(0, .ref (ad 64)), (1, .int x1), (2, .int x2), (3, .int x3)] → W p l e rm_X10_readsBridges s m ([.ref (ad 64)] : List Value).toArray below meth c H locs 0 0 (MQ below (CQi D cy ad o.1 o.2) ([.ref (ad 64)] : List Value).toArray s 0 0 (AA ad)) (F0 m 68 ls []) := by
        intro σ0 H locs ls x1 x2 x3 h hB hl
        unfold f_X10_readsBridges_b68 at h
        refine lv_aload_n F.1 F.2.1 dX10_readsBridges_68 rfl (lv_at hl 0 rfl) ?_
        refine lv_dup F.1 F.2.1 dX10_readsBridges_69 rfl ?_
        refine gf_RX10_105 F hE hB po_64 rfl dX10_readsBridges_70 ?_
        refine lv_iload_n F.1 F.2.1 dX10_readsBridges_73 rfl (lv_at hl 3 rfl) ?_
        refine lv_iconst (v := 2) F.1 F.2.1 dX10_readsBridges_74 (by decide) ?_
        refine lv_icmp_ne (tgt := 82) F.1 F.2.1 dX10_readsBridges_75 (by decide) (fun c14 => ?_) (fun c14 => ?_)
        · replace h := ie_e c14 h
          refine lv_iconst (v := 0) F.1 F.2.1 dX10_readsBridges_82 (by decide) ?_
          exact B83 σ0 _ _ _ x1 x2 (0 : Int32) (σ0.1 64 7) h hB (lv_sub hl [0, 1, 2] rfl)
        · replace h := it_e c14 h
          refine lv_iconst (v := 1) F.1 F.2.1 dX10_readsBridges_78 (by decide) ?_
          refine lv_goto (tgt := 83) F.1 F.2.1 dX10_readsBridges_79 (by decide) ?_
          exact B83 σ0 _ _ _ x1 x2 (1 : Int32) (σ0.1 64 7) h hB (lv_sub hl [0, 1, 2] rfl)
      intro σ0 H locs ls x1 x2 h hB hl
      rw [f_X10_readsBridges_b14] at h
      refine lv_iload_n F.1 F.2.1 dX10_readsBridges_14 rfl (lv_at hl 2 rfl) ?_
      refine lv_iload_n F.1 F.2.1 dX10_readsBridges_15 rfl (lv_at hl 1 rfl) ?_
      refine lv_icmp_ge (tgt := 93) F.1 F.2.1 dX10_readsBridges_16 (by decide) (fun c4 => ?_) (fun c4 => ?_)
      · replace h := it_e c4 h
        refine lv_iload_n F.1 F.2.1 dX10_readsBridges_93 rfl (lv_at hl 1 rfl) ?_
        refine lv_if_le (tgt := 111) F.1 F.2.1 dX10_readsBridges_94 (by decide) (fun c5 => ?_) (fun c5 => ?_)
        · replace h := it_e c5 h
          refine lv_iconst (v := (-1)) F.1 F.2.1 dX10_readsBridges_111 (by decide) ?_
          exact q_iret F hlocks hr hB (so1 h) (so2 h) dX10_readsBridges_112
        · replace h := ie_e c5 h
          refine lv_iload_n F.1 F.2.1 dX10_readsBridges_97 rfl (lv_at hl 1 rfl) ?_
          refine lv_iconst (v := 4) F.1 F.2.1 dX10_readsBridges_98 (by decide) ?_
          refine lv_irem F.1 F.2.1 dX10_readsBridges_99 (by decide) ?_
          refine lv_iconst (v := 3) F.1 F.2.1 dX10_readsBridges_100 (by decide) ?_
          refine lv_icmp_eq (tgt := 111) F.1 F.2.1 dX10_readsBridges_101 (by decide) (fun c6 => ?_) (fun c6 => ?_)
          · replace h := it_e c6 h
            refine lv_iconst (v := (-1)) F.1 F.2.1 dX10_readsBridges_111 (by decide) ?_
            exact q_iret F hlocks hr hB (so1 h) (so2 h) dX10_readsBridges_112
          · replace h := ie_e c6 h
            refine lv_aload_n F.1 F.2.1 dX10_readsBridges_104 rfl (lv_at hl 0 rfl) ?_
            refine lv_iconst (v := 0) F.1 F.2.1 dX10_readsBridges_105 (by decide) ?_
            obtain ⟨σ7, e8, h⟩ := lt_e h
            refine pf_RX10_105 F hE hI hB po_64 rfl rfl (Nat.le_of_ble_eq_true rfl) rfl dX10_readsBridges_106 e8 (fun H locs hB => ?_)
            refine lv_iload_n F.1 F.2.1 dX10_readsBridges_109 rfl (lv_at hl 1 rfl) ?_
            exact q_iret F hlocks hr hB (so1 h) (so2 h) dX10_readsBridges_110
      · replace h := ie_e c4 h
        refine lv_iload_n F.1 F.2.1 dX10_readsBridges_19 rfl (lv_at hl 2 rfl) ?_
        refine lv_iconst (v := 4) F.1 F.2.1 dX10_readsBridges_20 (by decide) ?_
        refine lv_irem F.1 F.2.1 dX10_readsBridges_21 (by decide) ?_
        refine lv_istore_n (lv' := [(3, .int (x2 - x2 / (4 : Int32) * (4 : Int32))), (0, .ref (ad 64)), (1, .int x1), (2, .int x2)]) F.1 F.2.1 dX10_readsBridges_22 rfl hl (by decide) rfl (fun ls hl => ?_)
        refine lv_iload_n F.1 F.2.1 dX10_readsBridges_23 rfl (lv_at hl 0 rfl) ?_
        refine lv_aload_n F.1 F.2.1 dX10_readsBridges_24 rfl (lv_at hl 1 rfl) ?_
        refine gf_RX10_22 F hE hB po_64 rfl dX10_readsBridges_25 ?_
        refine lv_iload_n F.1 F.2.1 dX10_readsBridges_28 rfl (lv_at hl 3 rfl) ?_
        obtain ⟨hi9, h⟩ := ck_e h
        refine q_iald F hE hB po_69 hi9 dX10_readsBridges_29 ?_
        obtain ⟨v11, hc10, h⟩ := bp_e h
        refine q_ci hB (q_goS F hE hB (k_X10_bridgeOf hI σ0 (x2 - x2 / (4 : Int32) * (4 : Int32)) (σ0.1 69 x2.toNatClampNeg) hc10) (ca_RX10_108 F.2.2.2.2 ⟨Nat.le_of_ble_eq_true rfl, Nat.le_of_ble_eq_true rfl⟩) rfl hl.1 rfl (Nat.le_of_ble_eq_true rfl) dX10_readsBridges_30 ⟨Nat.le_of_ble_eq_true rfl, Nat.le_of_ble_eq_true rfl⟩) (fun H locs hB => ?_)
        refine lv_istore (lv' := [(4, .int v11), (3, .int (x2 - x2 / (4 : Int32) * (4 : Int32))), (0, .ref (ad 64)), (1, .int x1), (2, .int x2)]) F.1 F.2.1 dX10_readsBridges_33 hl (by decide) rfl (fun ls hl => ?_)
        refine lv_iload F.1 F.2.1 dX10_readsBridges_35 (lv_at hl 0 rfl) ?_
        refine lv_bipush (v := (-9)) F.1 F.2.1 dX10_readsBridges_37 (by decide) ?_
        refine lv_icmp_ne (tgt := 49) F.1 F.2.1 dX10_readsBridges_39 (by decide) (fun c12 => ?_) (fun c12 => ?_)
        · replace h := ie_e c12 h
          refine lv_iload_n F.1 F.2.1 dX10_readsBridges_49 rfl (lv_at hl 1 rfl) ?_
          refine lv_iconst (v := 3) F.1 F.2.1 dX10_readsBridges_50 (by decide) ?_
          refine lv_icmp_ge (tgt := 68) F.1 F.2.1 dX10_readsBridges_51 (by decide) (fun c13 => ?_) (fun c13 => ?_)
          · replace h := it_e c13 h
            exact B68 σ0 _ _ _ x1 x2 (x2 - x2 / (4 : Int32) * (4 : Int32)) h hB (lv_sub hl [2, 3, 4, 1] rfl)
          · replace h := ie_e c13 h
            refine lv_aload_n F.1 F.2.1 dX10_readsBridges_54 rfl (lv_at hl 2 rfl) ?_
            refine gf_RX10_28 F hE hB po_64 rfl dX10_readsBridges_55 ?_
            refine lv_iconst (v := 3) F.1 F.2.1 dX10_readsBridges_58 (by decide) ?_
            refine lv_iload_n F.1 F.2.1 dX10_readsBridges_59 rfl (lv_at hl 4 rfl) ?_
            refine lv_iconst (v := 4) F.1 F.2.1 dX10_readsBridges_60 (by decide) ?_
            refine lv_idiv F.1 F.2.1 dX10_readsBridges_61 (by decide) ?_
            refine lv_imul F.1 F.2.1 dX10_readsBridges_62 ?_
            refine lv_iload_n F.1 F.2.1 dX10_readsBridges_63 rfl (lv_at hl 1 rfl) ?_
            refine lv_iadd F.1 F.2.1 dX10_readsBridges_64 ?_
            refine lv_iload F.1 F.2.1 dX10_readsBridges_65 (lv_at hl 0 rfl) ?_
            obtain ⟨hi17, h⟩ := ck_e h
            obtain ⟨σ18, e19, h⟩ := lt_e h
            refine q_iast F hE hI hB row_71 hi17 dX10_readsBridges_67 e19 (fun H locs hB => ?_)
            exact B68 σ18 _ _ _ x1 x2 (x2 - x2 / (4 : Int32) * (4 : Int32)) h hB (lv_sub hl [2, 3, 4, 1] rfl)
        · replace h := it_e c12 h
          refine lv_aload_n F.1 F.2.1 dX10_readsBridges_42 rfl (lv_at hl 2 rfl) ?_
          refine lv_iconst (v := 0) F.1 F.2.1 dX10_readsBridges_43 (by decide) ?_
          obtain ⟨σ20, e21, h⟩ := lt_e h
          refine pf_RX10_105 F hE hI hB po_64 rfl rfl (Nat.le_of_ble_eq_true rfl) rfl dX10_readsBridges_44 e21 (fun H locs hB => ?_)
          refine lv_iload_n F.1 F.2.1 dX10_readsBridges_47 rfl (lv_at hl 4 rfl) ?_
          exact q_iret F hlocks hr hB (so1 h) (so2 h) dX10_readsBridges_48
  unfold f_X10_readsBridges at h
  refine lv_aload_n F.1 F.2.1 dX10_readsBridges_0 rfl (lv_at hl 0 rfl) ?_
  refine lv_iconst (v := 0) F.1 F.2.1 dX10_readsBridges_1 (by decide) ?_
  obtain ⟨σ1, e2, h⟩ := lt_e h
  refine pf_RX10_105 F hE hI hB po_64 rfl rfl (Nat.le_of_ble_eq_true rfl) rfl dX10_readsBridges_2 e2 (fun H locs hB => ?_)
  refine lv_aload_n F.1 F.2.1 dX10_readsBridges_5 rfl (lv_at hl 0 rfl) ?_
  refine gf_RX10_25 F hE hB po_64 rfl dX10_readsBridges_6 ?_
  refine lv_iconst (v := 0) F.1 F.2.1 dX10_readsBridges_9 (by decide) ?_
  obtain ⟨hi3, h⟩ := ck_e h
  refine q_iald F hE hB po_70 hi3 dX10_readsBridges_10 ?_
  refine lv_istore_n (lv' := [(1, .int (σ1.1 70 (0 : Int32).toNatClampNeg)), (0, .ref (ad 64))]) F.1 F.2.1 dX10_readsBridges_11 rfl hl (by decide) rfl (fun ls hl => ?_)
  refine lv_iconst (v := 0) F.1 F.2.1 dX10_readsBridges_12 (by decide) ?_
  refine lv_istore_n (lv' := [(2, .int (0 : Int32)), (1, .int (σ1.1 70 (0 : Int32).toNatClampNeg)), (0, .ref (ad 64))]) F.1 F.2.1 dX10_readsBridges_13 rfl hl (by decide) rfl (fun ls hl => ?_)
  exact B14 300 σ1 _ _ _ (σ1.1 70 (0 : Int32).toNatClampNeg) (0 : Int32) h hB (lv_sub hl [2, 1, 0] rfl)
def f_X10_bares_b2 : Nat → Mem → Int32 → Int32 → Option (Mem)
  | 0, _, _, _ => none
  | n2 + 1, σ0, x1, x2 => (if (7 : Int32) ≤ x2 then (some σ0) else (ck (((7 : Int32) * x1) + x2) 56 (lt (ms σ0 72 (((7 : Int32) * x1) + x2).toNatClampNeg (0 : Int32)) (fun σ3 => (f_X10_bares_b2 n2 σ3 x1 (x2 + (1 : Int32)))))))
def f_X10_bares (σ0 : Mem) (a1 : Int32) : Option (Mem) := (f_X10_bares_b2 300 σ0 a1 (0 : Int32))
set_option maxHeartbeats 4000000 in
set_option maxRecDepth 100000 in
theorem k_X10_bares {l : Launch} {D : va_G} {cy : Nat → ClassId} {ad : Nat → Nat} {ta tb : Nat} (hI : AdI ad) (σ0 : Mem) (a1 : Int32) {o : Mem} (h : f_X10_bares σ0 a1 = some o) : Met l yX10_bares (Cond.code yX10_bares cX10_bares 3 none :: wG) rm_X10_bares (CP D cy ad ta tb σ0 [.ref (ad 64), .int a1]) (CQv D cy ad o) 0 0 (AA ad) := by
  refine Met.ofW (cc := cX10_bares) (maxL := 3) (ret := none) (by decide) rfl ?_
  intro p e s m args below meth c s₁ B hml hv
  obtain ⟨rfl, hE, hP⟩ := hv
  have hts := atoms_spec (ws := Cond.code yX10_bares cX10_bares 3 none :: wG) B.pre
  have F : CallFix p m c cX10_bares 3 s _ wG RX10 := ⟨B.exec, B.bytes, hml, findClass_of_methodNamed B.named, fun w hw => hts w (List.mem_cons_of_mem _ hw)⟩
  have hr := B.returns
  have hlocks := B.notSynchronized
  have hB : Bd D cy ad σ0 s.heap s.heap [] := ⟨hP, va_S.rf⟩
  have hl := lv_entry ([.ref (ad 64), .int a1] : List Value) (n := 3) (Nat.le_of_ble_eq_true rfl)
  rw [lg_entry_eq]
  generalize (lg_sl ([.ref (ad 64), .int a1] : List Value) ++ List.replicate (3 - (lg_sl ([.ref (ad 64), .int a1] : List Value)).length) Slot.unset).toArray = ls at hl ⊢
  have hl : lv_has ls 3 [(0, .ref (ad 64)), (1, .int a1)] := hl
  have B2 : ∀ (n2 : Nat) (σ0 : Mem) (H : Heap) (locs : List Loc) (ls : Array Slot) (x1 : Int32) (x2 : Int32), f_X10_bares_b2 n2 σ0 x1 x2 = some o → Bd D cy ad σ0 s.heap H locs → lv_has ls 3 [(0, .ref (ad 64)), (1, .int x1), (2, .int x2)] → W p l e rm_X10_bares s m ([.ref (ad 64), .int a1] : List Value).toArray below meth c H locs 0 0 (MQ below (CQv D cy ad o) ([.ref (ad 64), .int a1] : List Value).toArray s 0 0 (AA ad)) (F0 m 2 ls []) := by
    intro n2
    induction n2 with
    | zero => intro σ0 H locs ls x1 x2 h hB hl; cases h
    | succ n2 ih2 =>
      intro σ0 H locs ls x1 x2 h hB hl
      rw [f_X10_bares_b2] at h
      refine lv_iload_n F.1 F.2.1 dX10_bares_2 rfl (lv_at hl 2 rfl) ?_
      refine lv_bipush (v := 7) F.1 F.2.1 dX10_bares_3 (by decide) ?_
      refine lv_icmp_ge (tgt := 26) F.1 F.2.1 dX10_bares_5 (by decide) (fun c1 => ?_) (fun c1 => ?_)
      · replace h := it_e c1 h
        exact q_vret F hlocks hr hB (Option.some.inj h) dX10_bares_26
      · replace h := ie_e c1 h
        refine lv_aload_n F.1 F.2.1 dX10_bares_8 rfl (lv_at hl 0 rfl) ?_
        refine gf_RX10_31 F hE hB po_64 rfl dX10_bares_9 ?_
        refine lv_bipush (v := 7) F.1 F.2.1 dX10_bares_12 (by decide) ?_
        refine lv_iload_n F.1 F.2.1 dX10_bares_14 rfl (lv_at hl 1 rfl) ?_
        refine lv_imul F.1 F.2.1 dX10_bares_15 ?_
        refine lv_iload_n F.1 F.2.1 dX10_bares_16 rfl (lv_at hl 2 rfl) ?_
        refine lv_iadd F.1 F.2.1 dX10_bares_17 ?_
        refine lv_iconst (v := 0) F.1 F.2.1 dX10_bares_18 (by decide) ?_
        obtain ⟨hi2, h⟩ := ck_e h
        obtain ⟨σ3, e4, h⟩ := lt_e h
        refine q_iast F hE hI hB row_72 hi2 dX10_bares_19 e4 (fun H locs hB => ?_)
        refine lv_iinc (v := (x2 + (1 : Int32))) (lv' := [(2, .int (x2 + (1 : Int32))), (0, .ref (ad 64)), (1, .int x1)]) F.1 F.2.1 dX10_bares_20 hl (k := 2) rfl rfl (by decide) rfl (fun ls hl => ?_)
        refine lv_goto (tgt := 2) F.1 F.2.1 dX10_bares_23 (by decide) ?_
        exact ih2 σ3 _ _ _ x1 (x2 + (1 : Int32)) h hB (lv_sub hl [1, 2, 0] rfl)
  unfold f_X10_bares at h
  refine lv_iconst (v := 0) F.1 F.2.1 dX10_bares_0 (by decide) ?_
  refine lv_istore_n (lv' := [(2, .int (0 : Int32)), (0, .ref (ad 64)), (1, .int a1)]) F.1 F.2.1 dX10_bares_1 rfl hl (by decide) rfl (fun ls hl => ?_)
  exact B2 300 σ0 _ _ _ a1 (0 : Int32) h hB (lv_sub hl [1, 2, 0] rfl)
