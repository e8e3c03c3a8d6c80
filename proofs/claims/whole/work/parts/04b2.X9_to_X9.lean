def f_X9_digestBoat_b6 : Nat → Mem → Int32 → Int64 → Int32 → Option (Int64 × Mem)
  | 0, _, _, _, _ => none
  | n6 + 1, σ0, x3, x4, x6 => (if (6 : Int32) < x6 then (bp (f_X9_at σ0 (5 : Int32) x3) (fun v3 => (bp (f_X9_at σ0 (30 : Int32) x3) (fun v5 => (bp (f_X9_waits σ0 x3) (fun v7 => (bv (f_X9_planCargo σ0 x3) (fun σ9 => (bp (f_X3_cargoAnswer σ9 (-1 : Int32)) (fun v11 => (bp (f_X3_cargoAnswer σ9 (0 : Int32)) (fun v13 => (bv (f_X9_planSail σ9 x3) (fun σ15 => (bi (f_X9_under σ15 x3) (fun v18 σ17 => (bi (f_X9_believed σ17 (5 : Int32) x3 (20 : Int32) (0 : Int32)) (fun v21 σ20 => (bi (f_X9_believed σ20 (5 : Int32) x3 (20 : Int32) (1 : Int32)) (fun v24 σ23 => (bi (f_X9_loads σ23 (7 : Int32) (4 : Int32) x3 (0 : Int32)) (fun v27 σ26 => (bi (f_X9_loads σ26 (7 : Int32) (4 : Int32) x3 (1 : Int32)) (fun v30 σ29 => (some ((((31 : Int64) * (((31 : Int64) * (((31 : Int64) * (((31 : Int64) * (((31 : Int64) * (((31 : Int64) * (((31 : Int64) * (((31 : Int64) * (((31 : Int64) * (((31 : Int64) * (((31 : Int64) * (((31 : Int64) * x4) + v3.toInt64)) + v5.toInt64)) + v7.toInt64)) + v11.toInt64)) + v13.toInt64)) + (σ15.1 61 3).toInt64)) + (σ15.1 61 4).toInt64)) + v18.toInt64)) + v21)) + v24)) + v27.toInt64)) + v30.toInt64), σ29)))))))))))))))))))))))))) else (bp (f_X9_boat σ0 x3 x6) (fun v32 => (f_X9_digestBoat_b6 n6 σ0 x3 (((31 : Int64) * x4) + v32.toInt64) (x6 + (1 : Int32))))))
def f_X9_digestBoat (σ0 : Mem) (a1 : Int64) (a3 : Int32) : Option (Int64 × Mem) := (f_X9_digestBoat_b6 300 σ0 a3 a1 (0 : Int32))
set_option maxHeartbeats 4000000 in
set_option maxRecDepth 100000 in
theorem k_X9_digestBoat {l : Launch} {D : va_G} {cy : Nat → ClassId} {ad : Nat → Nat} {ta tb : Nat} (hI : AdI ad) (σ0 : Mem) (a1 : Int64) (a3 : Int32) {o : Int64 × Mem} (h : f_X9_digestBoat σ0 a1 a3 = some o) : Met l yX9_digestBoat (Cond.code yX9_digestBoat cX9_digestBoat 7 (some .long) :: wG) rm_X9_digestBoat (CP D cy ad ta tb σ0 [.ref (ad 0), .long a1, .int a3]) (CQl D cy ad o.1 o.2) 0 0 (AA ad) := by
  refine Met.ofW (cc := cX9_digestBoat) (maxL := 7) (ret := (some .long)) (by decide) rfl ?_
  intro p e s m args below meth c s₁ B hml hv
  obtain ⟨rfl, hE, hP⟩ := hv
  have hts := atoms_spec (ws := Cond.code yX9_digestBoat cX9_digestBoat 7 (some .long) :: wG) B.pre
  have F : CallFix p m c cX9_digestBoat 7 s _ wG RX9 := ⟨B.exec, B.bytes, hml, findClass_of_methodNamed B.named, fun w hw => hts w (List.mem_cons_of_mem _ hw)⟩
  have hr := B.returns
  have hlocks := B.notSynchronized
  have hB : Bd D cy ad σ0 s.heap s.heap [] := ⟨hP, va_S.rf⟩
  have hl := lv_entry ([.ref (ad 0), .long a1, .int a3] : List Value) (n := 7) (Nat.le_of_ble_eq_true rfl)
  rw [lg_entry_eq]
  generalize (lg_sl ([.ref (ad 0), .long a1, .int a3] : List Value) ++ List.replicate (7 - (lg_sl ([.ref (ad 0), .long a1, .int a3] : List Value)).length) Slot.unset).toArray = ls at hl ⊢
  have hl : lv_has ls 7 [(0, .ref (ad 0)), (1, .long a1), (3, .int a3)] := hl
  have B6 : ∀ (n6 : Nat) (σ0 : Mem) (H : Heap) (locs : List Loc) (ls : Array Slot) (x3 : Int32) (x4 : Int64) (x6 : Int32), f_X9_digestBoat_b6 n6 σ0 x3 x4 x6 = some o → Bd D cy ad σ0 s.heap H locs → lv_has ls 7 [(0, .ref (ad 0)), (3, .int x3), (4, .long x4), (6, .int x6)] → W p l e rm_X9_digestBoat s m ([.ref (ad 0), .long a1, .int a3] : List Value).toArray below meth c H locs 0 0 (MQ below (CQl D cy ad o.1 o.2) ([.ref (ad 0), .long a1, .int a3] : List Value).toArray s 0 0 (AA ad)) (F0 m 6 ls []) := by
    intro n6
    induction n6 with
    | zero => intro σ0 H locs ls x3 x4 x6 h hB hl; cases h
    | succ n6 ih6 =>
      intro σ0 H locs ls x3 x4 x6 h hB hl
      rw [f_X9_digestBoat_b6] at h
      refine lv_iload F.1 F.2.1 dX9_digestBoat_6 (lv_at hl 3 rfl) ?_
      refine lv_bipush (v := 6) F.1 F.2.1 dX9_digestBoat_8 (by decide) ?_
      refine lv_icmp_gt (tgt := 36) F.1 F.2.1 dX9_digestBoat_10 (by decide) (fun c1 => ?_) (fun c1 => ?_)
      · replace h := it_e c1 h
        refine lv_ldc2 (v := 31) F.1 F.2.1 F.2.2.2.1 (F.2.2.2.2 _ wm_k_RX9_289) dX9_digestBoat_36 ?_
        refine lv_lload F.1 F.2.1 dX9_digestBoat_39 (lv_at hl 2 rfl) ?_
        refine lv_lmul F.1 F.2.1 dX9_digestBoat_41 ?_
        refine lv_aload_n F.1 F.2.1 dX9_digestBoat_42 rfl (lv_at hl 0 rfl) ?_
        refine lv_iconst (v := 5) F.1 F.2.1 dX9_digestBoat_43 (by decide) ?_
        refine lv_iload_n F.1 F.2.1 dX9_digestBoat_44 rfl (lv_at hl 1 rfl) ?_
        obtain ⟨v3, hc2, h⟩ := bp_e h
        refine q_ci hB (q_goV F hE hB (k_X9_at hI σ0 (5 : Int32) x3 hc2) (ca_RX9_323 F.2.2.2.2 ⟨Nat.le_of_ble_eq_true rfl, Nat.le_of_ble_eq_true rfl⟩) rfl po_0 rfl hl.1 rfl (Nat.le_of_ble_eq_true rfl) dX9_digestBoat_45 ⟨Nat.le_of_ble_eq_true rfl, Nat.le_of_ble_eq_true rfl⟩) (fun H locs hB => ?_)
        refine lv_i2l F.1 F.2.1 dX9_digestBoat_48 rfl ?_
        refine lv_ladd F.1 F.2.1 dX9_digestBoat_49 ?_
        refine lv_lstore (lv' := [(4, .long (((31 : Int64) * x4) + v3.toInt64)), (0, .ref (ad 0)), (3, .int x3), (6, .int x6)]) F.1 F.2.1 dX9_digestBoat_50 hl (by decide) rfl (fun ls hl => ?_)
        refine lv_ldc2 (v := 31) F.1 F.2.1 F.2.2.2.1 (F.2.2.2.2 _ wm_k_RX9_289) dX9_digestBoat_52 ?_
        refine lv_lload F.1 F.2.1 dX9_digestBoat_55 (lv_at hl 0 rfl) ?_
        refine lv_lmul F.1 F.2.1 dX9_digestBoat_57 ?_
        refine lv_aload_n F.1 F.2.1 dX9_digestBoat_58 rfl (lv_at hl 1 rfl) ?_
        refine lv_bipush (v := 30) F.1 F.2.1 dX9_digestBoat_59 (by decide) ?_
        refine lv_iload_n F.1 F.2.1 dX9_digestBoat_61 rfl (lv_at hl 2 rfl) ?_
        obtain ⟨v5, hc4, h⟩ := bp_e h
        refine q_ci hB (q_goV F hE hB (k_X9_at hI σ0 (30 : Int32) x3 hc4) (ca_RX9_323 F.2.2.2.2 ⟨Nat.le_of_ble_eq_true rfl, Nat.le_of_ble_eq_true rfl⟩) rfl po_0 rfl hl.1 rfl (Nat.le_of_ble_eq_true rfl) dX9_digestBoat_62 ⟨Nat.le_of_ble_eq_true rfl, Nat.le_of_ble_eq_true rfl⟩) (fun H locs hB => ?_)
        refine lv_i2l F.1 F.2.1 dX9_digestBoat_65 rfl ?_
        refine lv_ladd F.1 F.2.1 dX9_digestBoat_66 ?_
        refine lv_lstore (lv' := [(4, .long (((31 : Int64) * (((31 : Int64) * x4) + v3.toInt64)) + v5.toInt64)), (0, .ref (ad 0)), (3, .int x3), (6, .int x6)]) F.1 F.2.1 dX9_digestBoat_67 hl (by decide) rfl (fun ls hl => ?_)
        refine lv_ldc2 (v := 31) F.1 F.2.1 F.2.2.2.1 (F.2.2.2.2 _ wm_k_RX9_289) dX9_digestBoat_69 ?_
        refine lv_lload F.1 F.2.1 dX9_digestBoat_72 (lv_at hl 0 rfl) ?_
        refine lv_lmul F.1 F.2.1 dX9_digestBoat_74 ?_
        refine lv_aload_n F.1 F.2.1 dX9_digestBoat_75 rfl (lv_at hl 1 rfl) ?_
        refine lv_iload_n F.1 F.2.1 dX9_digestBoat_76 rfl (lv_at hl 2 rfl) ?_
        obtain ⟨v7, hc6, h⟩ := bp_e h
        refine q_ci hB (q_goV F hE hB (k_X9_waits hI σ0 x3 hc6) (ca_RX9_326 F.2.2.2.2 ⟨Nat.le_of_ble_eq_true rfl, Nat.le_of_ble_eq_true rfl⟩) rfl po_0 rfl hl.1 rfl (Nat.le_of_ble_eq_true rfl) dX9_digestBoat_77 ⟨Nat.le_of_ble_eq_true rfl, Nat.le_of_ble_eq_true rfl⟩) (fun H locs hB => ?_)
        refine lv_i2l F.1 F.2.1 dX9_digestBoat_80 rfl ?_
        refine lv_ladd F.1 F.2.1 dX9_digestBoat_81 ?_
        refine lv_lstore (lv' := [(4, .long (((31 : Int64) * (((31 : Int64) * (((31 : Int64) * x4) + v3.toInt64)) + v5.toInt64)) + v7.toInt64)), (0, .ref (ad 0)), (3, .int x3), (6, .int x6)]) F.1 F.2.1 dX9_digestBoat_82 hl (by decide) rfl (fun ls hl => ?_)
        refine lv_aload_n F.1 F.2.1 dX9_digestBoat_84 rfl (lv_at hl 1 rfl) ?_
        refine lv_iload_n F.1 F.2.1 dX9_digestBoat_85 rfl (lv_at hl 2 rfl) ?_
        obtain ⟨σ9, hc8, h⟩ := bv_e h
        refine q_cv hB (q_goV F hE hB (k_X9_planCargo hI σ0 x3 hc8) (ca_RX9_172 F.2.2.2.2 ⟨Nat.le_of_ble_eq_true rfl, Nat.le_of_ble_eq_true rfl⟩) rfl po_0 rfl hl.1 rfl (Nat.le_of_ble_eq_true rfl) dX9_digestBoat_86 ⟨Nat.le_of_ble_eq_true rfl, Nat.le_of_ble_eq_true rfl⟩) (fun H locs hB => ?_)
        refine lv_ldc2 (v := 31) F.1 F.2.1 F.2.2.2.1 (F.2.2.2.2 _ wm_k_RX9_289) dX9_digestBoat_89 ?_
        refine lv_lload F.1 F.2.1 dX9_digestBoat_92 (lv_at hl 0 rfl) ?_
        refine lv_lmul F.1 F.2.1 dX9_digestBoat_94 ?_
        refine lv_aload_n F.1 F.2.1 dX9_digestBoat_95 rfl (lv_at hl 1 rfl) ?_
        refine gf_RX9_69 F hE hB po_0 rfl dX9_digestBoat_96 ?_
        refine lv_iconst (v := (-1)) F.1 F.2.1 dX9_digestBoat_99 (by decide) ?_
        obtain ⟨v11, hc10, h⟩ := bp_e h
        refine q_ci hB (q_goV F hE hB (k_X3_cargoAnswer hI σ9 (-1 : Int32) hc10) (ca_RX9_175 F.2.2.2.2 ⟨Nat.le_of_ble_eq_true rfl, Nat.le_of_ble_eq_true rfl⟩) rfl po_61 rfl hl.1 rfl (Nat.le_of_ble_eq_true rfl) dX9_digestBoat_100 ⟨Nat.le_of_ble_eq_true rfl, Nat.le_of_ble_eq_true rfl⟩) (fun H locs hB => ?_)
        refine lv_i2l F.1 F.2.1 dX9_digestBoat_103 rfl ?_
        refine lv_ladd F.1 F.2.1 dX9_digestBoat_104 ?_
        refine lv_lstore (lv' := [(4, .long (((31 : Int64) * (((31 : Int64) * (((31 : Int64) * (((31 : Int64) * x4) + v3.toInt64)) + v5.toInt64)) + v7.toInt64)) + v11.toInt64)), (0, .ref (ad 0)), (3, .int x3), (6, .int x6)]) F.1 F.2.1 dX9_digestBoat_105 hl (by decide) rfl (fun ls hl => ?_)
        refine lv_ldc2 (v := 31) F.1 F.2.1 F.2.2.2.1 (F.2.2.2.2 _ wm_k_RX9_289) dX9_digestBoat_107 ?_
        refine lv_lload F.1 F.2.1 dX9_digestBoat_110 (lv_at hl 0 rfl) ?_
        refine lv_lmul F.1 F.2.1 dX9_digestBoat_112 ?_
        refine lv_aload_n F.1 F.2.1 dX9_digestBoat_113 rfl (lv_at hl 1 rfl) ?_
        refine gf_RX9_69 F hE hB po_0 rfl dX9_digestBoat_114 ?_
        refine lv_iconst (v := 0) F.1 F.2.1 dX9_digestBoat_117 (by decide) ?_
        obtain ⟨v13, hc12, h⟩ := bp_e h
        refine q_ci hB (q_goV F hE hB (k_X3_cargoAnswer hI σ9 (0 : Int32) hc12) (ca_RX9_175 F.2.2.2.2 ⟨Nat.le_of_ble_eq_true rfl, Nat.le_of_ble_eq_true rfl⟩) rfl po_61 rfl hl.1 rfl (Nat.le_of_ble_eq_true rfl) dX9_digestBoat_118 ⟨Nat.le_of_ble_eq_true rfl, Nat.le_of_ble_eq_true rfl⟩) (fun H locs hB => ?_)
        refine lv_i2l F.1 F.2.1 dX9_digestBoat_121 rfl ?_
        refine lv_ladd F.1 F.2.1 dX9_digestBoat_122 ?_
        refine lv_lstore (lv' := [(4, .long (((31 : Int64) * (((31 : Int64) * (((31 : Int64) * (((31 : Int64) * (((31 : Int64) * x4) + v3.toInt64)) + v5.toInt64)) + v7.toInt64)) + v11.toInt64)) + v13.toInt64)), (0, .ref (ad 0)), (3, .int x3), (6, .int x6)]) F.1 F.2.1 dX9_digestBoat_123 hl (by decide) rfl (fun ls hl => ?_)
        refine lv_aload_n F.1 F.2.1 dX9_digestBoat_125 rfl (lv_at hl 1 rfl) ?_
        refine lv_iload_n F.1 F.2.1 dX9_digestBoat_126 rfl (lv_at hl 2 rfl) ?_
        obtain ⟨σ15, hc14, h⟩ := bv_e h
        refine q_cv hB (q_goV F hE hB (k_X9_planSail hI σ9 x3 hc14) (ca_RX9_178 F.2.2.2.2 ⟨Nat.le_of_ble_eq_true rfl, Nat.le_of_ble_eq_true rfl⟩) rfl po_0 rfl hl.1 rfl (Nat.le_of_ble_eq_true rfl) dX9_digestBoat_127 ⟨Nat.le_of_ble_eq_true rfl, Nat.le_of_ble_eq_true rfl⟩) (fun H locs hB => ?_)
        refine lv_ldc2 (v := 31) F.1 F.2.1 F.2.2.2.1 (F.2.2.2.2 _ wm_k_RX9_289) dX9_digestBoat_130 ?_
        refine lv_lload F.1 F.2.1 dX9_digestBoat_133 (lv_at hl 0 rfl) ?_
        refine lv_lmul F.1 F.2.1 dX9_digestBoat_135 ?_
        refine lv_aload_n F.1 F.2.1 dX9_digestBoat_136 rfl (lv_at hl 1 rfl) ?_
        refine gf_RX9_69 F hE hB po_0 rfl dX9_digestBoat_137 ?_
        refine gf_RX9_181 F hE hB po_61 rfl dX9_digestBoat_140 ?_
        refine lv_i2l F.1 F.2.1 dX9_digestBoat_143 rfl ?_
        refine lv_ladd F.1 F.2.1 dX9_digestBoat_144 ?_
        refine lv_lstore (lv' := [(4, .long (((31 : Int64) * (((31 : Int64) * (((31 : Int64) * (((31 : Int64) * (((31 : Int64) * (((31 : Int64) * x4) + v3.toInt64)) + v5.toInt64)) + v7.toInt64)) + v11.toInt64)) + v13.toInt64)) + (σ15.1 61 3).toInt64)), (0, .ref (ad 0)), (3, .int x3), (6, .int x6)]) F.1 F.2.1 dX9_digestBoat_145 hl (by decide) rfl (fun ls hl => ?_)
        refine lv_ldc2 (v := 31) F.1 F.2.1 F.2.2.2.1 (F.2.2.2.2 _ wm_k_RX9_289) dX9_digestBoat_147 ?_
        refine lv_lload F.1 F.2.1 dX9_digestBoat_150 (lv_at hl 0 rfl) ?_
        refine lv_lmul F.1 F.2.1 dX9_digestBoat_152 ?_
        refine lv_aload_n F.1 F.2.1 dX9_digestBoat_153 rfl (lv_at hl 1 rfl) ?_
        refine gf_RX9_69 F hE hB po_0 rfl dX9_digestBoat_154 ?_
        refine gf_RX9_184 F hE hB po_61 rfl dX9_digestBoat_157 ?_
        refine lv_i2l F.1 F.2.1 dX9_digestBoat_160 rfl ?_
        refine lv_ladd F.1 F.2.1 dX9_digestBoat_161 ?_
        refine lv_lstore (lv' := [(4, .long (((31 : Int64) * (((31 : Int64) * (((31 : Int64) * (((31 : Int64) * (((31 : Int64) * (((31 : Int64) * (((31 : Int64) * x4) + v3.toInt64)) + v5.toInt64)) + v7.toInt64)) + v11.toInt64)) + v13.toInt64)) + (σ15.1 61 3).toInt64)) + (σ15.1 61 4).toInt64)), (0, .ref (ad 0)), (3, .int x3), (6, .int x6)]) F.1 F.2.1 dX9_digestBoat_162 hl (by decide) rfl (fun ls hl => ?_)
        refine lv_ldc2 (v := 31) F.1 F.2.1 F.2.2.2.1 (F.2.2.2.2 _ wm_k_RX9_289) dX9_digestBoat_164 ?_
        refine lv_lload F.1 F.2.1 dX9_digestBoat_167 (lv_at hl 0 rfl) ?_
        refine lv_lmul F.1 F.2.1 dX9_digestBoat_169 ?_
        refine lv_aload_n F.1 F.2.1 dX9_digestBoat_170 rfl (lv_at hl 1 rfl) ?_
        refine lv_iload_n F.1 F.2.1 dX9_digestBoat_171 rfl (lv_at hl 2 rfl) ?_
        obtain ⟨v18, σ17, hc16, h⟩ := bi_e h
        refine q_ci hB (q_goV F hE hB (k_X9_under hI σ15 x3 hc16) (ca_RX9_329 F.2.2.2.2 ⟨Nat.le_of_ble_eq_true rfl, Nat.le_of_ble_eq_true rfl⟩) rfl po_0 rfl hl.1 rfl (Nat.le_of_ble_eq_true rfl) dX9_digestBoat_172 ⟨Nat.le_of_ble_eq_true rfl, Nat.le_of_ble_eq_true rfl⟩) (fun H locs hB => ?_)
        refine lv_i2l F.1 F.2.1 dX9_digestBoat_175 rfl ?_
        refine lv_ladd F.1 F.2.1 dX9_digestBoat_176 ?_
        refine lv_lstore (lv' := [(4, .long (((31 : Int64) * (((31 : Int64) * (((31 : Int64) * (((31 : Int64) * (((31 : Int64) * (((31 : Int64) * (((31 : Int64) * (((31 : Int64) * x4) + v3.toInt64)) + v5.toInt64)) + v7.toInt64)) + v11.toInt64)) + v13.toInt64)) + (σ15.1 61 3).toInt64)) + (σ15.1 61 4).toInt64)) + v18.toInt64)), (0, .ref (ad 0)), (3, .int x3), (6, .int x6)]) F.1 F.2.1 dX9_digestBoat_177 hl (by decide) rfl (fun ls hl => ?_)
        refine lv_ldc2 (v := 31) F.1 F.2.1 F.2.2.2.1 (F.2.2.2.2 _ wm_k_RX9_289) dX9_digestBoat_179 ?_
        refine lv_lload F.1 F.2.1 dX9_digestBoat_182 (lv_at hl 0 rfl) ?_
        refine lv_lmul F.1 F.2.1 dX9_digestBoat_184 ?_
        refine lv_aload_n F.1 F.2.1 dX9_digestBoat_185 rfl (lv_at hl 1 rfl) ?_
        refine lv_iconst (v := 5) F.1 F.2.1 dX9_digestBoat_186 (by decide) ?_
        refine lv_iload_n F.1 F.2.1 dX9_digestBoat_187 rfl (lv_at hl 2 rfl) ?_
        refine lv_bipush (v := 20) F.1 F.2.1 dX9_digestBoat_188 (by decide) ?_
        refine lv_iconst (v := 0) F.1 F.2.1 dX9_digestBoat_190 (by decide) ?_
        obtain ⟨v21, σ20, hc19, h⟩ := bi_e h
        refine q_cl hB (q_goV F hE hB (k_X9_believed hI σ17 (5 : Int32) x3 (20 : Int32) (0 : Int32) hc19) (ca_RX9_332 F.2.2.2.2 ⟨Nat.le_of_ble_eq_true rfl, Nat.le_of_ble_eq_true rfl⟩) rfl po_0 rfl hl.1 rfl (Nat.le_of_ble_eq_true rfl) dX9_digestBoat_191 ⟨Nat.le_of_ble_eq_true rfl, Nat.le_of_ble_eq_true rfl⟩) (fun H locs hB => ?_)
        refine lv_ladd F.1 F.2.1 dX9_digestBoat_194 ?_
        refine lv_lstore (lv' := [(4, .long (((31 : Int64) * (((31 : Int64) * (((31 : Int64) * (((31 : Int64) * (((31 : Int64) * (((31 : Int64) * (((31 : Int64) * (((31 : Int64) * (((31 : Int64) * x4) + v3.toInt64)) + v5.toInt64)) + v7.toInt64)) + v11.toInt64)) + v13.toInt64)) + (σ15.1 61 3).toInt64)) + (σ15.1 61 4).toInt64)) + v18.toInt64)) + v21)), (0, .ref (ad 0)), (3, .int x3), (6, .int x6)]) F.1 F.2.1 dX9_digestBoat_195 hl (by decide) rfl (fun ls hl => ?_)
        refine lv_ldc2 (v := 31) F.1 F.2.1 F.2.2.2.1 (F.2.2.2.2 _ wm_k_RX9_289) dX9_digestBoat_197 ?_
        refine lv_lload F.1 F.2.1 dX9_digestBoat_200 (lv_at hl 0 rfl) ?_
        refine lv_lmul F.1 F.2.1 dX9_digestBoat_202 ?_
        refine lv_aload_n F.1 F.2.1 dX9_digestBoat_203 rfl (lv_at hl 1 rfl) ?_
        refine lv_iconst (v := 5) F.1 F.2.1 dX9_digestBoat_204 (by decide) ?_
        refine lv_iload_n F.1 F.2.1 dX9_digestBoat_205 rfl (lv_at hl 2 rfl) ?_
        refine lv_bipush (v := 20) F.1 F.2.1 dX9_digestBoat_206 (by decide) ?_
        refine lv_iconst (v := 1) F.1 F.2.1 dX9_digestBoat_208 (by decide) ?_
        obtain ⟨v24, σ23, hc22, h⟩ := bi_e h
        refine q_cl hB (q_goV F hE hB (k_X9_believed hI σ20 (5 : Int32) x3 (20 : Int32) (1 : Int32) hc22) (ca_RX9_332 F.2.2.2.2 ⟨Nat.le_of_ble_eq_true rfl, Nat.le_of_ble_eq_true rfl⟩) rfl po_0 rfl hl.1 rfl (Nat.le_of_ble_eq_true rfl) dX9_digestBoat_209 ⟨Nat.le_of_ble_eq_true rfl, Nat.le_of_ble_eq_true rfl⟩) (fun H locs hB => ?_)
        refine lv_ladd F.1 F.2.1 dX9_digestBoat_212 ?_
        refine lv_lstore (lv' := [(4, .long (((31 : Int64) * (((31 : Int64) * (((31 : Int64) * (((31 : Int64) * (((31 : Int64) * (((31 : Int64) * (((31 : Int64) * (((31 : Int64) * (((31 : Int64) * (((31 : Int64) * x4) + v3.toInt64)) + v5.toInt64)) + v7.toInt64)) + v11.toInt64)) + v13.toInt64)) + (σ15.1 61 3).toInt64)) + (σ15.1 61 4).toInt64)) + v18.toInt64)) + v21)) + v24)), (0, .ref (ad 0)), (3, .int x3), (6, .int x6)]) F.1 F.2.1 dX9_digestBoat_213 hl (by decide) rfl (fun ls hl => ?_)
        refine lv_ldc2 (v := 31) F.1 F.2.1 F.2.2.2.1 (F.2.2.2.2 _ wm_k_RX9_289) dX9_digestBoat_215 ?_
        refine lv_lload F.1 F.2.1 dX9_digestBoat_218 (lv_at hl 0 rfl) ?_
        refine lv_lmul F.1 F.2.1 dX9_digestBoat_220 ?_
        refine lv_aload_n F.1 F.2.1 dX9_digestBoat_221 rfl (lv_at hl 1 rfl) ?_
        refine lv_bipush (v := 7) F.1 F.2.1 dX9_digestBoat_222 (by decide) ?_
        refine lv_iconst (v := 4) F.1 F.2.1 dX9_digestBoat_224 (by decide) ?_
        refine lv_iload_n F.1 F.2.1 dX9_digestBoat_225 rfl (lv_at hl 2 rfl) ?_
        refine lv_iconst (v := 0) F.1 F.2.1 dX9_digestBoat_226 (by decide) ?_
        obtain ⟨v27, σ26, hc25, h⟩ := bi_e h
        refine q_ci hB (q_goV F hE hB (k_X9_loads hI σ23 (7 : Int32) (4 : Int32) x3 (0 : Int32) hc25) (ca_RX9_336 F.2.2.2.2 ⟨Nat.le_of_ble_eq_true rfl, Nat.le_of_ble_eq_true rfl⟩) rfl po_0 rfl hl.1 rfl (Nat.le_of_ble_eq_true rfl) dX9_digestBoat_227 ⟨Nat.le_of_ble_eq_true rfl, Nat.le_of_ble_eq_true rfl⟩) (fun H locs hB => ?_)
        refine lv_i2l F.1 F.2.1 dX9_digestBoat_230 rfl ?_
        refine lv_ladd F.1 F.2.1 dX9_digestBoat_231 ?_
        refine lv_lstore (lv' := [(4, .long (((31 : Int64) * (((31 : Int64) * (((31 : Int64) * (((31 : Int64) * (((31 : Int64) * (((31 : Int64) * (((31 : Int64) * (((31 : Int64) * (((31 : Int64) * (((31 : Int64) * (((31 : Int64) * x4) + v3.toInt64)) + v5.toInt64)) + v7.toInt64)) + v11.toInt64)) + v13.toInt64)) + (σ15.1 61 3).toInt64)) + (σ15.1 61 4).toInt64)) + v18.toInt64)) + v21)) + v24)) + v27.toInt64)), (0, .ref (ad 0)), (3, .int x3), (6, .int x6)]) F.1 F.2.1 dX9_digestBoat_232 hl (by decide) rfl (fun ls hl => ?_)
        refine lv_ldc2 (v := 31) F.1 F.2.1 F.2.2.2.1 (F.2.2.2.2 _ wm_k_RX9_289) dX9_digestBoat_234 ?_
        refine lv_lload F.1 F.2.1 dX9_digestBoat_237 (lv_at hl 0 rfl) ?_
        refine lv_lmul F.1 F.2.1 dX9_digestBoat_239 ?_
        refine lv_aload_n F.1 F.2.1 dX9_digestBoat_240 rfl (lv_at hl 1 rfl) ?_
        refine lv_bipush (v := 7) F.1 F.2.1 dX9_digestBoat_241 (by decide) ?_
        refine lv_iconst (v := 4) F.1 F.2.1 dX9_digestBoat_243 (by decide) ?_
        refine lv_iload_n F.1 F.2.1 dX9_digestBoat_244 rfl (lv_at hl 2 rfl) ?_
        refine lv_iconst (v := 1) F.1 F.2.1 dX9_digestBoat_245 (by decide) ?_
        obtain ⟨v30, σ29, hc28, h⟩ := bi_e h
        refine q_ci hB (q_goV F hE hB (k_X9_loads hI σ26 (7 : Int32) (4 : Int32) x3 (1 : Int32) hc28) (ca_RX9_336 F.2.2.2.2 ⟨Nat.le_of_ble_eq_true rfl, Nat.le_of_ble_eq_true rfl⟩) rfl po_0 rfl hl.1 rfl (Nat.le_of_ble_eq_true rfl) dX9_digestBoat_246 ⟨Nat.le_of_ble_eq_true rfl, Nat.le_of_ble_eq_true rfl⟩) (fun H locs hB => ?_)
        refine lv_i2l F.1 F.2.1 dX9_digestBoat_249 rfl ?_
        refine lv_ladd F.1 F.2.1 dX9_digestBoat_250 ?_
        exact q_lret F hlocks hr hB (so1 h) (so2 h) dX9_digestBoat_251
      · replace h := ie_e c1 h
        refine lv_ldc2 (v := 31) F.1 F.2.1 F.2.2.2.1 (F.2.2.2.2 _ wm_k_RX9_289) dX9_digestBoat_13 ?_
        refine lv_lload F.1 F.2.1 dX9_digestBoat_16 (lv_at hl 2 rfl) ?_
        refine lv_lmul F.1 F.2.1 dX9_digestBoat_18 ?_
        refine lv_aload_n F.1 F.2.1 dX9_digestBoat_19 rfl (lv_at hl 0 rfl) ?_
        refine lv_iload_n F.1 F.2.1 dX9_digestBoat_20 rfl (lv_at hl 1 rfl) ?_
        refine lv_iload F.1 F.2.1 dX9_digestBoat_21 (lv_at hl 3 rfl) ?_
        obtain ⟨v32, hc31, h⟩ := bp_e h
        refine q_ci hB (q_goV F hE hB (k_X9_boat hI σ0 x3 x6 hc31) (ca_RX9_320 F.2.2.2.2 ⟨Nat.le_of_ble_eq_true rfl, Nat.le_of_ble_eq_true rfl⟩) rfl po_0 rfl hl.1 rfl (Nat.le_of_ble_eq_true rfl) dX9_digestBoat_23 ⟨Nat.le_of_ble_eq_true rfl, Nat.le_of_ble_eq_true rfl⟩) (fun H locs hB => ?_)
        refine lv_i2l F.1 F.2.1 dX9_digestBoat_26 rfl ?_
        refine lv_ladd F.1 F.2.1 dX9_digestBoat_27 ?_
        refine lv_lstore (lv' := [(4, .long (((31 : Int64) * x4) + v32.toInt64)), (0, .ref (ad 0)), (3, .int x3), (6, .int x6)]) F.1 F.2.1 dX9_digestBoat_28 hl (by decide) rfl (fun ls hl => ?_)
        refine lv_iinc (v := (x6 + (1 : Int32))) (lv' := [(6, .int (x6 + (1 : Int32))), (4, .long (((31 : Int64) * x4) + v32.toInt64)), (0, .ref (ad 0)), (3, .int x3)]) F.1 F.2.1 dX9_digestBoat_30 hl (k := 3) rfl rfl (by decide) rfl (fun ls hl => ?_)
        refine lv_goto (tgt := 6) F.1 F.2.1 dX9_digestBoat_33 (by decide) ?_
        exact ih6 σ0 _ _ _ x3 (((31 : Int64) * x4) + v32.toInt64) (x6 + (1 : Int32)) h hB (lv_sub hl [2, 3, 1, 0] rfl)
  unfold f_X9_digestBoat at h
  refine lv_lload_n F.1 F.2.1 dX9_digestBoat_0 rfl (lv_at hl 1 rfl) ?_
  refine lv_lstore (lv' := [(4, .long a1), (0, .ref (ad 0)), (1, .long a1), (3, .int a3)]) F.1 F.2.1 dX9_digestBoat_1 hl (by decide) rfl (fun ls hl => ?_)
  refine lv_iconst (v := 0) F.1 F.2.1 dX9_digestBoat_3 (by decide) ?_
  refine lv_istore (lv' := [(6, .int (0 : Int32)), (4, .long a1), (0, .ref (ad 0)), (1, .long a1), (3, .int a3)]) F.1 F.2.1 dX9_digestBoat_4 hl (by decide) rfl (fun ls hl => ?_)
  exact B6 300 σ0 _ _ _ a3 a1 (0 : Int32) h hB (lv_sub hl [2, 4, 1, 0] rfl)
def f_X9_digest_b85 : Nat → Mem → Int64 → Int32 → Option (Int64 × Mem)
  | 0, _, _, _ => none
  | n85 + 1, σ0, x1, x3 => (if (σ0.1 10 2) ≤ x3 then (bp (f_X9_through σ0 (9 : Int32)) (fun v6 => (bp (f_X9_first σ0 (0 : Int32)) (fun v8 => (bp (f_X9_first σ0 (1 : Int32)) (fun v10 => (bv (f_X9_planAway σ0) (fun σ12 => (some ((((31 : Int64) * (((31 : Int64) * (((31 : Int64) * (((31 : Int64) * (((31 : Int64) * x1) + v6.toInt64)) + v8.toInt64)) + v10.toInt64)) + (σ12.1 61 3).toInt64)) + (σ12.1 61 4).toInt64), σ12)))))))))) else (bi (f_X9_digestBoat σ0 x1 x3) (fun v15 σ14 => (f_X9_digest_b85 n85 σ14 v15 (x3 + (1 : Int32))))))
def f_X9_digest_b59 : Nat → Mem → Int64 → Int32 → Option (Int64 × Mem)
  | 0, _, _, _ => none
  | n59 + 1, σ0, x1, x3 => (if (σ0.1 6 3) ≤ x3 then (f_X9_digest_b85 300 σ0 x1 (0 : Int32)) else (bi (f_X9_digestBridge σ0 x1 x3) (fun v18 σ17 => (f_X9_digest_b59 n59 σ17 v18 (x3 + (1 : Int32))))))
def f_X9_digest_b33 : Nat → Mem → Int64 → Int32 → Option (Int64 × Mem)
  | 0, _, _, _ => none
  | n33 + 1, σ0, x1, x3 => (if (2 : Int32) ≤ x3 then (f_X9_digest_b59 300 σ0 x1 (0 : Int32)) else (bp (f_X9_fault σ0 x3) (fun v20 => (f_X9_digest_b33 n33 σ0 (((31 : Int64) * x1) + v20.toInt64) (x3 + (1 : Int32))))))
def f_X9_digest_b6 : Nat → Mem → Int64 → Int32 → Option (Int64 × Mem)
  | 0, _, _, _ => none
  | n6 + 1, σ0, x1, x3 => (if (8 : Int32) ≤ x3 then (f_X9_digest_b33 300 σ0 x1 (0 : Int32)) else (bp (f_X9_count σ0 x3) (fun v22 => (f_X9_digest_b6 n6 σ0 (((31 : Int64) * x1) + v22.toInt64) (x3 + (1 : Int32))))))
def f_X9_digest (σ0 : Mem) : Option (Int64 × Mem) := (f_X9_digest_b6 300 σ0 (17 : Int64) (0 : Int32))
set_option maxHeartbeats 4000000 in
set_option maxRecDepth 100000 in
theorem k_X9_digest {l : Launch} {D : va_G} {cy : Nat → ClassId} {ad : Nat → Nat} {ta tb : Nat} (hI : AdI ad) (σ0 : Mem) {o : Int64 × Mem} (h : f_X9_digest σ0 = some o) : Met l yX9_digest (Cond.code yX9_digest cX9_digest 4 (some .long) :: wG) rm_X9_digest (CP D cy ad ta tb σ0 [.ref (ad 0)]) (CQl D cy ad o.1 o.2) 0 0 (AA ad) := by
  refine Met.ofW (cc := cX9_digest) (maxL := 4) (ret := (some .long)) (by decide) rfl ?_
  intro p e s m args below meth c s₁ B hml hv
  obtain ⟨rfl, hE, hP⟩ := hv
  have hts := atoms_spec (ws := Cond.code yX9_digest cX9_digest 4 (some .long) :: wG) B.pre
  have F : CallFix p m c cX9_digest 4 s _ wG RX9 := ⟨B.exec, B.bytes, hml, findClass_of_methodNamed B.named, fun w hw => hts w (List.mem_cons_of_mem _ hw)⟩
  have hr := B.returns
  have hlocks := B.notSynchronized
  have hB : Bd D cy ad σ0 s.heap s.heap [] := ⟨hP, va_S.rf⟩
  have hl := lv_entry ([.ref (ad 0)] : List Value) (n := 4) (Nat.le_of_ble_eq_true rfl)
  rw [lg_entry_eq]
  generalize (lg_sl ([.ref (ad 0)] : List Value) ++ List.replicate (4 - (lg_sl ([.ref (ad 0)] : List Value)).length) Slot.unset).toArray = ls at hl ⊢
  have hl : lv_has ls 4 [(0, .ref (ad 0))] := hl
  have B85 : ∀ (n85 : Nat) (σ0 : Mem) (H : Heap) (locs : List Loc) (ls : Array Slot) (x1 : Int64) (x3 : Int32), f_X9_digest_b85 n85 σ0 x1 x3 = some o → Bd D cy ad σ0 s.heap H locs → lv_has ls 4 [(0, .ref (ad 0)), (1, .long x1), (3, .int x3)] → W p l e rm_X9_digest s m ([.ref (ad 0)] : List Value).toArray below meth c H locs 0 0 (MQ below (CQl D cy ad o.1 o.2) ([.ref (ad 0)] : List Value).toArray s 0 0 (AA ad)) (F0 m 85 ls []) := by
    intro n85
    induction n85 with
    | zero => intro σ0 H locs ls x1 x3 h hB hl; cases h
    | succ n85 ih85 =>
      intro σ0 H locs ls x1 x3 h hB hl
      rw [f_X9_digest_b85] at h
      refine lv_iload_n F.1 F.2.1 dX9_digest_85 rfl (lv_at hl 2 rfl) ?_
      refine lv_aload_n F.1 F.2.1 dX9_digest_86 rfl (lv_at hl 0 rfl) ?_
      refine gf_RX9_25 F hE hB po_0 rfl dX9_digest_87 ?_
      refine gf_RX9_168 F hE hB po_10 rfl dX9_digest_90 ?_
      refine lv_icmp_ge (tgt := 109) F.1 F.2.1 dX9_digest_93 (by decide) (fun c4 => ?_) (fun c4 => ?_)
      · replace h := it_e c4 h
        refine lv_ldc2 (v := 31) F.1 F.2.1 F.2.2.2.1 (F.2.2.2.2 _ wm_k_RX9_289) dX9_digest_109 ?_
        refine lv_lload_n F.1 F.2.1 dX9_digest_112 rfl (lv_at hl 1 rfl) ?_
        refine lv_lmul F.1 F.2.1 dX9_digest_113 ?_
        refine lv_aload_n F.1 F.2.1 dX9_digest_114 rfl (lv_at hl 0 rfl) ?_
        refine lv_bipush (v := 9) F.1 F.2.1 dX9_digest_115 (by decide) ?_
        obtain ⟨v6, hc5, h⟩ := bp_e h
        refine q_ci hB (q_goV F hE hB (k_X9_through hI σ0 (9 : Int32) hc5) (ca_RX9_304 F.2.2.2.2 ⟨Nat.le_of_ble_eq_true rfl, Nat.le_of_ble_eq_true rfl⟩) rfl po_0 rfl hl.1 rfl (Nat.le_of_ble_eq_true rfl) dX9_digest_117 ⟨Nat.le_of_ble_eq_true rfl, Nat.le_of_ble_eq_true rfl⟩) (fun H locs hB => ?_)
        refine lv_i2l F.1 F.2.1 dX9_digest_120 rfl ?_
        refine lv_ladd F.1 F.2.1 dX9_digest_121 ?_
        refine lv_lstore_n (lv' := [(1, .long (((31 : Int64) * x1) + v6.toInt64)), (0, .ref (ad 0)), (3, .int x3)]) F.1 F.2.1 dX9_digest_122 rfl hl (by decide) rfl (fun ls hl => ?_)
        refine lv_ldc2 (v := 31) F.1 F.2.1 F.2.2.2.1 (F.2.2.2.2 _ wm_k_RX9_289) dX9_digest_123 ?_
        refine lv_lload_n F.1 F.2.1 dX9_digest_126 rfl (lv_at hl 0 rfl) ?_
        refine lv_lmul F.1 F.2.1 dX9_digest_127 ?_
        refine lv_aload_n F.1 F.2.1 dX9_digest_128 rfl (lv_at hl 1 rfl) ?_
        refine lv_iconst (v := 0) F.1 F.2.1 dX9_digest_129 (by decide) ?_
        obtain ⟨v8, hc7, h⟩ := bp_e h
        refine q_ci hB (q_goV F hE hB (k_X9_first hI σ0 (0 : Int32) hc7) (ca_RX9_307 F.2.2.2.2 ⟨Nat.le_of_ble_eq_true rfl, Nat.le_of_ble_eq_true rfl⟩) rfl po_0 rfl hl.1 rfl (Nat.le_of_ble_eq_true rfl) dX9_digest_130 ⟨Nat.le_of_ble_eq_true rfl, Nat.le_of_ble_eq_true rfl⟩) (fun H locs hB => ?_)
        refine lv_i2l F.1 F.2.1 dX9_digest_133 rfl ?_
        refine lv_ladd F.1 F.2.1 dX9_digest_134 ?_
        refine lv_lstore_n (lv' := [(1, .long (((31 : Int64) * (((31 : Int64) * x1) + v6.toInt64)) + v8.toInt64)), (0, .ref (ad 0)), (3, .int x3)]) F.1 F.2.1 dX9_digest_135 rfl hl (by decide) rfl (fun ls hl => ?_)
        refine lv_ldc2 (v := 31) F.1 F.2.1 F.2.2.2.1 (F.2.2.2.2 _ wm_k_RX9_289) dX9_digest_136 ?_
        refine lv_lload_n F.1 F.2.1 dX9_digest_139 rfl (lv_at hl 0 rfl) ?_
        refine lv_lmul F.1 F.2.1 dX9_digest_140 ?_
        refine lv_aload_n F.1 F.2.1 dX9_digest_141 rfl (lv_at hl 1 rfl) ?_
        refine lv_iconst (v := 1) F.1 F.2.1 dX9_digest_142 (by decide) ?_
        obtain ⟨v10, hc9, h⟩ := bp_e h
        refine q_ci hB (q_goV F hE hB (k_X9_first hI σ0 (1 : Int32) hc9) (ca_RX9_307 F.2.2.2.2 ⟨Nat.le_of_ble_eq_true rfl, Nat.le_of_ble_eq_true rfl⟩) rfl po_0 rfl hl.1 rfl (Nat.le_of_ble_eq_true rfl) dX9_digest_143 ⟨Nat.le_of_ble_eq_true rfl, Nat.le_of_ble_eq_true rfl⟩) (fun H locs hB => ?_)
        refine lv_i2l F.1 F.2.1 dX9_digest_146 rfl ?_
        refine lv_ladd F.1 F.2.1 dX9_digest_147 ?_
        refine lv_lstore_n (lv' := [(1, .long (((31 : Int64) * (((31 : Int64) * (((31 : Int64) * x1) + v6.toInt64)) + v8.toInt64)) + v10.toInt64)), (0, .ref (ad 0)), (3, .int x3)]) F.1 F.2.1 dX9_digest_148 rfl hl (by decide) rfl (fun ls hl => ?_)
        refine lv_aload_n F.1 F.2.1 dX9_digest_149 rfl (lv_at hl 1 rfl) ?_
        obtain ⟨σ12, hc11, h⟩ := bv_e h
        refine q_cv hB (q_goV F hE hB (k_X9_planAway hI σ0 hc11) (ca_RX9_187 F.2.2.2.2 ⟨Nat.le_of_ble_eq_true rfl, Nat.le_of_ble_eq_true rfl⟩) rfl po_0 rfl hl.1 rfl (Nat.le_of_ble_eq_true rfl) dX9_digest_150 ⟨Nat.le_of_ble_eq_true rfl, Nat.le_of_ble_eq_true rfl⟩) (fun H locs hB => ?_)
        refine lv_ldc2 (v := 31) F.1 F.2.1 F.2.2.2.1 (F.2.2.2.2 _ wm_k_RX9_289) dX9_digest_153 ?_
        refine lv_lload_n F.1 F.2.1 dX9_digest_156 rfl (lv_at hl 0 rfl) ?_
        refine lv_lmul F.1 F.2.1 dX9_digest_157 ?_
        refine lv_aload_n F.1 F.2.1 dX9_digest_158 rfl (lv_at hl 1 rfl) ?_
        refine gf_RX9_69 F hE hB po_0 rfl dX9_digest_159 ?_
        refine gf_RX9_181 F hE hB po_61 rfl dX9_digest_162 ?_
        refine lv_i2l F.1 F.2.1 dX9_digest_165 rfl ?_
        refine lv_ladd F.1 F.2.1 dX9_digest_166 ?_
        refine lv_lstore_n (lv' := [(1, .long (((31 : Int64) * (((31 : Int64) * (((31 : Int64) * (((31 : Int64) * x1) + v6.toInt64)) + v8.toInt64)) + v10.toInt64)) + (σ12.1 61 3).toInt64)), (0, .ref (ad 0)), (3, .int x3)]) F.1 F.2.1 dX9_digest_167 rfl hl (by decide) rfl (fun ls hl => ?_)
        refine lv_ldc2 (v := 31) F.1 F.2.1 F.2.2.2.1 (F.2.2.2.2 _ wm_k_RX9_289) dX9_digest_168 ?_
        refine lv_lload_n F.1 F.2.1 dX9_digest_171 rfl (lv_at hl 0 rfl) ?_
        refine lv_lmul F.1 F.2.1 dX9_digest_172 ?_
        refine lv_aload_n F.1 F.2.1 dX9_digest_173 rfl (lv_at hl 1 rfl) ?_
        refine gf_RX9_69 F hE hB po_0 rfl dX9_digest_174 ?_
        refine gf_RX9_184 F hE hB po_61 rfl dX9_digest_177 ?_
        refine lv_i2l F.1 F.2.1 dX9_digest_180 rfl ?_
        refine lv_ladd F.1 F.2.1 dX9_digest_181 ?_
        exact q_lret F hlocks hr hB (so1 h) (so2 h) dX9_digest_182
      · replace h := ie_e c4 h
        refine lv_aload_n F.1 F.2.1 dX9_digest_96 rfl (lv_at hl 0 rfl) ?_
        refine lv_lload_n F.1 F.2.1 dX9_digest_97 rfl (lv_at hl 1 rfl) ?_
        refine lv_iload_n F.1 F.2.1 dX9_digest_98 rfl (lv_at hl 2 rfl) ?_
        obtain ⟨v15, σ14, hc13, h⟩ := bi_e h
        refine q_cl hB (q_goV F hE hB (k_X9_digestBoat hI σ0 x1 x3 hc13) (ca_RX9_301 F.2.2.2.2 ⟨Nat.le_of_ble_eq_true rfl, Nat.le_of_ble_eq_true rfl⟩) rfl po_0 rfl hl.1 rfl (Nat.le_of_ble_eq_true rfl) dX9_digest_99 ⟨Nat.le_of_ble_eq_true rfl, Nat.le_of_ble_eq_true rfl⟩) (fun H locs hB => ?_)
        refine lv_lstore_n (lv' := [(1, .long v15), (0, .ref (ad 0)), (3, .int x3)]) F.1 F.2.1 dX9_digest_102 rfl hl (by decide) rfl (fun ls hl => ?_)
        refine lv_iinc (v := (x3 + (1 : Int32))) (lv' := [(3, .int (x3 + (1 : Int32))), (1, .long v15), (0, .ref (ad 0))]) F.1 F.2.1 dX9_digest_103 hl (k := 2) rfl rfl (by decide) rfl (fun ls hl => ?_)
        refine lv_goto (tgt := 85) F.1 F.2.1 dX9_digest_106 (by decide) ?_
        exact ih85 σ14 _ _ _ v15 (x3 + (1 : Int32)) h hB (lv_sub hl [2, 1, 0] rfl)
  have B59 : ∀ (n59 : Nat) (σ0 : Mem) (H : Heap) (locs : List Loc) (ls : Array Slot) (x1 : Int64) (x3 : Int32), f_X9_digest_b59 n59 σ0 x1 x3 = some o → Bd D cy ad σ0 s.heap H locs → lv_has ls 4 [(0, .ref (ad 0)), (1, .long x1), (3, .int x3)] → W p l e rm_X9_digest s m ([.ref (ad 0)] : List Value).toArray below meth c H locs 0 0 (MQ below (CQl D cy ad o.1 o.2) ([.ref (ad 0)] : List Value).toArray s 0 0 (AA ad)) (F0 m 59 ls []) := by
    intro n59
    induction n59 with
    | zero => intro σ0 H locs ls x1 x3 h hB hl; cases h
    | succ n59 ih59 =>
      intro σ0 H locs ls x1 x3 h hB hl
      rw [f_X9_digest_b59] at h
      refine lv_iload_n F.1 F.2.1 dX9_digest_59 rfl (lv_at hl 2 rfl) ?_
      refine lv_aload_n F.1 F.2.1 dX9_digest_60 rfl (lv_at hl 0 rfl) ?_
      refine gf_RX9_18 F hE hB po_0 rfl dX9_digest_61 ?_
      refine gf_RX9_279 F hE hB po_6 rfl dX9_digest_64 ?_
      refine lv_icmp_ge (tgt := 83) F.1 F.2.1 dX9_digest_67 (by decide) (fun c3 => ?_) (fun c3 => ?_)
      · replace h := it_e c3 h
        refine lv_iconst (v := 0) F.1 F.2.1 dX9_digest_83 (by decide) ?_
        refine lv_istore_n (lv' := [(3, .int (0 : Int32)), (0, .ref (ad 0)), (1, .long x1)]) F.1 F.2.1 dX9_digest_84 rfl hl (by decide) rfl (fun ls hl => ?_)
        exact B85 300 σ0 _ _ _ x1 (0 : Int32) h hB (lv_sub hl [1, 2, 0] rfl)
      · replace h := ie_e c3 h
        refine lv_aload_n F.1 F.2.1 dX9_digest_70 rfl (lv_at hl 0 rfl) ?_
        refine lv_lload_n F.1 F.2.1 dX9_digest_71 rfl (lv_at hl 1 rfl) ?_
        refine lv_iload_n F.1 F.2.1 dX9_digest_72 rfl (lv_at hl 2 rfl) ?_
        obtain ⟨v18, σ17, hc16, h⟩ := bi_e h
        refine q_cl hB (q_goV F hE hB (k_X9_digestBridge hI σ0 x1 x3 hc16) (ca_RX9_297 F.2.2.2.2 ⟨Nat.le_of_ble_eq_true rfl, Nat.le_of_ble_eq_true rfl⟩) rfl po_0 rfl hl.1 rfl (Nat.le_of_ble_eq_true rfl) dX9_digest_73 ⟨Nat.le_of_ble_eq_true rfl, Nat.le_of_ble_eq_true rfl⟩) (fun H locs hB => ?_)
        refine lv_lstore_n (lv' := [(1, .long v18), (0, .ref (ad 0)), (3, .int x3)]) F.1 F.2.1 dX9_digest_76 rfl hl (by decide) rfl (fun ls hl => ?_)
        refine lv_iinc (v := (x3 + (1 : Int32))) (lv' := [(3, .int (x3 + (1 : Int32))), (1, .long v18), (0, .ref (ad 0))]) F.1 F.2.1 dX9_digest_77 hl (k := 2) rfl rfl (by decide) rfl (fun ls hl => ?_)
        refine lv_goto (tgt := 59) F.1 F.2.1 dX9_digest_80 (by decide) ?_
        exact ih59 σ17 _ _ _ v18 (x3 + (1 : Int32)) h hB (lv_sub hl [2, 1, 0] rfl)
  have B33 : ∀ (n33 : Nat) (σ0 : Mem) (H : Heap) (locs : List Loc) (ls : Array Slot) (x1 : Int64) (x3 : Int32), f_X9_digest_b33 n33 σ0 x1 x3 = some o → Bd D cy ad σ0 s.heap H locs → lv_has ls 4 [(0, .ref (ad 0)), (1, .long x1), (3, .int x3)] → W p l e rm_X9_digest s m ([.ref (ad 0)] : List Value).toArray below meth c H locs 0 0 (MQ below (CQl D cy ad o.1 o.2) ([.ref (ad 0)] : List Value).toArray s 0 0 (AA ad)) (F0 m 33 ls []) := by
    intro n33
    induction n33 with
    | zero => intro σ0 H locs ls x1 x3 h hB hl; cases h
    | succ n33 ih33 =>
      intro σ0 H locs ls x1 x3 h hB hl
      rw [f_X9_digest_b33] at h
      refine lv_iload_n F.1 F.2.1 dX9_digest_33 rfl (lv_at hl 2 rfl) ?_
      refine lv_iconst (v := 2) F.1 F.2.1 dX9_digest_34 (by decide) ?_
      refine lv_icmp_ge (tgt := 57) F.1 F.2.1 dX9_digest_35 (by decide) (fun c2 => ?_) (fun c2 => ?_)
      · replace h := it_e c2 h
        refine lv_iconst (v := 0) F.1 F.2.1 dX9_digest_57 (by decide) ?_
        refine lv_istore_n (lv' := [(3, .int (0 : Int32)), (0, .ref (ad 0)), (1, .long x1)]) F.1 F.2.1 dX9_digest_58 rfl hl (by decide) rfl (fun ls hl => ?_)
        exact B59 300 σ0 _ _ _ x1 (0 : Int32) h hB (lv_sub hl [1, 2, 0] rfl)
      · replace h := ie_e c2 h
        refine lv_ldc2 (v := 31) F.1 F.2.1 F.2.2.2.1 (F.2.2.2.2 _ wm_k_RX9_289) dX9_digest_38 ?_
        refine lv_lload_n F.1 F.2.1 dX9_digest_41 rfl (lv_at hl 1 rfl) ?_
        refine lv_lmul F.1 F.2.1 dX9_digest_42 ?_
        refine lv_aload_n F.1 F.2.1 dX9_digest_43 rfl (lv_at hl 0 rfl) ?_
        refine lv_iload_n F.1 F.2.1 dX9_digest_44 rfl (lv_at hl 2 rfl) ?_
        obtain ⟨v20, hc19, h⟩ := bp_e h
        refine q_ci hB (q_goV F hE hB (k_X9_fault hI σ0 x3 hc19) (ca_RX9_294 F.2.2.2.2 ⟨Nat.le_of_ble_eq_true rfl, Nat.le_of_ble_eq_true rfl⟩) rfl po_0 rfl hl.1 rfl (Nat.le_of_ble_eq_true rfl) dX9_digest_45 ⟨Nat.le_of_ble_eq_true rfl, Nat.le_of_ble_eq_true rfl⟩) (fun H locs hB => ?_)
        refine lv_i2l F.1 F.2.1 dX9_digest_48 rfl ?_
        refine lv_ladd F.1 F.2.1 dX9_digest_49 ?_
        refine lv_lstore_n (lv' := [(1, .long (((31 : Int64) * x1) + v20.toInt64)), (0, .ref (ad 0)), (3, .int x3)]) F.1 F.2.1 dX9_digest_50 rfl hl (by decide) rfl (fun ls hl => ?_)
        refine lv_iinc (v := (x3 + (1 : Int32))) (lv' := [(3, .int (x3 + (1 : Int32))), (1, .long (((31 : Int64) * x1) + v20.toInt64)), (0, .ref (ad 0))]) F.1 F.2.1 dX9_digest_51 hl (k := 2) rfl rfl (by decide) rfl (fun ls hl => ?_)
        refine lv_goto (tgt := 33) F.1 F.2.1 dX9_digest_54 (by decide) ?_
        exact ih33 σ0 _ _ _ (((31 : Int64) * x1) + v20.toInt64) (x3 + (1 : Int32)) h hB (lv_sub hl [2, 1, 0] rfl)
  have B6 : ∀ (n6 : Nat) (σ0 : Mem) (H : Heap) (locs : List Loc) (ls : Array Slot) (x1 : Int64) (x3 : Int32), f_X9_digest_b6 n6 σ0 x1 x3 = some o → Bd D cy ad σ0 s.heap H locs → lv_has ls 4 [(0, .ref (ad 0)), (1, .long x1), (3, .int x3)] → W p l e rm_X9_digest s m ([.ref (ad 0)] : List Value).toArray below meth c H locs 0 0 (MQ below (CQl D cy ad o.1 o.2) ([.ref (ad 0)] : List Value).toArray s 0 0 (AA ad)) (F0 m 6 ls []) := by
    intro n6
    induction n6 with
    | zero => intro σ0 H locs ls x1 x3 h hB hl; cases h
    | succ n6 ih6 =>
      intro σ0 H locs ls x1 x3 h hB hl
      rw [f_X9_digest_b6] at h
      refine lv_iload_n F.1 F.2.1 dX9_digest_6 rfl (lv_at hl 2 rfl) ?_
      refine lv_bipush (v := 8) F.1 F.2.1 dX9_digest_7 (by decide) ?_
      refine lv_icmp_ge (tgt := 31) F.1 F.2.1 dX9_digest_9 (by decide) (fun c1 => ?_) (fun c1 => ?_)
      · replace h := it_e c1 h
        refine lv_iconst (v := 0) F.1 F.2.1 dX9_digest_31 (by decide) ?_
        refine lv_istore_n (lv' := [(3, .int (0 : Int32)), (0, .ref (ad 0)), (1, .long x1)]) F.1 F.2.1 dX9_digest_32 rfl hl (by decide) rfl (fun ls hl => ?_)
        exact B33 300 σ0 _ _ _ x1 (0 : Int32) h hB (lv_sub hl [1, 2, 0] rfl)
      · replace h := ie_e c1 h
        refine lv_ldc2 (v := 31) F.1 F.2.1 F.2.2.2.1 (F.2.2.2.2 _ wm_k_RX9_289) dX9_digest_12 ?_
        refine lv_lload_n F.1 F.2.1 dX9_digest_15 rfl (lv_at hl 1 rfl) ?_
        refine lv_lmul F.1 F.2.1 dX9_digest_16 ?_
        refine lv_aload_n F.1 F.2.1 dX9_digest_17 rfl (lv_at hl 0 rfl) ?_
        refine lv_iload_n F.1 F.2.1 dX9_digest_18 rfl (lv_at hl 2 rfl) ?_
        obtain ⟨v22, hc21, h⟩ := bp_e h
        refine q_ci hB (q_goV F hE hB (k_X9_count hI σ0 x3 hc21) (ca_RX9_291 F.2.2.2.2 ⟨Nat.le_of_ble_eq_true rfl, Nat.le_of_ble_eq_true rfl⟩) rfl po_0 rfl hl.1 rfl (Nat.le_of_ble_eq_true rfl) dX9_digest_19 ⟨Nat.le_of_ble_eq_true rfl, Nat.le_of_ble_eq_true rfl⟩) (fun H locs hB => ?_)
        refine lv_i2l F.1 F.2.1 dX9_digest_22 rfl ?_
        refine lv_ladd F.1 F.2.1 dX9_digest_23 ?_
        refine lv_lstore_n (lv' := [(1, .long (((31 : Int64) * x1) + v22.toInt64)), (0, .ref (ad 0)), (3, .int x3)]) F.1 F.2.1 dX9_digest_24 rfl hl (by decide) rfl (fun ls hl => ?_)
        refine lv_iinc (v := (x3 + (1 : Int32))) (lv' := [(3, .int (x3 + (1 : Int32))), (1, .long (((31 : Int64) * x1) + v22.toInt64)), (0, .ref (ad 0))]) F.1 F.2.1 dX9_digest_25 hl (k := 2) rfl rfl (by decide) rfl (fun ls hl => ?_)
        refine lv_goto (tgt := 6) F.1 F.2.1 dX9_digest_28 (by decide) ?_
        exact ih6 σ0 _ _ _ (((31 : Int64) * x1) + v22.toInt64) (x3 + (1 : Int32)) h hB (lv_sub hl [2, 1, 0] rfl)
  unfold f_X9_digest at h
  refine lv_ldc2 (v := 17) F.1 F.2.1 F.2.2.2.1 (F.2.2.2.2 _ wm_k_RX9_287) dX9_digest_0 ?_
  refine lv_lstore_n (lv' := [(1, .long (17 : Int64)), (0, .ref (ad 0))]) F.1 F.2.1 dX9_digest_3 rfl hl (by decide) rfl (fun ls hl => ?_)
  refine lv_iconst (v := 0) F.1 F.2.1 dX9_digest_4 (by decide) ?_
  refine lv_istore_n (lv' := [(3, .int (0 : Int32)), (1, .long (17 : Int64)), (0, .ref (ad 0))]) F.1 F.2.1 dX9_digest_5 rfl hl (by decide) rfl (fun ls hl => ?_)
  exact B6 300 σ0 _ _ _ (17 : Int64) (0 : Int32) h hB (lv_sub hl [2, 1, 0] rfl)
