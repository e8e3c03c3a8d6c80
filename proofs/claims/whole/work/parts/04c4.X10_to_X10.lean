def f_X10_digest_b80 : Nat → Mem → Int64 → Int32 → Option (Int64 × Mem)
  | 0, _, _, _ => none
  | n80 + 1, σ0, x1, x3 => (if (σ0.1 64 9) ≤ x3 then (bi (f_X10_throughOf σ0 (9 : Int32)) (fun v12 σ11 => (bi (f_X10_firstOf σ11 (0 : Int32)) (fun v15 σ14 => (bi (f_X10_firstOf σ14 (1 : Int32)) (fun v18 σ17 => (bi (f_X10_awayOf σ17 (0 : Int32)) (fun v21 σ20 => (bi (f_X10_awayOf σ20 (1 : Int32)) (fun v24 σ23 => (some ((((31 : Int64) * (((31 : Int64) * (((31 : Int64) * (((31 : Int64) * (((31 : Int64) * x1) + v12.toInt64)) + v15.toInt64)) + v18.toInt64)) + v21.toInt64)) + v24.toInt64), σ23)))))))))))) else (bi (f_X10_tellsBoat σ0 x1 x3) (fun v27 σ26 => (f_X10_digest_b80 n80 σ26 v27 (x3 + (1 : Int32))))))
def f_X10_digest_b57 : Nat → Mem → Int64 → Int32 → Option (Int64 × Mem)
  | 0, _, _, _ => none
  | n57 + 1, σ0, x1, x3 => (if (σ0.1 64 7) ≤ x3 then (f_X10_digest_b80 300 σ0 x1 (0 : Int32)) else (bi (f_X10_tellsBridge σ0 x1 x3) (fun v30 σ29 => (f_X10_digest_b57 n57 σ29 v30 (x3 + (1 : Int32))))))
def f_X10_digest_b6 : Nat → Mem → Int64 → Int32 → Option (Int64 × Mem)
  | 0, _, _, _ => none
  | n6 + 1, σ0, x1, x3 => (if (8 : Int32) ≤ x3 then (bi (f_X10_readsBridges σ0) (fun v4 σ3 => (bi (f_X10_readsBoats σ3) (fun v7 σ6 => (f_X10_digest_b57 300 σ6 (((31 : Int64) * (((31 : Int64) * x1) + v4.toInt64)) + v7.toInt64) (0 : Int32)))))) else (bi (f_X10_count σ0 x3) (fun v33 σ32 => (f_X10_digest_b6 n6 σ32 (((31 : Int64) * x1) + v33.toInt64) (x3 + (1 : Int32))))))
def f_X10_digest (σ0 : Mem) : Option (Int64 × Mem) := (f_X10_digest_b6 300 σ0 (17 : Int64) (0 : Int32))
set_option maxHeartbeats 4000000 in
set_option maxRecDepth 100000 in
theorem k_X10_digest {l : Launch} {D : va_G} {cy : Nat → ClassId} {ad : Nat → Nat} {ta tb : Nat} (hI : AdI ad) (σ0 : Mem) {o : Int64 × Mem} (h : f_X10_digest σ0 = some o) : Met l yX10_digest (Cond.code yX10_digest cX10_digest 4 (some .long) :: wG) rm_X10_digest (CP D cy ad ta tb σ0 [.ref (ad 64)]) (CQl D cy ad o.1 o.2) 0 0 (AA ad) := by
  refine Met.ofW (cc := cX10_digest) (maxL := 4) (ret := (some .long)) (by decide) rfl ?_
  intro p e s m args below meth c s₁ B hml hv
  obtain ⟨rfl, hE, hP⟩ := hv
  have hts := atoms_spec (ws := Cond.code yX10_digest cX10_digest 4 (some .long) :: wG) B.pre
  have F : CallFix p m c cX10_digest 4 s _ wG RX10 := ⟨B.exec, B.bytes, hml, findClass_of_methodNamed B.named, fun w hw => hts w (List.mem_cons_of_mem _ hw)⟩
  have hr := B.returns
  have hlocks := B.notSynchronized
  have hB : Bd D cy ad σ0 s.heap s.heap [] := ⟨hP, va_S.rf⟩
  have hl := lv_entry ([.ref (ad 64)] : List Value) (n := 4) (Nat.le_of_ble_eq_true rfl)
  rw [lg_entry_eq]
  generalize (lg_sl ([.ref (ad 64)] : List Value) ++ List.replicate (4 - (lg_sl ([.ref (ad 64)] : List Value)).length) Slot.unset).toArray = ls at hl ⊢
  have hl : lv_has ls 4 [(0, .ref (ad 64))] := hl
  have B80 : ∀ (n80 : Nat) (σ0 : Mem) (H : Heap) (locs : List Loc) (ls : Array Slot) (x1 : Int64) (x3 : Int32), f_X10_digest_b80 n80 σ0 x1 x3 = some o → Bd D cy ad σ0 s.heap H locs → lv_has ls 4 [(0, .ref (ad 64)), (1, .long x1), (3, .int x3)] → W p l e rm_X10_digest s m ([.ref (ad 64)] : List Value).toArray below meth c H locs 0 0 (MQ below (CQl D cy ad o.1 o.2) ([.ref (ad 64)] : List Value).toArray s 0 0 (AA ad)) (F0 m 80 ls []) := by
    intro n80
    induction n80 with
    | zero => intro σ0 H locs ls x1 x3 h hB hl; cases h
    | succ n80 ih80 =>
      intro σ0 H locs ls x1 x3 h hB hl
      rw [f_X10_digest_b80] at h
      refine lv_iload_n F.1 F.2.1 dX10_digest_80 rfl (lv_at hl 2 rfl) ?_
      refine lv_aload_n F.1 F.2.1 dX10_digest_81 rfl (lv_at hl 0 rfl) ?_
      refine gf_RX10_111 F hE hB po_64 rfl dX10_digest_82 ?_
      refine lv_icmp_ge (tgt := 101) F.1 F.2.1 dX10_digest_85 (by decide) (fun c9 => ?_) (fun c9 => ?_)
      · replace h := it_e c9 h
        refine lv_ldc2 (v := 31) F.1 F.2.1 F.2.2.2.1 (F.2.2.2.2 _ wm_k_RX10_275) dX10_digest_101 ?_
        refine lv_lload_n F.1 F.2.1 dX10_digest_104 rfl (lv_at hl 1 rfl) ?_
        refine lv_lmul F.1 F.2.1 dX10_digest_105 ?_
        refine lv_aload_n F.1 F.2.1 dX10_digest_106 rfl (lv_at hl 0 rfl) ?_
        refine lv_bipush (v := 9) F.1 F.2.1 dX10_digest_107 (by decide) ?_
        obtain ⟨v12, σ11, hc10, h⟩ := bi_e h
        refine q_ci hB (q_goV F hE hB (k_X10_throughOf hI σ0 (9 : Int32) hc10) (ca_RX10_203 F.2.2.2.2 ⟨Nat.le_of_ble_eq_true rfl, Nat.le_of_ble_eq_true rfl⟩) rfl po_64 rfl hl.1 rfl (Nat.le_of_ble_eq_true rfl) dX10_digest_109 ⟨Nat.le_of_ble_eq_true rfl, Nat.le_of_ble_eq_true rfl⟩) (fun H locs hB => ?_)
        refine lv_i2l F.1 F.2.1 dX10_digest_112 rfl ?_
        refine lv_ladd F.1 F.2.1 dX10_digest_113 ?_
        refine lv_lstore_n (lv' := [(1, .long (((31 : Int64) * x1) + v12.toInt64)), (0, .ref (ad 64)), (3, .int x3)]) F.1 F.2.1 dX10_digest_114 rfl hl (by decide) rfl (fun ls hl => ?_)
        refine lv_ldc2 (v := 31) F.1 F.2.1 F.2.2.2.1 (F.2.2.2.2 _ wm_k_RX10_275) dX10_digest_115 ?_
        refine lv_lload_n F.1 F.2.1 dX10_digest_118 rfl (lv_at hl 0 rfl) ?_
        refine lv_lmul F.1 F.2.1 dX10_digest_119 ?_
        refine lv_aload_n F.1 F.2.1 dX10_digest_120 rfl (lv_at hl 1 rfl) ?_
        refine lv_iconst (v := 0) F.1 F.2.1 dX10_digest_121 (by decide) ?_
        obtain ⟨v15, σ14, hc13, h⟩ := bi_e h
        refine q_ci hB (q_goV F hE hB (k_X10_firstOf hI σ11 (0 : Int32) hc13) (ca_RX10_206 F.2.2.2.2 ⟨Nat.le_of_ble_eq_true rfl, Nat.le_of_ble_eq_true rfl⟩) rfl po_64 rfl hl.1 rfl (Nat.le_of_ble_eq_true rfl) dX10_digest_122 ⟨Nat.le_of_ble_eq_true rfl, Nat.le_of_ble_eq_true rfl⟩) (fun H locs hB => ?_)
        refine lv_i2l F.1 F.2.1 dX10_digest_125 rfl ?_
        refine lv_ladd F.1 F.2.1 dX10_digest_126 ?_
        refine lv_lstore_n (lv' := [(1, .long (((31 : Int64) * (((31 : Int64) * x1) + v12.toInt64)) + v15.toInt64)), (0, .ref (ad 64)), (3, .int x3)]) F.1 F.2.1 dX10_digest_127 rfl hl (by decide) rfl (fun ls hl => ?_)
        refine lv_ldc2 (v := 31) F.1 F.2.1 F.2.2.2.1 (F.2.2.2.2 _ wm_k_RX10_275) dX10_digest_128 ?_
        refine lv_lload_n F.1 F.2.1 dX10_digest_131 rfl (lv_at hl 0 rfl) ?_
        refine lv_lmul F.1 F.2.1 dX10_digest_132 ?_
        refine lv_aload_n F.1 F.2.1 dX10_digest_133 rfl (lv_at hl 1 rfl) ?_
        refine lv_iconst (v := 1) F.1 F.2.1 dX10_digest_134 (by decide) ?_
        obtain ⟨v18, σ17, hc16, h⟩ := bi_e h
        refine q_ci hB (q_goV F hE hB (k_X10_firstOf hI σ14 (1 : Int32) hc16) (ca_RX10_206 F.2.2.2.2 ⟨Nat.le_of_ble_eq_true rfl, Nat.le_of_ble_eq_true rfl⟩) rfl po_64 rfl hl.1 rfl (Nat.le_of_ble_eq_true rfl) dX10_digest_135 ⟨Nat.le_of_ble_eq_true rfl, Nat.le_of_ble_eq_true rfl⟩) (fun H locs hB => ?_)
        refine lv_i2l F.1 F.2.1 dX10_digest_138 rfl ?_
        refine lv_ladd F.1 F.2.1 dX10_digest_139 ?_
        refine lv_lstore_n (lv' := [(1, .long (((31 : Int64) * (((31 : Int64) * (((31 : Int64) * x1) + v12.toInt64)) + v15.toInt64)) + v18.toInt64)), (0, .ref (ad 64)), (3, .int x3)]) F.1 F.2.1 dX10_digest_140 rfl hl (by decide) rfl (fun ls hl => ?_)
        refine lv_ldc2 (v := 31) F.1 F.2.1 F.2.2.2.1 (F.2.2.2.2 _ wm_k_RX10_275) dX10_digest_141 ?_
        refine lv_lload_n F.1 F.2.1 dX10_digest_144 rfl (lv_at hl 0 rfl) ?_
        refine lv_lmul F.1 F.2.1 dX10_digest_145 ?_
        refine lv_aload_n F.1 F.2.1 dX10_digest_146 rfl (lv_at hl 1 rfl) ?_
        refine lv_iconst (v := 0) F.1 F.2.1 dX10_digest_147 (by decide) ?_
        obtain ⟨v21, σ20, hc19, h⟩ := bi_e h
        refine q_ci hB (q_goV F hE hB (k_X10_awayOf hI σ17 (0 : Int32) hc19) (ca_RX10_226 F.2.2.2.2 ⟨Nat.le_of_ble_eq_true rfl, Nat.le_of_ble_eq_true rfl⟩) rfl po_64 rfl hl.1 rfl (Nat.le_of_ble_eq_true rfl) dX10_digest_148 ⟨Nat.le_of_ble_eq_true rfl, Nat.le_of_ble_eq_true rfl⟩) (fun H locs hB => ?_)
        refine lv_i2l F.1 F.2.1 dX10_digest_151 rfl ?_
        refine lv_ladd F.1 F.2.1 dX10_digest_152 ?_
        refine lv_lstore_n (lv' := [(1, .long (((31 : Int64) * (((31 : Int64) * (((31 : Int64) * (((31 : Int64) * x1) + v12.toInt64)) + v15.toInt64)) + v18.toInt64)) + v21.toInt64)), (0, .ref (ad 64)), (3, .int x3)]) F.1 F.2.1 dX10_digest_153 rfl hl (by decide) rfl (fun ls hl => ?_)
        refine lv_ldc2 (v := 31) F.1 F.2.1 F.2.2.2.1 (F.2.2.2.2 _ wm_k_RX10_275) dX10_digest_154 ?_
        refine lv_lload_n F.1 F.2.1 dX10_digest_157 rfl (lv_at hl 0 rfl) ?_
        refine lv_lmul F.1 F.2.1 dX10_digest_158 ?_
        refine lv_aload_n F.1 F.2.1 dX10_digest_159 rfl (lv_at hl 1 rfl) ?_
        refine lv_iconst (v := 1) F.1 F.2.1 dX10_digest_160 (by decide) ?_
        obtain ⟨v24, σ23, hc22, h⟩ := bi_e h
        refine q_ci hB (q_goV F hE hB (k_X10_awayOf hI σ20 (1 : Int32) hc22) (ca_RX10_226 F.2.2.2.2 ⟨Nat.le_of_ble_eq_true rfl, Nat.le_of_ble_eq_true rfl⟩) rfl po_64 rfl hl.1 rfl (Nat.le_of_ble_eq_true rfl) dX10_digest_161 ⟨Nat.le_of_ble_eq_true rfl, Nat.le_of_ble_eq_true rfl⟩) (fun H locs hB => ?_)
        refine lv_i2l F.1 F.2.1 dX10_digest_164 rfl ?_
        refine lv_ladd F.1 F.2.1 dX10_digest_165 ?_
        exact q_lret F hlocks hr hB (so1 h) (so2 h) dX10_digest_166
      · replace h := ie_e c9 h
        refine lv_aload_n F.1 F.2.1 dX10_digest_88 rfl (lv_at hl 0 rfl) ?_
        refine lv_lload_n F.1 F.2.1 dX10_digest_89 rfl (lv_at hl 1 rfl) ?_
        refine lv_iload_n F.1 F.2.1 dX10_digest_90 rfl (lv_at hl 2 rfl) ?_
        obtain ⟨v27, σ26, hc25, h⟩ := bi_e h
        refine q_cl hB (q_goV F hE hB (k_X10_tellsBoat hI σ0 x1 x3 hc25) (ca_RX10_286 F.2.2.2.2 ⟨Nat.le_of_ble_eq_true rfl, Nat.le_of_ble_eq_true rfl⟩) rfl po_64 rfl hl.1 rfl (Nat.le_of_ble_eq_true rfl) dX10_digest_91 ⟨Nat.le_of_ble_eq_true rfl, Nat.le_of_ble_eq_true rfl⟩) (fun H locs hB => ?_)
        refine lv_lstore_n (lv' := [(1, .long v27), (0, .ref (ad 64)), (3, .int x3)]) F.1 F.2.1 dX10_digest_94 rfl hl (by decide) rfl (fun ls hl => ?_)
        refine lv_iinc (v := (x3 + (1 : Int32))) (lv' := [(3, .int (x3 + (1 : Int32))), (1, .long v27), (0, .ref (ad 64))]) F.1 F.2.1 dX10_digest_95 hl (k := 2) rfl rfl (by decide) rfl (fun ls hl => ?_)
        refine lv_goto (tgt := 80) F.1 F.2.1 dX10_digest_98 (by decide) ?_
        exact ih80 σ26 _ _ _ v27 (x3 + (1 : Int32)) h hB (lv_sub hl [2, 1, 0] rfl)
  have B57 : ∀ (n57 : Nat) (σ0 : Mem) (H : Heap) (locs : List Loc) (ls : Array Slot) (x1 : Int64) (x3 : Int32), f_X10_digest_b57 n57 σ0 x1 x3 = some o → Bd D cy ad σ0 s.heap H locs → lv_has ls 4 [(0, .ref (ad 64)), (1, .long x1), (3, .int x3)] → W p l e rm_X10_digest s m ([.ref (ad 64)] : List Value).toArray below meth c H locs 0 0 (MQ below (CQl D cy ad o.1 o.2) ([.ref (ad 64)] : List Value).toArray s 0 0 (AA ad)) (F0 m 57 ls []) := by
    intro n57
    induction n57 with
    | zero => intro σ0 H locs ls x1 x3 h hB hl; cases h
    | succ n57 ih57 =>
      intro σ0 H locs ls x1 x3 h hB hl
      rw [f_X10_digest_b57] at h
      refine lv_iload_n F.1 F.2.1 dX10_digest_57 rfl (lv_at hl 2 rfl) ?_
      refine lv_aload_n F.1 F.2.1 dX10_digest_58 rfl (lv_at hl 0 rfl) ?_
      refine gf_RX10_105 F hE hB po_64 rfl dX10_digest_59 ?_
      refine lv_icmp_ge (tgt := 78) F.1 F.2.1 dX10_digest_62 (by decide) (fun c8 => ?_) (fun c8 => ?_)
      · replace h := it_e c8 h
        refine lv_iconst (v := 0) F.1 F.2.1 dX10_digest_78 (by decide) ?_
        refine lv_istore_n (lv' := [(3, .int (0 : Int32)), (0, .ref (ad 64)), (1, .long x1)]) F.1 F.2.1 dX10_digest_79 rfl hl (by decide) rfl (fun ls hl => ?_)
        exact B80 300 σ0 _ _ _ x1 (0 : Int32) h hB (lv_sub hl [1, 2, 0] rfl)
      · replace h := ie_e c8 h
        refine lv_aload_n F.1 F.2.1 dX10_digest_65 rfl (lv_at hl 0 rfl) ?_
        refine lv_lload_n F.1 F.2.1 dX10_digest_66 rfl (lv_at hl 1 rfl) ?_
        refine lv_iload_n F.1 F.2.1 dX10_digest_67 rfl (lv_at hl 2 rfl) ?_
        obtain ⟨v30, σ29, hc28, h⟩ := bi_e h
        refine q_cl hB (q_goV F hE hB (k_X10_tellsBridge hI σ0 x1 x3 hc28) (ca_RX10_282 F.2.2.2.2 ⟨Nat.le_of_ble_eq_true rfl, Nat.le_of_ble_eq_true rfl⟩) rfl po_64 rfl hl.1 rfl (Nat.le_of_ble_eq_true rfl) dX10_digest_68 ⟨Nat.le_of_ble_eq_true rfl, Nat.le_of_ble_eq_true rfl⟩) (fun H locs hB => ?_)
        refine lv_lstore_n (lv' := [(1, .long v30), (0, .ref (ad 64)), (3, .int x3)]) F.1 F.2.1 dX10_digest_71 rfl hl (by decide) rfl (fun ls hl => ?_)
        refine lv_iinc (v := (x3 + (1 : Int32))) (lv' := [(3, .int (x3 + (1 : Int32))), (1, .long v30), (0, .ref (ad 64))]) F.1 F.2.1 dX10_digest_72 hl (k := 2) rfl rfl (by decide) rfl (fun ls hl => ?_)
        refine lv_goto (tgt := 57) F.1 F.2.1 dX10_digest_75 (by decide) ?_
        exact ih57 σ29 _ _ _ v30 (x3 + (1 : Int32)) h hB (lv_sub hl [2, 1, 0] rfl)
  have B6 : ∀ (n6 : Nat) (σ0 : Mem) (H : Heap) (locs : List Loc) (ls : Array Slot) (x1 : Int64) (x3 : Int32), f_X10_digest_b6 n6 σ0 x1 x3 = some o → Bd D cy ad σ0 s.heap H locs → lv_has ls 4 [(0, .ref (ad 64)), (1, .long x1), (3, .int x3)] → W p l e rm_X10_digest s m ([.ref (ad 64)] : List Value).toArray below meth c H locs 0 0 (MQ below (CQl D cy ad o.1 o.2) ([.ref (ad 64)] : List Value).toArray s 0 0 (AA ad)) (F0 m 6 ls []) := by
    intro n6
    induction n6 with
    | zero => intro σ0 H locs ls x1 x3 h hB hl; cases h
    | succ n6 ih6 =>
      intro σ0 H locs ls x1 x3 h hB hl
      rw [f_X10_digest_b6] at h
      refine lv_iload_n F.1 F.2.1 dX10_digest_6 rfl (lv_at hl 2 rfl) ?_
      refine lv_bipush (v := 8) F.1 F.2.1 dX10_digest_7 (by decide) ?_
      refine lv_icmp_ge (tgt := 31) F.1 F.2.1 dX10_digest_9 (by decide) (fun c1 => ?_) (fun c1 => ?_)
      · replace h := it_e c1 h
        refine lv_ldc2 (v := 31) F.1 F.2.1 F.2.2.2.1 (F.2.2.2.2 _ wm_k_RX10_275) dX10_digest_31 ?_
        refine lv_lload_n F.1 F.2.1 dX10_digest_34 rfl (lv_at hl 1 rfl) ?_
        refine lv_lmul F.1 F.2.1 dX10_digest_35 ?_
        refine lv_aload_n F.1 F.2.1 dX10_digest_36 rfl (lv_at hl 0 rfl) ?_
        obtain ⟨v4, σ3, hc2, h⟩ := bi_e h
        refine q_ci hB (q_goV F hE hB (k_X10_readsBridges hI σ0 hc2) (ca_RX10_120 F.2.2.2.2 ⟨Nat.le_of_ble_eq_true rfl, Nat.le_of_ble_eq_true rfl⟩) rfl po_64 rfl hl.1 rfl (Nat.le_of_ble_eq_true rfl) dX10_digest_37 ⟨Nat.le_of_ble_eq_true rfl, Nat.le_of_ble_eq_true rfl⟩) (fun H locs hB => ?_)
        refine lv_i2l F.1 F.2.1 dX10_digest_40 rfl ?_
        refine lv_ladd F.1 F.2.1 dX10_digest_41 ?_
        refine lv_lstore_n (lv' := [(1, .long (((31 : Int64) * x1) + v4.toInt64)), (0, .ref (ad 64)), (3, .int x3)]) F.1 F.2.1 dX10_digest_42 rfl hl (by decide) rfl (fun ls hl => ?_)
        refine lv_ldc2 (v := 31) F.1 F.2.1 F.2.2.2.1 (F.2.2.2.2 _ wm_k_RX10_275) dX10_digest_43 ?_
        refine lv_lload_n F.1 F.2.1 dX10_digest_46 rfl (lv_at hl 0 rfl) ?_
        refine lv_lmul F.1 F.2.1 dX10_digest_47 ?_
        refine lv_aload_n F.1 F.2.1 dX10_digest_48 rfl (lv_at hl 1 rfl) ?_
        obtain ⟨v7, σ6, hc5, h⟩ := bi_e h
        refine q_ci hB (q_goV F hE hB (k_X10_readsBoats hI σ3 hc5) (ca_RX10_124 F.2.2.2.2 ⟨Nat.le_of_ble_eq_true rfl, Nat.le_of_ble_eq_true rfl⟩) rfl po_64 rfl hl.1 rfl (Nat.le_of_ble_eq_true rfl) dX10_digest_49 ⟨Nat.le_of_ble_eq_true rfl, Nat.le_of_ble_eq_true rfl⟩) (fun H locs hB => ?_)
        refine lv_i2l F.1 F.2.1 dX10_digest_52 rfl ?_
        refine lv_ladd F.1 F.2.1 dX10_digest_53 ?_
        refine lv_lstore_n (lv' := [(1, .long (((31 : Int64) * (((31 : Int64) * x1) + v4.toInt64)) + v7.toInt64)), (0, .ref (ad 64)), (3, .int x3)]) F.1 F.2.1 dX10_digest_54 rfl hl (by decide) rfl (fun ls hl => ?_)
        refine lv_iconst (v := 0) F.1 F.2.1 dX10_digest_55 (by decide) ?_
        refine lv_istore_n (lv' := [(3, .int (0 : Int32)), (1, .long (((31 : Int64) * (((31 : Int64) * x1) + v4.toInt64)) + v7.toInt64)), (0, .ref (ad 64))]) F.1 F.2.1 dX10_digest_56 rfl hl (by decide) rfl (fun ls hl => ?_)
        exact B57 300 σ6 _ _ _ (((31 : Int64) * (((31 : Int64) * x1) + v4.toInt64)) + v7.toInt64) (0 : Int32) h hB (lv_sub hl [2, 1, 0] rfl)
      · replace h := ie_e c1 h
        refine lv_ldc2 (v := 31) F.1 F.2.1 F.2.2.2.1 (F.2.2.2.2 _ wm_k_RX10_275) dX10_digest_12 ?_
        refine lv_lload_n F.1 F.2.1 dX10_digest_15 rfl (lv_at hl 1 rfl) ?_
        refine lv_lmul F.1 F.2.1 dX10_digest_16 ?_
        refine lv_aload_n F.1 F.2.1 dX10_digest_17 rfl (lv_at hl 0 rfl) ?_
        refine lv_iload_n F.1 F.2.1 dX10_digest_18 rfl (lv_at hl 2 rfl) ?_
        obtain ⟨v33, σ32, hc31, h⟩ := bi_e h
        refine q_ci hB (q_goV F hE hB (k_X10_count hI σ0 x3 hc31) (ca_RX10_279 F.2.2.2.2 ⟨Nat.le_of_ble_eq_true rfl, Nat.le_of_ble_eq_true rfl⟩) rfl po_64 rfl hl.1 rfl (Nat.le_of_ble_eq_true rfl) dX10_digest_19 ⟨Nat.le_of_ble_eq_true rfl, Nat.le_of_ble_eq_true rfl⟩) (fun H locs hB => ?_)
        refine lv_i2l F.1 F.2.1 dX10_digest_22 rfl ?_
        refine lv_ladd F.1 F.2.1 dX10_digest_23 ?_
        refine lv_lstore_n (lv' := [(1, .long (((31 : Int64) * x1) + v33.toInt64)), (0, .ref (ad 64)), (3, .int x3)]) F.1 F.2.1 dX10_digest_24 rfl hl (by decide) rfl (fun ls hl => ?_)
        refine lv_iinc (v := (x3 + (1 : Int32))) (lv' := [(3, .int (x3 + (1 : Int32))), (1, .long (((31 : Int64) * x1) + v33.toInt64)), (0, .ref (ad 64))]) F.1 F.2.1 dX10_digest_25 hl (k := 2) rfl rfl (by decide) rfl (fun ls hl => ?_)
        refine lv_goto (tgt := 6) F.1 F.2.1 dX10_digest_28 (by decide) ?_
        exact ih6 σ32 _ _ _ (((31 : Int64) * x1) + v33.toInt64) (x3 + (1 : Int32)) h hB (lv_sub hl [2, 1, 0] rfl)
  unfold f_X10_digest at h
  refine lv_ldc2 (v := 17) F.1 F.2.1 F.2.2.2.1 (F.2.2.2.2 _ wm_k_RX10_277) dX10_digest_0 ?_
  refine lv_lstore_n (lv' := [(1, .long (17 : Int64)), (0, .ref (ad 64))]) F.1 F.2.1 dX10_digest_3 rfl hl (by decide) rfl (fun ls hl => ?_)
  refine lv_iconst (v := 0) F.1 F.2.1 dX10_digest_4 (by decide) ?_
  refine lv_istore_n (lv' := [(3, .int (0 : Int32)), (1, .long (17 : Int64)), (0, .ref (ad 64))]) F.1 F.2.1 dX10_digest_5 rfl hl (by decide) rfl (fun ls hl => ?_)
  exact B6 300 σ0 _ _ _ (17 : Int64) (0 : Int32) h hB (lv_sub hl [2, 1, 0] rfl)
