def f_X10_awayOf_b109 (k10 : Mem → Int32 → Int32 → Int32 → Int32 → Int32 → Option (Int32 × Mem)) (σ0 : Mem) (x1 : Int32) (x2 : Int32) (x4 : Int32) (x5 : Int32) (y0 : Int32) : Option (Int32 × Mem) := (k10 σ0 x1 x2 y0 x4 (x5 + (1 : Int32)))
def f_X10_awayOf_b96 (k10 : Mem → Int32 → Int32 → Int32 → Int32 → Int32 → Option (Int32 × Mem)) (σ0 : Mem) (x1 : Int32) (x2 : Int32) (x3 : Int32) (x5 : Int32) (x6 : Int32) (x8 : Int32) (y0 : Int32) : Option (Int32 × Mem) := (if x8 = (0 : Int32) then (f_X10_awayOf_b109 k10 σ0 x1 x2 y0 x5 x3) else (f_X10_awayOf_b109 k10 σ0 x1 x2 y0 x5 x6))
def f_X10_awayOf_b83 (k10 : Mem → Int32 → Int32 → Int32 → Int32 → Int32 → Option (Int32 × Mem)) (σ0 : Mem) (x1 : Int32) (x3 : Int32) (x4 : Int32) (x5 : Int32) (x6 : Int32) (x7 : Int32) (x8 : Int32) (y0 : Int32) : Option (Int32 × Mem) := (if x8 = (0 : Int32) then (f_X10_awayOf_b96 k10 σ0 x1 y0 x3 x5 x6 x8 x4) else (f_X10_awayOf_b96 k10 σ0 x1 y0 x3 x5 x6 x8 x7))
def f_X10_awayOf_b70 (k10 : Mem → Int32 → Int32 → Int32 → Int32 → Int32 → Option (Int32 × Mem)) (σ0 : Mem) (x1 : Int32) (x2 : Int32) (x3 : Int32) (x4 : Int32) (x5 : Int32) (x6 : Int32) (x7 : Int32) (y0 : Int32) : Option (Int32 × Mem) := (if y0 = (0 : Int32) then (f_X10_awayOf_b83 k10 σ0 x1 x3 x4 x5 x6 x7 y0 x2) else (f_X10_awayOf_b83 k10 σ0 x1 x3 x4 x5 x6 x7 y0 x5))
def f_X10_awayOf_b65 (k10 : Mem → Int32 → Int32 → Int32 → Int32 → Int32 → Option (Int32 × Mem)) (σ0 : Mem) (x1 : Int32) (x2 : Int32) (x3 : Int32) (x4 : Int32) (x5 : Int32) (x6 : Int32) (x7 : Int32) : Option (Int32 × Mem) := (f_X10_awayOf_b70 k10 σ0 x1 x2 x3 x4 x5 x6 x7 (1 : Int32))
def f_X10_awayOf_b69 (k10 : Mem → Int32 → Int32 → Int32 → Int32 → Int32 → Option (Int32 × Mem)) (σ0 : Mem) (x1 : Int32) (x2 : Int32) (x3 : Int32) (x4 : Int32) (x5 : Int32) (x6 : Int32) (x7 : Int32) : Option (Int32 × Mem) := (f_X10_awayOf_b70 k10 σ0 x1 x2 x3 x4 x5 x6 x7 (0 : Int32))
def f_X10_awayOf_b10 : Nat → Mem → Int32 → Int32 → Int32 → Int32 → Int32 → Option (Int32 × Mem)
  | 0, _, _, _, _, _, _ => none
  | n10 + 1, σ0, x1, x2, x3, x4, x5 => (if (σ0.1 64 7) ≤ x5 then (lt (ms σ0 64 14 (-1 : Int32)) (fun σ2 => (if x1 = (0 : Int32) then (some (x2, σ2)) else (some (x3, σ2))))) else (lt (ms σ0 64 14 x5) (fun σ5 => (bv (f_X10_lives σ5 (99 : Int32)) (fun σ8 => (bp (f_X10_throughNow σ8) (fun v10 => (bp (f_X10_ones σ8 v10) (fun v12 => (bp (f_X10_allWait σ8) (fun v14 => (if x3 < v12 then (f_X10_awayOf_b65 (f_X10_awayOf_b10 n10) σ8 x1 x2 x3 x4 x5 v12 v14) else (if v12 = x3 then (if x4 ≤ v14 then (f_X10_awayOf_b69 (f_X10_awayOf_b10 n10) σ8 x1 x2 x3 x4 x5 v12 v14) else (f_X10_awayOf_b65 (f_X10_awayOf_b10 n10) σ8 x1 x2 x3 x4 x5 v12 v14)) else (f_X10_awayOf_b69 (f_X10_awayOf_b10 n10) σ8 x1 x2 x3 x4 x5 v12 v14))))))))))))))
def f_X10_awayOf (σ0 : Mem) (a1 : Int32) : Option (Int32 × Mem) := (f_X10_awayOf_b10 300 σ0 a1 (-1 : Int32) (-1 : Int32) (0 : Int32) (0 : Int32))
set_option maxHeartbeats 4000000 in
set_option maxRecDepth 100000 in
theorem k_X10_awayOf {l : Launch} {D : va_G} {cy : Nat → ClassId} {ad : Nat → Nat} {ta tb : Nat} (hI : AdI ad) (σ0 : Mem) (a1 : Int32) {o : Int32 × Mem} (h : f_X10_awayOf σ0 a1 = some o) : Met l yX10_awayOf (Cond.code yX10_awayOf cX10_awayOf 9 (some .int) :: wG) rm_X10_awayOf (CP D cy ad ta tb σ0 [.ref (ad 64), .int a1]) (CQi D cy ad o.1 o.2) 0 0 (AA ad) := by
  refine Met.ofW (cc := cX10_awayOf) (maxL := 9) (ret := (some .int)) (by decide) rfl ?_
  intro p e s m args below meth c s₁ B hml hv
  obtain ⟨rfl, hE, hP⟩ := hv
  have hts := atoms_spec (ws := Cond.code yX10_awayOf cX10_awayOf 9 (some .int) :: wG) B.pre
  have F : CallFix p m c cX10_awayOf 9 s _ wG RX10 := ⟨B.exec, B.bytes, hml, findClass_of_methodNamed B.named, fun w hw => hts w (List.mem_cons_of_mem _ hw)⟩
  have hr := B.returns
  have hlocks := B.notSynchronized
  have hB : Bd D cy ad σ0 s.heap s.heap [] := ⟨hP, va_S.rf⟩
  have hl := lv_entry ([.ref (ad 64), .int a1] : List Value) (n := 9) (Nat.le_of_ble_eq_true rfl)
  rw [lg_entry_eq]
  generalize (lg_sl ([.ref (ad 64), .int a1] : List Value) ++ List.replicate (9 - (lg_sl ([.ref (ad 64), .int a1] : List Value)).length) Slot.unset).toArray = ls at hl ⊢
  have hl : lv_has ls 9 [(0, .ref (ad 64)), (1, .int a1)] := hl
  have B10 : ∀ (n10 : Nat) (σ0 : Mem) (H : Heap) (locs : List Loc) (ls : Array Slot) (x1 : Int32) (x2 : Int32) (x3 : Int32) (x4 : Int32) (x5 : Int32), f_X10_awayOf_b10 n10 σ0 x1 x2 x3 x4 x5 = some o → Bd D cy ad σ0 s.heap H locs → lv_has ls 9 [(0, .ref (ad 64)), (1, .int x1), (2, .int x2), (3, .int x3), (4, .int x4), (5, .int x5)] → W p l e rm_X10_awayOf s m ([.ref (ad 64), .int a1] : List Value).toArray below meth c H locs 0 0 (MQ below (CQi D cy ad o.1 o.2) ([.ref (ad 64), .int a1] : List Value).toArray s 0 0 (AA ad)) (F0 m 10 ls []) := by
    intro n10
    induction n10 with
    | zero => intro σ0 H locs ls x1 x2 x3 x4 x5 h hB hl; cases h
    | succ n10 ih10 =>
      have B109 : ∀ (σ0 : Mem) (H : Heap) (locs : List Loc) (ls : Array Slot) (x1 : Int32) (x2 : Int32) (x4 : Int32) (x5 : Int32) (y0 : Int32), f_X10_awayOf_b109 (f_X10_awayOf_b10 n10) σ0 x1 x2 x4 x5 y0 = some o → Bd D cy ad σ0 s.heap H locs → lv_has ls 9 [(0, .ref (ad 64)), (1, .int x1), (2, .int x2), (4, .int x4), (5, .int x5)] → W p l e rm_X10_awayOf s m ([.ref (ad 64), .int a1] : List Value).toArray below meth c H locs 0 0 (MQ below (CQi D cy ad o.1 o.2) ([.ref (ad 64), .int a1] : List Value).toArray s 0 0 (AA ad)) (F0 m 109 ls [.int y0]) := by
        intro σ0 H locs ls x1 x2 x4 x5 y0 h hB hl
        unfold f_X10_awayOf_b109 at h
        refine lv_istore_n (lv' := [(3, .int y0), (0, .ref (ad 64)), (1, .int x1), (2, .int x2), (4, .int x4), (5, .int x5)]) F.1 F.2.1 dX10_awayOf_109 rfl hl (by decide) rfl (fun ls hl => ?_)
        refine lv_iinc (v := (x5 + (1 : Int32))) (lv' := [(5, .int (x5 + (1 : Int32))), (3, .int y0), (0, .ref (ad 64)), (1, .int x1), (2, .int x2), (4, .int x4)]) F.1 F.2.1 dX10_awayOf_110 hl (k := 5) rfl rfl (by decide) rfl (fun ls hl => ?_)
        refine lv_goto (tgt := 10) F.1 F.2.1 dX10_awayOf_113 (by decide) ?_
        exact ih10 σ0 _ _ _ x1 x2 y0 x4 (x5 + (1 : Int32)) h hB (lv_sub hl [2, 3, 4, 1, 5, 0] rfl)
      have B96 : ∀ (σ0 : Mem) (H : Heap) (locs : List Loc) (ls : Array Slot) (x1 : Int32) (x2 : Int32) (x3 : Int32) (x5 : Int32) (x6 : Int32) (x8 : Int32) (y0 : Int32), f_X10_awayOf_b96 (f_X10_awayOf_b10 n10) σ0 x1 x2 x3 x5 x6 x8 y0 = some o → Bd D cy ad σ0 s.heap H locs → lv_has ls 9 [(0, .ref (ad 64)), (1, .int x1), (2, .int x2), (3, .int x3), (5, .int x5), (6, .int x6), (8, .int x8)] → W p l e rm_X10_awayOf s m ([.ref (ad 64), .int a1] : List Value).toArray below meth c H locs 0 0 (MQ below (CQi D cy ad o.1 o.2) ([.ref (ad 64), .int a1] : List Value).toArray s 0 0 (AA ad)) (F0 m 96 ls [.int y0]) := by
        intro σ0 H locs ls x1 x2 x3 x5 x6 x8 y0 h hB hl
        unfold f_X10_awayOf_b96 at h
        refine lv_istore (lv' := [(4, .int y0), (0, .ref (ad 64)), (1, .int x1), (2, .int x2), (3, .int x3), (5, .int x5), (6, .int x6), (8, .int x8)]) F.1 F.2.1 dX10_awayOf_96 hl (by decide) rfl (fun ls hl => ?_)
        refine lv_iload F.1 F.2.1 dX10_awayOf_98 (lv_at hl 7 rfl) ?_
        refine lv_if_eq (tgt := 108) F.1 F.2.1 dX10_awayOf_100 (by decide) (fun c18 => ?_) (fun c18 => ?_)
        · replace h := it_e c18 h
          refine lv_iload_n F.1 F.2.1 dX10_awayOf_108 rfl (lv_at hl 4 rfl) ?_
          exact B109 σ0 _ _ _ x1 x2 y0 x5 x3 h hB (lv_sub hl [1, 2, 3, 0, 5] rfl)
        · replace h := ie_e c18 h
          refine lv_iload F.1 F.2.1 dX10_awayOf_103 (lv_at hl 6 rfl) ?_
          refine lv_goto (tgt := 109) F.1 F.2.1 dX10_awayOf_105 (by decide) ?_
          exact B109 σ0 _ _ _ x1 x2 y0 x5 x6 h hB (lv_sub hl [1, 2, 3, 0, 5] rfl)
      have B83 : ∀ (σ0 : Mem) (H : Heap) (locs : List Loc) (ls : Array Slot) (x1 : Int32) (x3 : Int32) (x4 : Int32) (x5 : Int32) (x6 : Int32) (x7 : Int32) (x8 : Int32) (y0 : Int32), f_X10_awayOf_b83 (f_X10_awayOf_b10 n10) σ0 x1 x3 x4 x5 x6 x7 x8 y0 = some o → Bd D cy ad σ0 s.heap H locs → lv_has ls 9 [(0, .ref (ad 64)), (1, .int x1), (3, .int x3), (4, .int x4), (5, .int x5), (6, .int x6), (7, .int x7), (8, .int x8)] → W p l e rm_X10_awayOf s m ([.ref (ad 64), .int a1] : List Value).toArray below meth c H locs 0 0 (MQ below (CQi D cy ad o.1 o.2) ([.ref (ad 64), .int a1] : List Value).toArray s 0 0 (AA ad)) (F0 m 83 ls [.int y0]) := by
        intro σ0 H locs ls x1 x3 x4 x5 x6 x7 x8 y0 h hB hl
        unfold f_X10_awayOf_b83 at h
        refine lv_istore_n (lv' := [(2, .int y0), (0, .ref (ad 64)), (1, .int x1), (3, .int x3), (4, .int x4), (5, .int x5), (6, .int x6), (7, .int x7), (8, .int x8)]) F.1 F.2.1 dX10_awayOf_83 rfl hl (by decide) rfl (fun ls hl => ?_)
        refine lv_iload F.1 F.2.1 dX10_awayOf_84 (lv_at hl 8 rfl) ?_
        refine lv_if_eq (tgt := 94) F.1 F.2.1 dX10_awayOf_86 (by decide) (fun c17 => ?_) (fun c17 => ?_)
        · replace h := it_e c17 h
          refine lv_iload F.1 F.2.1 dX10_awayOf_94 (lv_at hl 4 rfl) ?_
          exact B96 σ0 _ _ _ x1 y0 x3 x5 x6 x8 x4 h hB (lv_sub hl [1, 2, 0, 3, 5, 6, 8] rfl)
        · replace h := ie_e c17 h
          refine lv_iload F.1 F.2.1 dX10_awayOf_89 (lv_at hl 7 rfl) ?_
          refine lv_goto (tgt := 96) F.1 F.2.1 dX10_awayOf_91 (by decide) ?_
          exact B96 σ0 _ _ _ x1 y0 x3 x5 x6 x8 x7 h hB (lv_sub hl [1, 2, 0, 3, 5, 6, 8] rfl)
      have B70 : ∀ (σ0 : Mem) (H : Heap) (locs : List Loc) (ls : Array Slot) (x1 : Int32) (x2 : Int32) (x3 : Int32) (x4 : Int32) (x5 : Int32) (x6 : Int32) (x7 : Int32) (y0 : Int32), f_X10_awayOf_b70 (f_X10_awayOf_b10 n10) σ0 x1 x2 x3 x4 x5 x6 x7 y0 = some o → Bd D cy ad σ0 s.heap H locs → lv_has ls 9 [(0, .ref (ad 64)), (1, .int x1), (2, .int x2), (3, .int x3), (4, .int x4), (5, .int x5), (6, .int x6), (7, .int x7)] → W p l e rm_X10_awayOf s m ([.ref (ad 64), .int a1] : List Value).toArray below meth c H locs 0 0 (MQ below (CQi D cy ad o.1 o.2) ([.ref (ad 64), .int a1] : List Value).toArray s 0 0 (AA ad)) (F0 m 70 ls [.int y0]) := by
        intro σ0 H locs ls x1 x2 x3 x4 x5 x6 x7 y0 h hB hl
        unfold f_X10_awayOf_b70 at h
        refine lv_istore (lv' := [(8, .int y0), (0, .ref (ad 64)), (1, .int x1), (2, .int x2), (3, .int x3), (4, .int x4), (5, .int x5), (6, .int x6), (7, .int x7)]) F.1 F.2.1 dX10_awayOf_70 hl (by decide) rfl (fun ls hl => ?_)
        refine lv_iload F.1 F.2.1 dX10_awayOf_72 (lv_at hl 0 rfl) ?_
        refine lv_if_eq (tgt := 82) F.1 F.2.1 dX10_awayOf_74 (by decide) (fun c16 => ?_) (fun c16 => ?_)
        · replace h := it_e c16 h
          refine lv_iload_n F.1 F.2.1 dX10_awayOf_82 rfl (lv_at hl 3 rfl) ?_
          exact B83 σ0 _ _ _ x1 x3 x4 x5 x6 x7 y0 x2 h hB (lv_sub hl [1, 2, 4, 5, 6, 7, 8, 0] rfl)
        · replace h := ie_e c16 h
          refine lv_iload F.1 F.2.1 dX10_awayOf_77 (lv_at hl 6 rfl) ?_
          refine lv_goto (tgt := 83) F.1 F.2.1 dX10_awayOf_79 (by decide) ?_
          exact B83 σ0 _ _ _ x1 x3 x4 x5 x6 x7 y0 x5 h hB (lv_sub hl [1, 2, 4, 5, 6, 7, 8, 0] rfl)
      have B65 : ∀ (σ0 : Mem) (H : Heap) (locs : List Loc) (ls : Array Slot) (x1 : Int32) (x2 : Int32) (x3 : Int32) (x4 : Int32) (x5 : Int32) (x6 : Int32) (x7 : Int32), f_X10_awayOf_b65 (f_X10_awayOf_b10 n10) σ0 x1 x2 x3 x4 x5 x6 x7 = some o → Bd D cy ad σ0 s.heap H locs → lv_has ls 9 [(0, .ref (ad 64)), (1, .int x1), (2, .int x2), (3, .int x3), (4, .int x4), (5, .int x5), (6, .int x6), (7, .int x7)] → W p l e rm_X10_awayOf s m ([.ref (ad 64), .int a1] : List Value).toArray below meth c H locs 0 0 (MQ below (CQi D cy ad o.1 o.2) ([.ref (ad 64), .int a1] : List Value).toArray s 0 0 (AA ad)) (F0 m 65 ls []) := by
        intro σ0 H locs ls x1 x2 x3 x4 x5 x6 x7 h hB hl
        unfold f_X10_awayOf_b65 at h
        refine lv_iconst (v := 1) F.1 F.2.1 dX10_awayOf_65 (by decide) ?_
        refine lv_goto (tgt := 70) F.1 F.2.1 dX10_awayOf_66 (by decide) ?_
        exact B70 σ0 _ _ _ x1 x2 x3 x4 x5 x6 x7 (1 : Int32) h hB (lv_sub hl [0, 1, 2, 3, 4, 5, 6, 7] rfl)
      have B69 : ∀ (σ0 : Mem) (H : Heap) (locs : List Loc) (ls : Array Slot) (x1 : Int32) (x2 : Int32) (x3 : Int32) (x4 : Int32) (x5 : Int32) (x6 : Int32) (x7 : Int32), f_X10_awayOf_b69 (f_X10_awayOf_b10 n10) σ0 x1 x2 x3 x4 x5 x6 x7 = some o → Bd D cy ad σ0 s.heap H locs → lv_has ls 9 [(0, .ref (ad 64)), (1, .int x1), (2, .int x2), (3, .int x3), (4, .int x4), (5, .int x5), (6, .int x6), (7, .int x7)] → W p l e rm_X10_awayOf s m ([.ref (ad 64), .int a1] : List Value).toArray below meth c H locs 0 0 (MQ below (CQi D cy ad o.1 o.2) ([.ref (ad 64), .int a1] : List Value).toArray s 0 0 (AA ad)) (F0 m 69 ls []) := by
        intro σ0 H locs ls x1 x2 x3 x4 x5 x6 x7 h hB hl
        unfold f_X10_awayOf_b69 at h
        refine lv_iconst (v := 0) F.1 F.2.1 dX10_awayOf_69 (by decide) ?_
        exact B70 σ0 _ _ _ x1 x2 x3 x4 x5 x6 x7 (0 : Int32) h hB (lv_sub hl [0, 1, 2, 3, 4, 5, 6, 7] rfl)
      intro σ0 H locs ls x1 x2 x3 x4 x5 h hB hl
      rw [f_X10_awayOf_b10] at h
      refine lv_iload F.1 F.2.1 dX10_awayOf_10 (lv_at hl 5 rfl) ?_
      refine lv_aload_n F.1 F.2.1 dX10_awayOf_12 rfl (lv_at hl 0 rfl) ?_
      refine gf_RX10_105 F hE hB po_64 rfl dX10_awayOf_13 ?_
      refine lv_icmp_ge (tgt := 116) F.1 F.2.1 dX10_awayOf_16 (by decide) (fun c1 => ?_) (fun c1 => ?_)
      · replace h := it_e c1 h
        refine lv_aload_n F.1 F.2.1 dX10_awayOf_116 rfl (lv_at hl 0 rfl) ?_
        refine lv_iconst (v := (-1)) F.1 F.2.1 dX10_awayOf_117 (by decide) ?_
        obtain ⟨σ2, e3, h⟩ := lt_e h
        refine pf_RX10_55 F hE hI hB po_64 rfl rfl (Nat.le_of_ble_eq_true rfl) rfl dX10_awayOf_118 e3 (fun H locs hB => ?_)
        refine lv_iload_n F.1 F.2.1 dX10_awayOf_121 rfl (lv_at hl 1 rfl) ?_
        refine lv_if_ne (tgt := 129) F.1 F.2.1 dX10_awayOf_122 (by decide) (fun c4 => ?_) (fun c4 => ?_)
        · replace h := ie_e c4 h
          refine lv_iload_n F.1 F.2.1 dX10_awayOf_129 rfl (lv_at hl 3 rfl) ?_
          exact q_iret F hlocks hr hB (so1 h) (so2 h) dX10_awayOf_130
        · replace h := it_e c4 h
          refine lv_iload_n F.1 F.2.1 dX10_awayOf_125 rfl (lv_at hl 2 rfl) ?_
          refine lv_goto (tgt := 130) F.1 F.2.1 dX10_awayOf_126 (by decide) ?_
          exact q_iret F hlocks hr hB (so1 h) (so2 h) dX10_awayOf_130
      · replace h := ie_e c1 h
        refine lv_aload_n F.1 F.2.1 dX10_awayOf_19 rfl (lv_at hl 0 rfl) ?_
        refine lv_iload F.1 F.2.1 dX10_awayOf_20 (lv_at hl 5 rfl) ?_
        obtain ⟨σ5, e6, h⟩ := lt_e h
        refine pf_RX10_55 F hE hI hB po_64 rfl rfl (Nat.le_of_ble_eq_true rfl) rfl dX10_awayOf_22 e6 (fun H locs hB => ?_)
        refine lv_aload_n F.1 F.2.1 dX10_awayOf_25 rfl (lv_at hl 0 rfl) ?_
        refine lv_bipush (v := 99) F.1 F.2.1 dX10_awayOf_26 (by decide) ?_
        obtain ⟨σ8, hc7, h⟩ := bv_e h
        refine q_cv hB (q_goV F hE hB (k_X10_lives hI σ5 (99 : Int32) hc7) (ca_RX10_185 F.2.2.2.2 ⟨Nat.le_of_ble_eq_true rfl, Nat.le_of_ble_eq_true rfl⟩) rfl po_64 rfl hl.1 rfl (Nat.le_of_ble_eq_true rfl) dX10_awayOf_28 ⟨Nat.le_of_ble_eq_true rfl, Nat.le_of_ble_eq_true rfl⟩) (fun H locs hB => ?_)
        refine lv_aload_n F.1 F.2.1 dX10_awayOf_31 rfl (lv_at hl 0 rfl) ?_
        obtain ⟨v10, hc9, h⟩ := bp_e h
        refine q_ci hB (q_goV F hE hB (k_X10_throughNow hI σ8 hc9) (ca_RX10_200 F.2.2.2.2 ⟨Nat.le_of_ble_eq_true rfl, Nat.le_of_ble_eq_true rfl⟩) rfl po_64 rfl hl.1 rfl (Nat.le_of_ble_eq_true rfl) dX10_awayOf_32 ⟨Nat.le_of_ble_eq_true rfl, Nat.le_of_ble_eq_true rfl⟩) (fun H locs hB => ?_)
        obtain ⟨v12, hc11, h⟩ := bp_e h
        refine q_ci hB (q_goS F hE hB (k_X10_ones hI σ8 v10 hc11) (ca_RX10_223 F.2.2.2.2 ⟨Nat.le_of_ble_eq_true rfl, Nat.le_of_ble_eq_true rfl⟩) rfl hl.1 rfl (Nat.le_of_ble_eq_true rfl) dX10_awayOf_35 ⟨Nat.le_of_ble_eq_true rfl, Nat.le_of_ble_eq_true rfl⟩) (fun H locs hB => ?_)
        refine lv_istore (lv' := [(6, .int v12), (0, .ref (ad 64)), (1, .int x1), (2, .int x2), (3, .int x3), (4, .int x4), (5, .int x5)]) F.1 F.2.1 dX10_awayOf_38 hl (by decide) rfl (fun ls hl => ?_)
        refine lv_aload_n F.1 F.2.1 dX10_awayOf_40 rfl (lv_at hl 1 rfl) ?_
        obtain ⟨v14, hc13, h⟩ := bp_e h
        refine q_ci hB (q_goV F hE hB (k_X10_allWait hI σ8 hc13) (ca_RX10_217 F.2.2.2.2 ⟨Nat.le_of_ble_eq_true rfl, Nat.le_of_ble_eq_true rfl⟩) rfl po_64 rfl hl.1 rfl (Nat.le_of_ble_eq_true rfl) dX10_awayOf_41 ⟨Nat.le_of_ble_eq_true rfl, Nat.le_of_ble_eq_true rfl⟩) (fun H locs hB => ?_)
        refine lv_istore (lv' := [(7, .int v14), (6, .int v12), (0, .ref (ad 64)), (1, .int x1), (2, .int x2), (3, .int x3), (4, .int x4), (5, .int x5)]) F.1 F.2.1 dX10_awayOf_44 hl (by decide) rfl (fun ls hl => ?_)
        refine lv_iload F.1 F.2.1 dX10_awayOf_46 (lv_at hl 1 rfl) ?_
        refine lv_iload_n F.1 F.2.1 dX10_awayOf_48 rfl (lv_at hl 5 rfl) ?_
        refine lv_icmp_gt (tgt := 65) F.1 F.2.1 dX10_awayOf_49 (by decide) (fun c15 => ?_) (fun c15 => ?_)
        · replace h := it_e c15 h
          exact B65 σ8 _ _ _ x1 x2 x3 x4 x5 v12 v14 h hB (lv_sub hl [2, 3, 4, 5, 6, 7, 1, 0] rfl)
        · replace h := ie_e c15 h
          refine lv_iload F.1 F.2.1 dX10_awayOf_52 (lv_at hl 1 rfl) ?_
          refine lv_iload_n F.1 F.2.1 dX10_awayOf_54 rfl (lv_at hl 5 rfl) ?_
          refine lv_icmp_ne (tgt := 69) F.1 F.2.1 dX10_awayOf_55 (by decide) (fun c19 => ?_) (fun c19 => ?_)
          · replace h := ie_e c19 h
            exact B69 σ8 _ _ _ x1 x2 x3 x4 x5 v12 v14 h hB (lv_sub hl [2, 3, 4, 5, 6, 7, 1, 0] rfl)
          · replace h := it_e c19 h
            refine lv_iload F.1 F.2.1 dX10_awayOf_58 (lv_at hl 0 rfl) ?_
            refine lv_iload F.1 F.2.1 dX10_awayOf_60 (lv_at hl 6 rfl) ?_
            refine lv_icmp_ge (tgt := 69) F.1 F.2.1 dX10_awayOf_62 (by decide) (fun c20 => ?_) (fun c20 => ?_)
            · replace h := it_e c20 h
              exact B69 σ8 _ _ _ x1 x2 x3 x4 x5 v12 v14 h hB (lv_sub hl [2, 3, 4, 5, 6, 7, 1, 0] rfl)
            · replace h := ie_e c20 h
              exact B65 σ8 _ _ _ x1 x2 x3 x4 x5 v12 v14 h hB (lv_sub hl [2, 3, 4, 5, 6, 7, 1, 0] rfl)
  unfold f_X10_awayOf at h
  refine lv_iconst (v := (-1)) F.1 F.2.1 dX10_awayOf_0 (by decide) ?_
  refine lv_istore_n (lv' := [(2, .int (-1 : Int32)), (0, .ref (ad 64)), (1, .int a1)]) F.1 F.2.1 dX10_awayOf_1 rfl hl (by decide) rfl (fun ls hl => ?_)
  refine lv_iconst (v := (-1)) F.1 F.2.1 dX10_awayOf_2 (by decide) ?_
  refine lv_istore_n (lv' := [(3, .int (-1 : Int32)), (2, .int (-1 : Int32)), (0, .ref (ad 64)), (1, .int a1)]) F.1 F.2.1 dX10_awayOf_3 rfl hl (by decide) rfl (fun ls hl => ?_)
  refine lv_iconst (v := 0) F.1 F.2.1 dX10_awayOf_4 (by decide) ?_
  refine lv_istore (lv' := [(4, .int (0 : Int32)), (3, .int (-1 : Int32)), (2, .int (-1 : Int32)), (0, .ref (ad 64)), (1, .int a1)]) F.1 F.2.1 dX10_awayOf_5 hl (by decide) rfl (fun ls hl => ?_)
  refine lv_iconst (v := 0) F.1 F.2.1 dX10_awayOf_7 (by decide) ?_
  refine lv_istore (lv' := [(5, .int (0 : Int32)), (4, .int (0 : Int32)), (3, .int (-1 : Int32)), (2, .int (-1 : Int32)), (0, .ref (ad 64)), (1, .int a1)]) F.1 F.2.1 dX10_awayOf_8 hl (by decide) rfl (fun ls hl => ?_)
  exact B10 300 σ0 _ _ _ a1 (-1 : Int32) (-1 : Int32) (0 : Int32) (0 : Int32) h hB (lv_sub hl [4, 5, 3, 2, 1, 0] rfl)
def f_X10_away (σ0 : Mem) (a1 : Int32) : Option (Int32 × Mem) := (bv (f_X10_find σ0) (fun σ2 => (bp (f_X10_isTwo σ2 a1) (fun v4 => (if v4 = (0 : Int32) then (some ((-2 : Int32), σ2)) else (bi (f_X10_awayOf σ2 a1) (fun v8 σ7 => (some (v8, σ7)))))))))
set_option maxHeartbeats 4000000 in
set_option maxRecDepth 100000 in
theorem k_X10_away {l : Launch} {D : va_G} {cy : Nat → ClassId} {ad : Nat → Nat} {ta tb : Nat} (hI : AdI ad) (σ0 : Mem) (a1 : Int32) {o : Int32 × Mem} (h : f_X10_away σ0 a1 = some o) : Met l yX10_away (Cond.code yX10_away cX10_away 2 (some .int) :: wG) rm_X10_away (CP D cy ad ta tb σ0 [.ref (ad 64), .int a1]) (CQi D cy ad o.1 o.2) 0 0 (AA ad) := by
  refine Met.ofW (cc := cX10_away) (maxL := 2) (ret := (some .int)) (by decide) rfl ?_
  intro p e s m args below meth c s₁ B hml hv
  obtain ⟨rfl, hE, hP⟩ := hv
  have hts := atoms_spec (ws := Cond.code yX10_away cX10_away 2 (some .int) :: wG) B.pre
  have F : CallFix p m c cX10_away 2 s _ wG RX10 := ⟨B.exec, B.bytes, hml, findClass_of_methodNamed B.named, fun w hw => hts w (List.mem_cons_of_mem _ hw)⟩
  have hr := B.returns
  have hlocks := B.notSynchronized
  have hB : Bd D cy ad σ0 s.heap s.heap [] := ⟨hP, va_S.rf⟩
  have hl := lv_entry ([.ref (ad 64), .int a1] : List Value) (n := 2) (Nat.le_of_ble_eq_true rfl)
  rw [lg_entry_eq]
  generalize (lg_sl ([.ref (ad 64), .int a1] : List Value) ++ List.replicate (2 - (lg_sl ([.ref (ad 64), .int a1] : List Value)).length) Slot.unset).toArray = ls at hl ⊢
  have hl : lv_has ls 2 [(0, .ref (ad 64)), (1, .int a1)] := hl
  unfold f_X10_away at h
  refine lv_aload_n F.1 F.2.1 dX10_away_0 rfl (lv_at hl 0 rfl) ?_
  obtain ⟨σ2, hc1, h⟩ := bv_e h
  refine q_cv hB (q_goV F hE hB (k_X10_find hI σ0 hc1) (ca_RX10_129 F.2.2.2.2 ⟨Nat.le_of_ble_eq_true rfl, Nat.le_of_ble_eq_true rfl⟩) rfl po_64 rfl hl.1 rfl (Nat.le_of_ble_eq_true rfl) dX10_away_1 ⟨Nat.le_of_ble_eq_true rfl, Nat.le_of_ble_eq_true rfl⟩) (fun H locs hB => ?_)
  refine lv_iload_n F.1 F.2.1 dX10_away_4 rfl (lv_at hl 1 rfl) ?_
  obtain ⟨v4, hc3, h⟩ := bp_e h
  refine q_ci hB (q_goS F hE hB (k_X10_isTwo hI σ2 a1 hc3) (ca_RX10_92 F.2.2.2.2 ⟨Nat.le_of_ble_eq_true rfl, Nat.le_of_ble_eq_true rfl⟩) rfl hl.1 rfl (Nat.le_of_ble_eq_true rfl) dX10_away_5 ⟨Nat.le_of_ble_eq_true rfl, Nat.le_of_ble_eq_true rfl⟩) (fun H locs hB => ?_)
  refine lv_if_eq (tgt := 19) F.1 F.2.1 dX10_away_8 (by decide) (fun c5 => ?_) (fun c5 => ?_)
  · replace h := it_e c5 h
    refine lv_bipush (v := (-2)) F.1 F.2.1 dX10_away_19 (by decide) ?_
    exact q_iret F hlocks hr hB (so1 h) (so2 h) dX10_away_21
  · replace h := ie_e c5 h
    refine lv_aload_n F.1 F.2.1 dX10_away_11 rfl (lv_at hl 0 rfl) ?_
    refine lv_iload_n F.1 F.2.1 dX10_away_12 rfl (lv_at hl 1 rfl) ?_
    obtain ⟨v8, σ7, hc6, h⟩ := bi_e h
    refine q_ci hB (q_goV F hE hB (k_X10_awayOf hI σ2 a1 hc6) (ca_RX10_226 F.2.2.2.2 ⟨Nat.le_of_ble_eq_true rfl, Nat.le_of_ble_eq_true rfl⟩) rfl po_64 rfl hl.1 rfl (Nat.le_of_ble_eq_true rfl) dX10_away_13 ⟨Nat.le_of_ble_eq_true rfl, Nat.le_of_ble_eq_true rfl⟩) (fun H locs hB => ?_)
    refine lv_goto (tgt := 21) F.1 F.2.1 dX10_away_16 (by decide) ?_
    exact q_iret F hlocks hr hB (so1 h) (so2 h) dX10_away_21
def f_X10_seen (σ0 : Mem) (a1 : Int32) (a2 : Int32) (a3 : Int32) : Option (Int32 × Mem) := (bp (f_X10_isStep σ0 a1) (fun v2 => (if v2 = (0 : Int32) then (some ((-2 : Int32), σ0)) else (bp (f_X10_in σ0 a2.toInt64 (0 : Int64) (7 : Int64)) (fun v5 => (if v5 = (0 : Int32) then (some ((-2 : Int32), σ0)) else (bp (f_X10_in σ0 a3.toInt64 (0 : Int64) (8 : Int64)) (fun v8 => (if v8 = (0 : Int32) then (some ((-2 : Int32), σ0)) else (if (σ0.1 64 22) = (8 : Int32) then (some ((-4 : Int32), σ0)) else (ck ((3 : Int32) * (σ0.1 64 22)) 24 (lt (ms σ0 78 ((3 : Int32) * (σ0.1 64 22)).toNatClampNeg a1) (fun σ12 => (ck (((3 : Int32) * (σ12.1 64 22)) + (1 : Int32)) 24 (lt (ms σ12 78 (((3 : Int32) * (σ12.1 64 22)) + (1 : Int32)).toNatClampNeg a2) (fun σ15 => (ck (((3 : Int32) * (σ15.1 64 22)) + (2 : Int32)) 24 (lt (ms σ15 78 (((3 : Int32) * (σ15.1 64 22)) + (2 : Int32)).toNatClampNeg a3) (fun σ18 => (lt (ms σ18 64 22 ((σ18.1 64 22) + (1 : Int32))) (fun σ20 => (some ((σ20.1 64 22), σ20)))))))))))))))))))))))
set_option maxHeartbeats 4000000 in
set_option maxRecDepth 100000 in
theorem k_X10_seen {l : Launch} {D : va_G} {cy : Nat → ClassId} {ad : Nat → Nat} {ta tb : Nat} (hI : AdI ad) (σ0 : Mem) (a1 : Int32) (a2 : Int32) (a3 : Int32) {o : Int32 × Mem} (h : f_X10_seen σ0 a1 a2 a3 = some o) : Met l yX10_seen (Cond.code yX10_seen cX10_seen 4 (some .int) :: wG) rm_X10_seen (CP D cy ad ta tb σ0 [.ref (ad 64), .int a1, .int a2, .int a3]) (CQi D cy ad o.1 o.2) 0 0 (AA ad) := by
  refine Met.ofW (cc := cX10_seen) (maxL := 4) (ret := (some .int)) (by decide) rfl ?_
  intro p e s m args below meth c s₁ B hml hv
  obtain ⟨rfl, hE, hP⟩ := hv
  have hts := atoms_spec (ws := Cond.code yX10_seen cX10_seen 4 (some .int) :: wG) B.pre
  have F : CallFix p m c cX10_seen 4 s _ wG RX10 := ⟨B.exec, B.bytes, hml, findClass_of_methodNamed B.named, fun w hw => hts w (List.mem_cons_of_mem _ hw)⟩
  have hr := B.returns
  have hlocks := B.notSynchronized
  have hB : Bd D cy ad σ0 s.heap s.heap [] := ⟨hP, va_S.rf⟩
  have hl := lv_entry ([.ref (ad 64), .int a1, .int a2, .int a3] : List Value) (n := 4) (Nat.le_of_ble_eq_true rfl)
  rw [lg_entry_eq]
  generalize (lg_sl ([.ref (ad 64), .int a1, .int a2, .int a3] : List Value) ++ List.replicate (4 - (lg_sl ([.ref (ad 64), .int a1, .int a2, .int a3] : List Value)).length) Slot.unset).toArray = ls at hl ⊢
  have hl : lv_has ls 4 [(0, .ref (ad 64)), (1, .int a1), (2, .int a2), (3, .int a3)] := hl
  unfold f_X10_seen at h
  refine lv_iload_n F.1 F.2.1 dX10_seen_0 rfl (lv_at hl 1 rfl) ?_
  obtain ⟨v2, hc1, h⟩ := bp_e h
  refine q_ci hB (q_goS F hE hB (k_X10_isStep hI σ0 a1 hc1) (ca_RX10_188 F.2.2.2.2 ⟨Nat.le_of_ble_eq_true rfl, Nat.le_of_ble_eq_true rfl⟩) rfl hl.1 rfl (Nat.le_of_ble_eq_true rfl) dX10_seen_1 ⟨Nat.le_of_ble_eq_true rfl, Nat.le_of_ble_eq_true rfl⟩) (fun H locs hB => ?_)
  refine lv_if_eq (tgt := 31) F.1 F.2.1 dX10_seen_4 (by decide) (fun c3 => ?_) (fun c3 => ?_)
  · replace h := it_e c3 h
    refine lv_bipush (v := (-2)) F.1 F.2.1 dX10_seen_31 (by decide) ?_
    exact q_iret F hlocks hr hB (so1 h) (so2 h) dX10_seen_33
  · replace h := ie_e c3 h
    refine lv_iload_n F.1 F.2.1 dX10_seen_7 rfl (lv_at hl 2 rfl) ?_
    refine lv_i2l F.1 F.2.1 dX10_seen_8 rfl ?_
    refine lv_lconst (v := 0) F.1 F.2.1 dX10_seen_9 (by decide) ?_
    refine lv_ldc2 (v := 7) F.1 F.2.1 F.2.2.2.1 (F.2.2.2.2 _ wm_k_RX10_140) dX10_seen_10 ?_
    obtain ⟨v5, hc4, h⟩ := bp_e h
    refine q_ci hB (q_goS F hE hB (k_X10_in hI σ0 a2.toInt64 (0 : Int64) (7 : Int64) hc4) (ca_RX10_64 F.2.2.2.2 ⟨Nat.le_of_ble_eq_true rfl, Nat.le_of_ble_eq_true rfl⟩) rfl hl.1 rfl (Nat.le_of_ble_eq_true rfl) dX10_seen_13 ⟨Nat.le_of_ble_eq_true rfl, Nat.le_of_ble_eq_true rfl⟩) (fun H locs hB => ?_)
    refine lv_if_eq (tgt := 31) F.1 F.2.1 dX10_seen_16 (by decide) (fun c6 => ?_) (fun c6 => ?_)
    · replace h := it_e c6 h
      refine lv_bipush (v := (-2)) F.1 F.2.1 dX10_seen_31 (by decide) ?_
      exact q_iret F hlocks hr hB (so1 h) (so2 h) dX10_seen_33
    · replace h := ie_e c6 h
      refine lv_iload_n F.1 F.2.1 dX10_seen_19 rfl (lv_at hl 3 rfl) ?_
      refine lv_i2l F.1 F.2.1 dX10_seen_20 rfl ?_
      refine lv_lconst (v := 0) F.1 F.2.1 dX10_seen_21 (by decide) ?_
      refine lv_ldc2 (v := 8) F.1 F.2.1 F.2.2.2.1 (F.2.2.2.2 _ wm_k_RX10_229) dX10_seen_22 ?_
      obtain ⟨v8, hc7, h⟩ := bp_e h
      refine q_ci hB (q_goS F hE hB (k_X10_in hI σ0 a3.toInt64 (0 : Int64) (8 : Int64) hc7) (ca_RX10_64 F.2.2.2.2 ⟨Nat.le_of_ble_eq_true rfl, Nat.le_of_ble_eq_true rfl⟩) rfl hl.1 rfl (Nat.le_of_ble_eq_true rfl) dX10_seen_25 ⟨Nat.le_of_ble_eq_true rfl, Nat.le_of_ble_eq_true rfl⟩) (fun H locs hB => ?_)
      refine lv_if_ne (tgt := 34) F.1 F.2.1 dX10_seen_28 (by decide) (fun c9 => ?_) (fun c9 => ?_)
      · replace h := ie_e c9 h
        refine lv_aload_n F.1 F.2.1 dX10_seen_34 rfl (lv_at hl 0 rfl) ?_
        refine gf_RX10_231 F hE hB po_64 rfl dX10_seen_35 ?_
        refine lv_bipush (v := 8) F.1 F.2.1 dX10_seen_38 (by decide) ?_
        refine lv_icmp_ne (tgt := 46) F.1 F.2.1 dX10_seen_40 (by decide) (fun c10 => ?_) (fun c10 => ?_)
        · replace h := ie_e c10 h
          refine lv_aload_n F.1 F.2.1 dX10_seen_46 rfl (lv_at hl 0 rfl) ?_
          refine gf_RX10_49 F hE hB po_64 rfl dX10_seen_47 ?_
          refine lv_iconst (v := 3) F.1 F.2.1 dX10_seen_50 (by decide) ?_
          refine lv_aload_n F.1 F.2.1 dX10_seen_51 rfl (lv_at hl 0 rfl) ?_
          refine gf_RX10_231 F hE hB po_64 rfl dX10_seen_52 ?_
          refine lv_imul F.1 F.2.1 dX10_seen_55 ?_
          refine lv_iload_n F.1 F.2.1 dX10_seen_56 rfl (lv_at hl 1 rfl) ?_
          obtain ⟨hi11, h⟩ := ck_e h
          obtain ⟨σ12, e13, h⟩ := lt_e h
          refine q_iast F hE hI hB row_78 hi11 dX10_seen_57 e13 (fun H locs hB => ?_)
          refine lv_aload_n F.1 F.2.1 dX10_seen_58 rfl (lv_at hl 0 rfl) ?_
          refine gf_RX10_49 F hE hB po_64 rfl dX10_seen_59 ?_
          refine lv_iconst (v := 3) F.1 F.2.1 dX10_seen_62 (by decide) ?_
          refine lv_aload_n F.1 F.2.1 dX10_seen_63 rfl (lv_at hl 0 rfl) ?_
          refine gf_RX10_231 F hE hB po_64 rfl dX10_seen_64 ?_
          refine lv_imul F.1 F.2.1 dX10_seen_67 ?_
          refine lv_iconst (v := 1) F.1 F.2.1 dX10_seen_68 (by decide) ?_
          refine lv_iadd F.1 F.2.1 dX10_seen_69 ?_
          refine lv_iload_n F.1 F.2.1 dX10_seen_70 rfl (lv_at hl 2 rfl) ?_
          obtain ⟨hi14, h⟩ := ck_e h
          obtain ⟨σ15, e16, h⟩ := lt_e h
          refine q_iast F hE hI hB row_78 hi14 dX10_seen_71 e16 (fun H locs hB => ?_)
          refine lv_aload_n F.1 F.2.1 dX10_seen_72 rfl (lv_at hl 0 rfl) ?_
          refine gf_RX10_49 F hE hB po_64 rfl dX10_seen_73 ?_
          refine lv_iconst (v := 3) F.1 F.2.1 dX10_seen_76 (by decide) ?_
          refine lv_aload_n F.1 F.2.1 dX10_seen_77 rfl (lv_at hl 0 rfl) ?_
          refine gf_RX10_231 F hE hB po_64 rfl dX10_seen_78 ?_
          refine lv_imul F.1 F.2.1 dX10_seen_81 ?_
          refine lv_iconst (v := 2) F.1 F.2.1 dX10_seen_82 (by decide) ?_
          refine lv_iadd F.1 F.2.1 dX10_seen_83 ?_
          refine lv_iload_n F.1 F.2.1 dX10_seen_84 rfl (lv_at hl 3 rfl) ?_
          obtain ⟨hi17, h⟩ := ck_e h
          obtain ⟨σ18, e19, h⟩ := lt_e h
          refine q_iast F hE hI hB row_78 hi17 dX10_seen_85 e19 (fun H locs hB => ?_)
          refine lv_aload_n F.1 F.2.1 dX10_seen_86 rfl (lv_at hl 0 rfl) ?_
          refine lv_dup F.1 F.2.1 dX10_seen_87 rfl ?_
          refine gf_RX10_231 F hE hB po_64 rfl dX10_seen_88 ?_
          refine lv_iconst (v := 1) F.1 F.2.1 dX10_seen_91 (by decide) ?_
          refine lv_iadd F.1 F.2.1 dX10_seen_92 ?_
          obtain ⟨σ20, e21, h⟩ := lt_e h
          refine pf_RX10_231 F hE hI hB po_64 rfl rfl (Nat.le_of_ble_eq_true rfl) rfl dX10_seen_93 e21 (fun H locs hB => ?_)
          refine lv_aload_n F.1 F.2.1 dX10_seen_96 rfl (lv_at hl 0 rfl) ?_
          refine gf_RX10_231 F hE hB po_64 rfl dX10_seen_97 ?_
          exact q_iret F hlocks hr hB (so1 h) (so2 h) dX10_seen_100
        · replace h := it_e c10 h
          refine lv_bipush (v := (-4)) F.1 F.2.1 dX10_seen_43 (by decide) ?_
          exact q_iret F hlocks hr hB (so1 h) (so2 h) dX10_seen_45
      · replace h := it_e c9 h
        refine lv_bipush (v := (-2)) F.1 F.2.1 dX10_seen_31 (by decide) ?_
        exact q_iret F hlocks hr hB (so1 h) (so2 h) dX10_seen_33
def f_X10_forget (σ0 : Mem) : Option (Int32 × Mem) := (lt (ms σ0 64 22 (0 : Int32)) (fun σ1 => (some ((σ0.1 64 22), σ1))))
set_option maxHeartbeats 4000000 in
set_option maxRecDepth 100000 in
theorem k_X10_forget {l : Launch} {D : va_G} {cy : Nat → ClassId} {ad : Nat → Nat} {ta tb : Nat} (hI : AdI ad) (σ0 : Mem) {o : Int32 × Mem} (h : f_X10_forget σ0 = some o) : Met l yX10_forget (Cond.code yX10_forget cX10_forget 2 (some .int) :: wG) rm_X10_forget (CP D cy ad ta tb σ0 [.ref (ad 64)]) (CQi D cy ad o.1 o.2) 0 0 (AA ad) := by
  refine Met.ofW (cc := cX10_forget) (maxL := 2) (ret := (some .int)) (by decide) rfl ?_
  intro p e s m args below meth c s₁ B hml hv
  obtain ⟨rfl, hE, hP⟩ := hv
  have hts := atoms_spec (ws := Cond.code yX10_forget cX10_forget 2 (some .int) :: wG) B.pre
  have F : CallFix p m c cX10_forget 2 s _ wG RX10 := ⟨B.exec, B.bytes, hml, findClass_of_methodNamed B.named, fun w hw => hts w (List.mem_cons_of_mem _ hw)⟩
  have hr := B.returns
  have hlocks := B.notSynchronized
  have hB : Bd D cy ad σ0 s.heap s.heap [] := ⟨hP, va_S.rf⟩
  have hl := lv_entry ([.ref (ad 64)] : List Value) (n := 2) (Nat.le_of_ble_eq_true rfl)
  rw [lg_entry_eq]
  generalize (lg_sl ([.ref (ad 64)] : List Value) ++ List.replicate (2 - (lg_sl ([.ref (ad 64)] : List Value)).length) Slot.unset).toArray = ls at hl ⊢
  have hl : lv_has ls 2 [(0, .ref (ad 64))] := hl
  unfold f_X10_forget at h
  refine lv_aload_n F.1 F.2.1 dX10_forget_0 rfl (lv_at hl 0 rfl) ?_
  refine gf_RX10_231 F hE hB po_64 rfl dX10_forget_1 ?_
  refine lv_istore_n (lv' := [(1, .int (σ0.1 64 22)), (0, .ref (ad 64))]) F.1 F.2.1 dX10_forget_4 rfl hl (by decide) rfl (fun ls hl => ?_)
  refine lv_aload_n F.1 F.2.1 dX10_forget_5 rfl (lv_at hl 1 rfl) ?_
  refine lv_iconst (v := 0) F.1 F.2.1 dX10_forget_6 (by decide) ?_
  obtain ⟨σ1, e2, h⟩ := lt_e h
  refine pf_RX10_231 F hE hI hB po_64 rfl rfl (Nat.le_of_ble_eq_true rfl) rfl dX10_forget_7 e2 (fun H locs hB => ?_)
  refine lv_iload_n F.1 F.2.1 dX10_forget_10 rfl (lv_at hl 0 rfl) ?_
  exact q_iret F hlocks hr hB (so1 h) (so2 h) dX10_forget_11
def f_X10_isSeen_b73 (k4 : Mem → Int32 → Int32 → Option (Int32 × Mem)) (σ0 : Mem) (x2 : Int32) (y0 : Int32) : Option (Int32 × Mem) := (k4 σ0 y0 (x2 + (1 : Int32)))
def f_X10_isSeen_b72 (k4 : Mem → Int32 → Int32 → Option (Int32 × Mem)) (σ0 : Mem) (x2 : Int32) : Option (Int32 × Mem) := (f_X10_isSeen_b73 k4 σ0 x2 (0 : Int32))
def f_X10_isSeen_b4 : Nat → Mem → Int32 → Int32 → Option (Int32 × Mem)
  | 0, _, _, _ => none
  | n4 + 1, σ0, x1, x2 => (if (σ0.1 64 22) ≤ x2 then (cb x1 (some (x1, σ0))) else (if x1 = (0 : Int32) then (cb x1 (some (x1, σ0))) else (ck (((3 : Int32) * x2) + (1 : Int32)) 24 (bp (f_X10_isBoat σ0 (σ0.1 78 (((3 : Int32) * x2) + (1 : Int32)).toNatClampNeg)) (fun v7 => (if v7 = (0 : Int32) then (f_X10_isSeen_b72 (f_X10_isSeen_b4 n4) σ0 x2) else (ck ((3 : Int32) * x2) 24 (ck (((3 : Int32) * x2) + (1 : Int32)) 24 (bi (f_X10_atOf σ0 (σ0.1 78 ((3 : Int32) * x2).toNatClampNeg) (σ0.1 78 (((3 : Int32) * x2) + (1 : Int32)).toNatClampNeg)) (fun v13 σ12 => (ck (((3 : Int32) * x2) + (2 : Int32)) 24 (if v13 = (σ12.1 78 (((3 : Int32) * x2) + (2 : Int32)).toNatClampNeg) then (f_X10_isSeen_b73 (f_X10_isSeen_b4 n4) σ12 x2 (1 : Int32)) else (f_X10_isSeen_b72 (f_X10_isSeen_b4 n4) σ12 x2)))))))))))))
def f_X10_isSeen (σ0 : Mem) : Option (Int32 × Mem) := (f_X10_isSeen_b4 300 σ0 (1 : Int32) (0 : Int32))
set_option maxHeartbeats 4000000 in
set_option maxRecDepth 100000 in
theorem k_X10_isSeen {l : Launch} {D : va_G} {cy : Nat → ClassId} {ad : Nat → Nat} {ta tb : Nat} (hI : AdI ad) (σ0 : Mem) {o : Int32 × Mem} (h : f_X10_isSeen σ0 = some o) : Met l yX10_isSeen (Cond.code yX10_isSeen cX10_isSeen 3 (some .boolean) :: wG) rm_X10_isSeen (CP D cy ad ta tb σ0 [.ref (ad 64)]) (CQi D cy ad o.1 o.2) 0 0 (AA ad) := by
  refine Met.ofW (cc := cX10_isSeen) (maxL := 3) (ret := (some .boolean)) (by decide) rfl ?_
  intro p e s m args below meth c s₁ B hml hv
  obtain ⟨rfl, hE, hP⟩ := hv
  have hts := atoms_spec (ws := Cond.code yX10_isSeen cX10_isSeen 3 (some .boolean) :: wG) B.pre
  have F : CallFix p m c cX10_isSeen 3 s _ wG RX10 := ⟨B.exec, B.bytes, hml, findClass_of_methodNamed B.named, fun w hw => hts w (List.mem_cons_of_mem _ hw)⟩
  have hr := B.returns
  have hlocks := B.notSynchronized
  have hB : Bd D cy ad σ0 s.heap s.heap [] := ⟨hP, va_S.rf⟩
  have hl := lv_entry ([.ref (ad 64)] : List Value) (n := 3) (Nat.le_of_ble_eq_true rfl)
  rw [lg_entry_eq]
  generalize (lg_sl ([.ref (ad 64)] : List Value) ++ List.replicate (3 - (lg_sl ([.ref (ad 64)] : List Value)).length) Slot.unset).toArray = ls at hl ⊢
  have hl : lv_has ls 3 [(0, .ref (ad 64))] := hl
  have B4 : ∀ (n4 : Nat) (σ0 : Mem) (H : Heap) (locs : List Loc) (ls : Array Slot) (x1 : Int32) (x2 : Int32), f_X10_isSeen_b4 n4 σ0 x1 x2 = some o → Bd D cy ad σ0 s.heap H locs → lv_has ls 3 [(0, .ref (ad 64)), (1, .int x1), (2, .int x2)] → W p l e rm_X10_isSeen s m ([.ref (ad 64)] : List Value).toArray below meth c H locs 0 0 (MQ below (CQi D cy ad o.1 o.2) ([.ref (ad 64)] : List Value).toArray s 0 0 (AA ad)) (F0 m 4 ls []) := by
    intro n4
    induction n4 with
    | zero => intro σ0 H locs ls x1 x2 h hB hl; cases h
    | succ n4 ih4 =>
      have B73 : ∀ (σ0 : Mem) (H : Heap) (locs : List Loc) (ls : Array Slot) (x2 : Int32) (y0 : Int32), f_X10_isSeen_b73 (f_X10_isSeen_b4 n4) σ0 x2 y0 = some o → Bd D cy ad σ0 s.heap H locs → lv_has ls 3 [(0, .ref (ad 64)), (2, .int x2)] → W p l e rm_X10_isSeen s m ([.ref (ad 64)] : List Value).toArray below meth c H locs 0 0 (MQ below (CQi D cy ad o.1 o.2) ([.ref (ad 64)] : List Value).toArray s 0 0 (AA ad)) (F0 m 73 ls [.int y0]) := by
        intro σ0 H locs ls x2 y0 h hB hl
        unfold f_X10_isSeen_b73 at h
        refine lv_istore_n (lv' := [(1, .int y0), (0, .ref (ad 64)), (2, .int x2)]) F.1 F.2.1 dX10_isSeen_73 rfl hl (by decide) rfl (fun ls hl => ?_)
        refine lv_iinc (v := (x2 + (1 : Int32))) (lv' := [(2, .int (x2 + (1 : Int32))), (1, .int y0), (0, .ref (ad 64))]) F.1 F.2.1 dX10_isSeen_74 hl (k := 2) rfl rfl (by decide) rfl (fun ls hl => ?_)
        refine lv_goto (tgt := 4) F.1 F.2.1 dX10_isSeen_77 (by decide) ?_
        exact ih4 σ0 _ _ _ y0 (x2 + (1 : Int32)) h hB (lv_sub hl [2, 1, 0] rfl)
      have B72 : ∀ (σ0 : Mem) (H : Heap) (locs : List Loc) (ls : Array Slot) (x2 : Int32), f_X10_isSeen_b72 (f_X10_isSeen_b4 n4) σ0 x2 = some o → Bd D cy ad σ0 s.heap H locs → lv_has ls 3 [(0, .ref (ad 64)), (2, .int x2)] → W p l e rm_X10_isSeen s m ([.ref (ad 64)] : List Value).toArray below meth c H locs 0 0 (MQ below (CQi D cy ad o.1 o.2) ([.ref (ad 64)] : List Value).toArray s 0 0 (AA ad)) (F0 m 72 ls []) := by
        intro σ0 H locs ls x2 h hB hl
        unfold f_X10_isSeen_b72 at h
        refine lv_iconst (v := 0) F.1 F.2.1 dX10_isSeen_72 (by decide) ?_
        exact B73 σ0 _ _ _ x2 (0 : Int32) h hB (lv_sub hl [0, 1] rfl)
      intro σ0 H locs ls x1 x2 h hB hl
      rw [f_X10_isSeen_b4] at h
      refine lv_iload_n F.1 F.2.1 dX10_isSeen_4 rfl (lv_at hl 2 rfl) ?_
      refine lv_aload_n F.1 F.2.1 dX10_isSeen_5 rfl (lv_at hl 0 rfl) ?_
      refine gf_RX10_231 F hE hB po_64 rfl dX10_isSeen_6 ?_
      refine lv_icmp_ge (tgt := 80) F.1 F.2.1 dX10_isSeen_9 (by decide) (fun c1 => ?_) (fun c1 => ?_)
      · replace h := it_e c1 h
        refine lv_iload_n F.1 F.2.1 dX10_isSeen_80 rfl (lv_at hl 1 rfl) ?_
        obtain ⟨hn2, h⟩ := cb_e h
        exact q_zret F hlocks hr hn2 hB (so1 h) (so2 h) dX10_isSeen_81
      · replace h := ie_e c1 h
        refine lv_iload_n F.1 F.2.1 dX10_isSeen_12 rfl (lv_at hl 1 rfl) ?_
        refine lv_if_eq (tgt := 80) F.1 F.2.1 dX10_isSeen_13 (by decide) (fun c3 => ?_) (fun c3 => ?_)
        · replace h := it_e c3 h
          refine lv_iload_n F.1 F.2.1 dX10_isSeen_80 rfl (lv_at hl 1 rfl) ?_
          obtain ⟨hn4, h⟩ := cb_e h
          exact q_zret F hlocks hr hn4 hB (so1 h) (so2 h) dX10_isSeen_81
        · replace h := ie_e c3 h
          refine lv_aload_n F.1 F.2.1 dX10_isSeen_16 rfl (lv_at hl 0 rfl) ?_
          refine lv_aload_n F.1 F.2.1 dX10_isSeen_17 rfl (lv_at hl 0 rfl) ?_
          refine gf_RX10_49 F hE hB po_64 rfl dX10_isSeen_18 ?_
          refine lv_iconst (v := 3) F.1 F.2.1 dX10_isSeen_21 (by decide) ?_
          refine lv_iload_n F.1 F.2.1 dX10_isSeen_22 rfl (lv_at hl 2 rfl) ?_
          refine lv_imul F.1 F.2.1 dX10_isSeen_23 ?_
          refine lv_iconst (v := 1) F.1 F.2.1 dX10_isSeen_24 (by decide) ?_
          refine lv_iadd F.1 F.2.1 dX10_isSeen_25 ?_
          obtain ⟨hi5, h⟩ := ck_e h
          refine q_iald F hE hB po_78 hi5 dX10_isSeen_26 ?_
          obtain ⟨v7, hc6, h⟩ := bp_e h
          refine q_ci hB (q_goV F hE hB (k_X10_isBoat hI σ0 (σ0.1 78 (((3 : Int32) * x2) + (1 : Int32)).toNatClampNeg) hc6) (ca_RX10_135 F.2.2.2.2 ⟨Nat.le_of_ble_eq_true rfl, Nat.le_of_ble_eq_true rfl⟩) rfl po_64 rfl hl.1 rfl (Nat.le_of_ble_eq_true rfl) dX10_isSeen_27 ⟨Nat.le_of_ble_eq_true rfl, Nat.le_of_ble_eq_true rfl⟩) (fun H locs hB => ?_)
          refine lv_if_eq (tgt := 72) F.1 F.2.1 dX10_isSeen_30 (by decide) (fun c8 => ?_) (fun c8 => ?_)
          · replace h := it_e c8 h
            exact B72 σ0 _ _ _ x2 h hB (lv_sub hl [0, 2] rfl)
          · replace h := ie_e c8 h
            refine lv_aload_n F.1 F.2.1 dX10_isSeen_33 rfl (lv_at hl 0 rfl) ?_
            refine lv_aload_n F.1 F.2.1 dX10_isSeen_34 rfl (lv_at hl 0 rfl) ?_
            refine gf_RX10_49 F hE hB po_64 rfl dX10_isSeen_35 ?_
            refine lv_iconst (v := 3) F.1 F.2.1 dX10_isSeen_38 (by decide) ?_
            refine lv_iload_n F.1 F.2.1 dX10_isSeen_39 rfl (lv_at hl 2 rfl) ?_
            refine lv_imul F.1 F.2.1 dX10_isSeen_40 ?_
            obtain ⟨hi9, h⟩ := ck_e h
            refine q_iald F hE hB po_78 hi9 dX10_isSeen_41 ?_
            refine lv_aload_n F.1 F.2.1 dX10_isSeen_42 rfl (lv_at hl 0 rfl) ?_
            refine gf_RX10_49 F hE hB po_64 rfl dX10_isSeen_43 ?_
            refine lv_iconst (v := 3) F.1 F.2.1 dX10_isSeen_46 (by decide) ?_
            refine lv_iload_n F.1 F.2.1 dX10_isSeen_47 rfl (lv_at hl 2 rfl) ?_
            refine lv_imul F.1 F.2.1 dX10_isSeen_48 ?_
            refine lv_iconst (v := 1) F.1 F.2.1 dX10_isSeen_49 (by decide) ?_
            refine lv_iadd F.1 F.2.1 dX10_isSeen_50 ?_
            obtain ⟨hi10, h⟩ := ck_e h
            refine q_iald F hE hB po_78 hi10 dX10_isSeen_51 ?_
            obtain ⟨v13, σ12, hc11, h⟩ := bi_e h
            refine q_ci hB (q_goV F hE hB (k_X10_atOf hI σ0 (σ0.1 78 ((3 : Int32) * x2).toNatClampNeg) (σ0.1 78 (((3 : Int32) * x2) + (1 : Int32)).toNatClampNeg) hc11) (ca_RX10_191 F.2.2.2.2 ⟨Nat.le_of_ble_eq_true rfl, Nat.le_of_ble_eq_true rfl⟩) rfl po_64 rfl hl.1 rfl (Nat.le_of_ble_eq_true rfl) dX10_isSeen_52 ⟨Nat.le_of_ble_eq_true rfl, Nat.le_of_ble_eq_true rfl⟩) (fun H locs hB => ?_)
            refine lv_aload_n F.1 F.2.1 dX10_isSeen_55 rfl (lv_at hl 0 rfl) ?_
            refine gf_RX10_49 F hE hB po_64 rfl dX10_isSeen_56 ?_
            refine lv_iconst (v := 3) F.1 F.2.1 dX10_isSeen_59 (by decide) ?_
            refine lv_iload_n F.1 F.2.1 dX10_isSeen_60 rfl (lv_at hl 2 rfl) ?_
            refine lv_imul F.1 F.2.1 dX10_isSeen_61 ?_
            refine lv_iconst (v := 2) F.1 F.2.1 dX10_isSeen_62 (by decide) ?_
            refine lv_iadd F.1 F.2.1 dX10_isSeen_63 ?_
            obtain ⟨hi14, h⟩ := ck_e h
            refine q_iald F hE hB po_78 hi14 dX10_isSeen_64 ?_
            refine lv_icmp_ne (tgt := 72) F.1 F.2.1 dX10_isSeen_65 (by decide) (fun c15 => ?_) (fun c15 => ?_)
            · replace h := ie_e c15 h
              exact B72 σ12 _ _ _ x2 h hB (lv_sub hl [0, 2] rfl)
            · replace h := it_e c15 h
              refine lv_iconst (v := 1) F.1 F.2.1 dX10_isSeen_68 (by decide) ?_
              refine lv_goto (tgt := 73) F.1 F.2.1 dX10_isSeen_69 (by decide) ?_
              exact B73 σ12 _ _ _ x2 (1 : Int32) h hB (lv_sub hl [0, 2] rfl)
  unfold f_X10_isSeen at h
  refine lv_iconst (v := 1) F.1 F.2.1 dX10_isSeen_0 (by decide) ?_
  refine lv_istore_n (lv' := [(1, .int (1 : Int32)), (0, .ref (ad 64))]) F.1 F.2.1 dX10_isSeen_1 rfl hl (by decide) rfl (fun ls hl => ?_)
  refine lv_iconst (v := 0) F.1 F.2.1 dX10_isSeen_2 (by decide) ?_
  refine lv_istore_n (lv' := [(2, .int (0 : Int32)), (1, .int (1 : Int32)), (0, .ref (ad 64))]) F.1 F.2.1 dX10_isSeen_3 rfl hl (by decide) rfl (fun ls hl => ?_)
  exact B4 300 σ0 _ _ _ (1 : Int32) (0 : Int32) h hB (lv_sub hl [2, 1, 0] rfl)
def f_X10_likedOf_b63 (k22 : Mem → Int32 → Int32 → Int32 → Int32 → Int32 → Option (Int32 × Mem)) (σ0 : Mem) (x2 : Int32) (x3 : Int32) (x4 : Int32) (x6 : Int32) (y0 : Int32) (y1 : Int32) : Option (Int32 × Mem) := (k22 σ0 x2 x3 x4 (y1 ||| y0) (x6 + (1 : Int32)))
def f_X10_likedOf_b35 (k22 : Mem → Int32 → Int32 → Int32 → Int32 → Int32 → Option (Int32 × Mem)) (σ0 : Mem) (x2 : Int32) (x3 : Int32) (x4 : Int32) (x5 : Int32) (x6 : Int32) (y0 : Int32) (y1 : Int32) : Option (Int32 × Mem) := (if y0 ≤ y1 then (ck x3 24 (lt (ms σ0 71 x3.toNatClampNeg x4) (fun σ5 => (some (x5, σ5))))) else (ck x3 24 (lt (ms σ0 71 x3.toNatClampNeg x6) (fun σ8 => (bi (f_X10_isSeen σ8) (fun v12 σ11 => (if v12 = (0 : Int32) then (f_X10_likedOf_b63 k22 σ11 x2 x3 x4 x6 (0 : Int32) x5) else (f_X10_likedOf_b63 k22 σ11 x2 x3 x4 x6 ((1 : Int32) <<< (x6 &&& 31)) x5))))))))
def f_X10_likedOf_b22 : Nat → Mem → Int32 → Int32 → Int32 → Int32 → Int32 → Option (Int32 × Mem)
  | 0, _, _, _, _, _, _ => none
  | n22 + 1, σ0, x2, x3, x4, x5, x6 => (if x2 = (0 : Int32) then (f_X10_likedOf_b35 (f_X10_likedOf_b22 n22) σ0 x2 x3 x4 x5 x6 (6 : Int32) x6) else (f_X10_likedOf_b35 (f_X10_likedOf_b22 n22) σ0 x2 x3 x4 x5 x6 (10 : Int32) x6))
def f_X10_likedOf (σ0 : Mem) (a1 : Int32) (a2 : Int32) : Option (Int32 × Mem) := (ck ((((3 : Int32) * a1) + (1 : Int32)) + a2) 24 (f_X10_likedOf_b22 300 σ0 a2 ((((3 : Int32) * a1) + (1 : Int32)) + a2) (σ0.1 71 ((((3 : Int32) * a1) + (1 : Int32)) + a2).toNatClampNeg) (0 : Int32) a2))
set_option maxHeartbeats 4000000 in
set_option maxRecDepth 100000 in
theorem k_X10_likedOf {l : Launch} {D : va_G} {cy : Nat → ClassId} {ad : Nat → Nat} {ta tb : Nat} (hI : AdI ad) (σ0 : Mem) (a1 : Int32) (a2 : Int32) {o : Int32 × Mem} (h : f_X10_likedOf σ0 a1 a2 = some o) : Met l yX10_likedOf (Cond.code yX10_likedOf cX10_likedOf 7 (some .int) :: wG) rm_X10_likedOf (CP D cy ad ta tb σ0 [.ref (ad 64), .int a1, .int a2]) (CQi D cy ad o.1 o.2) 0 0 (AA ad) := by
  refine Met.ofW (cc := cX10_likedOf) (maxL := 7) (ret := (some .int)) (by decide) rfl ?_
  intro p e s m args below meth c s₁ B hml hv
  obtain ⟨rfl, hE, hP⟩ := hv
  have hts := atoms_spec (ws := Cond.code yX10_likedOf cX10_likedOf 7 (some .int) :: wG) B.pre
  have F : CallFix p m c cX10_likedOf 7 s _ wG RX10 := ⟨B.exec, B.bytes, hml, findClass_of_methodNamed B.named, fun w hw => hts w (List.mem_cons_of_mem _ hw)⟩
  have hr := B.returns
  have hlocks := B.notSynchronized
  have hB : Bd D cy ad σ0 s.heap s.heap [] := ⟨hP, va_S.rf⟩
  have hl := lv_entry ([.ref (ad 64), .int a1, .int a2] : List Value) (n := 7) (Nat.le_of_ble_eq_true rfl)
  rw [lg_entry_eq]
  generalize (lg_sl ([.ref (ad 64), .int a1, .int a2] : List Value) ++ List.replicate (7 - (lg_sl ([.ref (ad 64), .int a1, .int a2] : List Value)).length) Slot.unset).toArray = ls at hl ⊢
  have hl : lv_has ls 7 [(0, .ref (ad 64)), (1, .int a1), (2, .int a2)] := hl
  have B22 : ∀ (n22 : Nat) (σ0 : Mem) (H : Heap) (locs : List Loc) (ls : Array Slot) (x2 : Int32) (x3 : Int32) (x4 : Int32) (x5 : Int32) (x6 : Int32), f_X10_likedOf_b22 n22 σ0 x2 x3 x4 x5 x6 = some o → Bd D cy ad σ0 s.heap H locs → lv_has ls 7 [(0, .ref (ad 64)), (2, .int x2), (3, .int x3), (4, .int x4), (5, .int x5), (6, .int x6)] → W p l e rm_X10_likedOf s m ([.ref (ad 64), .int a1, .int a2] : List Value).toArray below meth c H locs 0 0 (MQ below (CQi D cy ad o.1 o.2) ([.ref (ad 64), .int a1, .int a2] : List Value).toArray s 0 0 (AA ad)) (F0 m 22 ls []) := by
    intro n22
    induction n22 with
    | zero => intro σ0 H locs ls x2 x3 x4 x5 x6 h hB hl; cases h
    | succ n22 ih22 =>
      have B63 : ∀ (σ0 : Mem) (H : Heap) (locs : List Loc) (ls : Array Slot) (x2 : Int32) (x3 : Int32) (x4 : Int32) (x6 : Int32) (y0 : Int32) (y1 : Int32), f_X10_likedOf_b63 (f_X10_likedOf_b22 n22) σ0 x2 x3 x4 x6 y0 y1 = some o → Bd D cy ad σ0 s.heap H locs → lv_has ls 7 [(0, .ref (ad 64)), (2, .int x2), (3, .int x3), (4, .int x4), (6, .int x6)] → W p l e rm_X10_likedOf s m ([.ref (ad 64), .int a1, .int a2] : List Value).toArray below meth c H locs 0 0 (MQ below (CQi D cy ad o.1 o.2) ([.ref (ad 64), .int a1, .int a2] : List Value).toArray s 0 0 (AA ad)) (F0 m 63 ls [.int y0, .int y1]) := by
        intro σ0 H locs ls x2 x3 x4 x6 y0 y1 h hB hl
        unfold f_X10_likedOf_b63 at h
        refine lv_ior F.1 F.2.1 dX10_likedOf_63 ?_
        refine lv_istore (lv' := [(5, .int (y1 ||| y0)), (0, .ref (ad 64)), (2, .int x2), (3, .int x3), (4, .int x4), (6, .int x6)]) F.1 F.2.1 dX10_likedOf_64 hl (by decide) rfl (fun ls hl => ?_)
        refine lv_iinc (v := (x6 + (1 : Int32))) (lv' := [(6, .int (x6 + (1 : Int32))), (5, .int (y1 ||| y0)), (0, .ref (ad 64)), (2, .int x2), (3, .int x3), (4, .int x4)]) F.1 F.2.1 dX10_likedOf_66 hl (k := 5) rfl rfl (by decide) rfl (fun ls hl => ?_)
        refine lv_goto (tgt := 22) F.1 F.2.1 dX10_likedOf_69 (by decide) ?_
        exact ih22 σ0 _ _ _ x2 x3 x4 (y1 ||| y0) (x6 + (1 : Int32)) h hB (lv_sub hl [2, 3, 4, 5, 1, 0] rfl)
      have B35 : ∀ (σ0 : Mem) (H : Heap) (locs : List Loc) (ls : Array Slot) (x2 : Int32) (x3 : Int32) (x4 : Int32) (x5 : Int32) (x6 : Int32) (y0 : Int32) (y1 : Int32), f_X10_likedOf_b35 (f_X10_likedOf_b22 n22) σ0 x2 x3 x4 x5 x6 y0 y1 = some o → Bd D cy ad σ0 s.heap H locs → lv_has ls 7 [(0, .ref (ad 64)), (2, .int x2), (3, .int x3), (4, .int x4), (5, .int x5), (6, .int x6)] → W p l e rm_X10_likedOf s m ([.ref (ad 64), .int a1, .int a2] : List Value).toArray below meth c H locs 0 0 (MQ below (CQi D cy ad o.1 o.2) ([.ref (ad 64), .int a1, .int a2] : List Value).toArray s 0 0 (AA ad)) (F0 m 35 ls [.int y0, .int y1]) := by
        intro σ0 H locs ls x2 x3 x4 x5 x6 y0 y1 h hB hl
        unfold f_X10_likedOf_b35 at h
        refine lv_icmp_ge (tgt := 72) F.1 F.2.1 dX10_likedOf_35 (by decide) (fun c3 => ?_) (fun c3 => ?_)
        · replace h := it_e c3 h
          refine lv_aload_n F.1 F.2.1 dX10_likedOf_72 rfl (lv_at hl 0 rfl) ?_
          refine gf_RX10_28 F hE hB po_64 rfl dX10_likedOf_73 ?_
          refine lv_iload_n F.1 F.2.1 dX10_likedOf_76 rfl (lv_at hl 2 rfl) ?_
          refine lv_iload F.1 F.2.1 dX10_likedOf_77 (lv_at hl 3 rfl) ?_
          obtain ⟨hi4, h⟩ := ck_e h
          obtain ⟨σ5, e6, h⟩ := lt_e h
          refine q_iast F hE hI hB row_71 hi4 dX10_likedOf_79 e6 (fun H locs hB => ?_)
          refine lv_iload F.1 F.2.1 dX10_likedOf_80 (lv_at hl 4 rfl) ?_
          exact q_iret F hlocks hr hB (so1 h) (so2 h) dX10_likedOf_82
        · replace h := ie_e c3 h
          refine lv_aload_n F.1 F.2.1 dX10_likedOf_38 rfl (lv_at hl 0 rfl) ?_
          refine gf_RX10_28 F hE hB po_64 rfl dX10_likedOf_39 ?_
          refine lv_iload_n F.1 F.2.1 dX10_likedOf_42 rfl (lv_at hl 2 rfl) ?_
          refine lv_iload F.1 F.2.1 dX10_likedOf_43 (lv_at hl 5 rfl) ?_
          obtain ⟨hi7, h⟩ := ck_e h
          obtain ⟨σ8, e9, h⟩ := lt_e h
          refine q_iast F hE hI hB row_71 hi7 dX10_likedOf_45 e9 (fun H locs hB => ?_)
          refine lv_iload F.1 F.2.1 dX10_likedOf_46 (lv_at hl 4 rfl) ?_
          refine lv_aload_n F.1 F.2.1 dX10_likedOf_48 rfl (lv_at hl 0 rfl) ?_
          obtain ⟨v12, σ11, hc10, h⟩ := bi_e h
          refine q_ci hB (q_goV F hE hB (k_X10_isSeen hI σ8 hc10) (ca_RX10_234 F.2.2.2.2 ⟨Nat.le_of_ble_eq_true rfl, Nat.le_of_ble_eq_true rfl⟩) rfl po_64 rfl hl.1 rfl (Nat.le_of_ble_eq_true rfl) dX10_likedOf_49 ⟨Nat.le_of_ble_eq_true rfl, Nat.le_of_ble_eq_true rfl⟩) (fun H locs hB => ?_)
          refine lv_if_eq (tgt := 62) F.1 F.2.1 dX10_likedOf_52 (by decide) (fun c13 => ?_) (fun c13 => ?_)
          · replace h := it_e c13 h
            refine lv_iconst (v := 0) F.1 F.2.1 dX10_likedOf_62 (by decide) ?_
            exact B63 σ11 _ _ _ x2 x3 x4 x6 (0 : Int32) x5 h hB (lv_sub hl [0, 1, 2, 3, 5] rfl)
          · replace h := ie_e c13 h
            refine lv_iconst (v := 1) F.1 F.2.1 dX10_likedOf_55 (by decide) ?_
            refine lv_iload F.1 F.2.1 dX10_likedOf_56 (lv_at hl 5 rfl) ?_
            refine lv_ishl F.1 F.2.1 dX10_likedOf_58 ?_
            refine lv_goto (tgt := 63) F.1 F.2.1 dX10_likedOf_59 (by decide) ?_
            exact B63 σ11 _ _ _ x2 x3 x4 x6 ((1 : Int32) <<< (x6 &&& 31)) x5 h hB (lv_sub hl [0, 1, 2, 3, 5] rfl)
      intro σ0 H locs ls x2 x3 x4 x5 x6 h hB hl
      rw [f_X10_likedOf_b22] at h
      refine lv_iload F.1 F.2.1 dX10_likedOf_22 (lv_at hl 5 rfl) ?_
      refine lv_iload_n F.1 F.2.1 dX10_likedOf_24 rfl (lv_at hl 1 rfl) ?_
      refine lv_if_ne (tgt := 33) F.1 F.2.1 dX10_likedOf_25 (by decide) (fun c2 => ?_) (fun c2 => ?_)
      · replace h := ie_e c2 h
        refine lv_bipush (v := 10) F.1 F.2.1 dX10_likedOf_33 (by decide) ?_
        exact B35 σ0 _ _ _ x2 x3 x4 x5 x6 (10 : Int32) x6 h hB (lv_sub hl [0, 1, 2, 3, 4, 5] rfl)
      · replace h := it_e c2 h
        refine lv_bipush (v := 6) F.1 F.2.1 dX10_likedOf_28 (by decide) ?_
        refine lv_goto (tgt := 35) F.1 F.2.1 dX10_likedOf_30 (by decide) ?_
        exact B35 σ0 _ _ _ x2 x3 x4 x5 x6 (6 : Int32) x6 h hB (lv_sub hl [0, 1, 2, 3, 4, 5] rfl)
  unfold f_X10_likedOf at h
  refine lv_iconst (v := 3) F.1 F.2.1 dX10_likedOf_0 (by decide) ?_
  refine lv_iload_n F.1 F.2.1 dX10_likedOf_1 rfl (lv_at hl 1 rfl) ?_
  refine lv_imul F.1 F.2.1 dX10_likedOf_2 ?_
  refine lv_iconst (v := 1) F.1 F.2.1 dX10_likedOf_3 (by decide) ?_
  refine lv_iadd F.1 F.2.1 dX10_likedOf_4 ?_
  refine lv_iload_n F.1 F.2.1 dX10_likedOf_5 rfl (lv_at hl 2 rfl) ?_
  refine lv_iadd F.1 F.2.1 dX10_likedOf_6 ?_
  refine lv_istore_n (lv' := [(3, .int ((((3 : Int32) * a1) + (1 : Int32)) + a2)), (0, .ref (ad 64)), (1, .int a1), (2, .int a2)]) F.1 F.2.1 dX10_likedOf_7 rfl hl (by decide) rfl (fun ls hl => ?_)
  refine lv_aload_n F.1 F.2.1 dX10_likedOf_8 rfl (lv_at hl 1 rfl) ?_
  refine gf_RX10_28 F hE hB po_64 rfl dX10_likedOf_9 ?_
  refine lv_iload_n F.1 F.2.1 dX10_likedOf_12 rfl (lv_at hl 0 rfl) ?_
  obtain ⟨hi1, h⟩ := ck_e h
  refine q_iald F hE hB po_71 hi1 dX10_likedOf_13 ?_
  refine lv_istore (lv' := [(4, .int (σ0.1 71 ((((3 : Int32) * a1) + (1 : Int32)) + a2).toNatClampNeg)), (3, .int ((((3 : Int32) * a1) + (1 : Int32)) + a2)), (0, .ref (ad 64)), (1, .int a1), (2, .int a2)]) F.1 F.2.1 dX10_likedOf_14 hl (by decide) rfl (fun ls hl => ?_)
  refine lv_iconst (v := 0) F.1 F.2.1 dX10_likedOf_16 (by decide) ?_
  refine lv_istore (lv' := [(5, .int (0 : Int32)), (4, .int (σ0.1 71 ((((3 : Int32) * a1) + (1 : Int32)) + a2).toNatClampNeg)), (3, .int ((((3 : Int32) * a1) + (1 : Int32)) + a2)), (0, .ref (ad 64)), (1, .int a1), (2, .int a2)]) F.1 F.2.1 dX10_likedOf_17 hl (by decide) rfl (fun ls hl => ?_)
  refine lv_iload_n F.1 F.2.1 dX10_likedOf_19 rfl (lv_at hl 5 rfl) ?_
  refine lv_istore (lv' := [(6, .int a2), (5, .int (0 : Int32)), (4, .int (σ0.1 71 ((((3 : Int32) * a1) + (1 : Int32)) + a2).toNatClampNeg)), (3, .int ((((3 : Int32) * a1) + (1 : Int32)) + a2)), (0, .ref (ad 64)), (1, .int a1), (2, .int a2)]) F.1 F.2.1 dX10_likedOf_20 hl (by decide) rfl (fun ls hl => ?_)
  exact B22 300 σ0 _ _ _ a2 ((((3 : Int32) * a1) + (1 : Int32)) + a2) (σ0.1 71 ((((3 : Int32) * a1) + (1 : Int32)) + a2).toNatClampNeg) (0 : Int32) a2 h hB (lv_sub hl [4, 6, 3, 2, 1, 0] rfl)
def f_X10_liked (σ0 : Mem) (a1 : Int32) (a2 : Int32) : Option (Int32 × Mem) := (bv (f_X10_find σ0) (fun σ2 => (bp (f_X10_isBridge σ2 a1) (fun v4 => (if v4 = (0 : Int32) then (some ((-2 : Int32), σ2)) else (bp (f_X10_isTwo σ2 a2) (fun v7 => (if v7 = (0 : Int32) then (some ((-2 : Int32), σ2)) else (bi (f_X10_likedOf σ2 a1 a2) (fun v11 σ10 => (some (v11, σ10))))))))))))
set_option maxHeartbeats 4000000 in
set_option maxRecDepth 100000 in
theorem k_X10_liked {l : Launch} {D : va_G} {cy : Nat → ClassId} {ad : Nat → Nat} {ta tb : Nat} (hI : AdI ad) (σ0 : Mem) (a1 : Int32) (a2 : Int32) {o : Int32 × Mem} (h : f_X10_liked σ0 a1 a2 = some o) : Met l yX10_liked (Cond.code yX10_liked cX10_liked 3 (some .int) :: wG) rm_X10_liked (CP D cy ad ta tb σ0 [.ref (ad 64), .int a1, .int a2]) (CQi D cy ad o.1 o.2) 0 0 (AA ad) := by
  refine Met.ofW (cc := cX10_liked) (maxL := 3) (ret := (some .int)) (by decide) rfl ?_
  intro p e s m args below meth c s₁ B hml hv
  obtain ⟨rfl, hE, hP⟩ := hv
  have hts := atoms_spec (ws := Cond.code yX10_liked cX10_liked 3 (some .int) :: wG) B.pre
  have F : CallFix p m c cX10_liked 3 s _ wG RX10 := ⟨B.exec, B.bytes, hml, findClass_of_methodNamed B.named, fun w hw => hts w (List.mem_cons_of_mem _ hw)⟩
  have hr := B.returns
  have hlocks := B.notSynchronized
  have hB : Bd D cy ad σ0 s.heap s.heap [] := ⟨hP, va_S.rf⟩
  have hl := lv_entry ([.ref (ad 64), .int a1, .int a2] : List Value) (n := 3) (Nat.le_of_ble_eq_true rfl)
  rw [lg_entry_eq]
  generalize (lg_sl ([.ref (ad 64), .int a1, .int a2] : List Value) ++ List.replicate (3 - (lg_sl ([.ref (ad 64), .int a1, .int a2] : List Value)).length) Slot.unset).toArray = ls at hl ⊢
  have hl : lv_has ls 3 [(0, .ref (ad 64)), (1, .int a1), (2, .int a2)] := hl
  unfold f_X10_liked at h
  refine lv_aload_n F.1 F.2.1 dX10_liked_0 rfl (lv_at hl 0 rfl) ?_
  obtain ⟨σ2, hc1, h⟩ := bv_e h
  refine q_cv hB (q_goV F hE hB (k_X10_find hI σ0 hc1) (ca_RX10_129 F.2.2.2.2 ⟨Nat.le_of_ble_eq_true rfl, Nat.le_of_ble_eq_true rfl⟩) rfl po_64 rfl hl.1 rfl (Nat.le_of_ble_eq_true rfl) dX10_liked_1 ⟨Nat.le_of_ble_eq_true rfl, Nat.le_of_ble_eq_true rfl⟩) (fun H locs hB => ?_)
  refine lv_aload_n F.1 F.2.1 dX10_liked_4 rfl (lv_at hl 0 rfl) ?_
  refine lv_iload_n F.1 F.2.1 dX10_liked_5 rfl (lv_at hl 1 rfl) ?_
  obtain ⟨v4, hc3, h⟩ := bp_e h
  refine q_ci hB (q_goV F hE hB (k_X10_isBridge hI σ2 a1 hc3) (ca_RX10_132 F.2.2.2.2 ⟨Nat.le_of_ble_eq_true rfl, Nat.le_of_ble_eq_true rfl⟩) rfl po_64 rfl hl.1 rfl (Nat.le_of_ble_eq_true rfl) dX10_liked_6 ⟨Nat.le_of_ble_eq_true rfl, Nat.le_of_ble_eq_true rfl⟩) (fun H locs hB => ?_)
  refine lv_if_eq (tgt := 28) F.1 F.2.1 dX10_liked_9 (by decide) (fun c5 => ?_) (fun c5 => ?_)
  · replace h := it_e c5 h
    refine lv_bipush (v := (-2)) F.1 F.2.1 dX10_liked_28 (by decide) ?_
    exact q_iret F hlocks hr hB (so1 h) (so2 h) dX10_liked_30
  · replace h := ie_e c5 h
    refine lv_iload_n F.1 F.2.1 dX10_liked_12 rfl (lv_at hl 2 rfl) ?_
    obtain ⟨v7, hc6, h⟩ := bp_e h
    refine q_ci hB (q_goS F hE hB (k_X10_isTwo hI σ2 a2 hc6) (ca_RX10_92 F.2.2.2.2 ⟨Nat.le_of_ble_eq_true rfl, Nat.le_of_ble_eq_true rfl⟩) rfl hl.1 rfl (Nat.le_of_ble_eq_true rfl) dX10_liked_13 ⟨Nat.le_of_ble_eq_true rfl, Nat.le_of_ble_eq_true rfl⟩) (fun H locs hB => ?_)
    refine lv_if_eq (tgt := 28) F.1 F.2.1 dX10_liked_16 (by decide) (fun c8 => ?_) (fun c8 => ?_)
    · replace h := it_e c8 h
      refine lv_bipush (v := (-2)) F.1 F.2.1 dX10_liked_28 (by decide) ?_
      exact q_iret F hlocks hr hB (so1 h) (so2 h) dX10_liked_30
    · replace h := ie_e c8 h
      refine lv_aload_n F.1 F.2.1 dX10_liked_19 rfl (lv_at hl 0 rfl) ?_
      refine lv_iload_n F.1 F.2.1 dX10_liked_20 rfl (lv_at hl 1 rfl) ?_
      refine lv_iload_n F.1 F.2.1 dX10_liked_21 rfl (lv_at hl 2 rfl) ?_
      obtain ⟨v11, σ10, hc9, h⟩ := bi_e h
      refine q_ci hB (q_goV F hE hB (k_X10_likedOf hI σ2 a1 a2 hc9) (ca_RX10_238 F.2.2.2.2 ⟨Nat.le_of_ble_eq_true rfl, Nat.le_of_ble_eq_true rfl⟩) rfl po_64 rfl hl.1 rfl (Nat.le_of_ble_eq_true rfl) dX10_liked_22 ⟨Nat.le_of_ble_eq_true rfl, Nat.le_of_ble_eq_true rfl⟩) (fun H locs hB => ?_)
      refine lv_goto (tgt := 30) F.1 F.2.1 dX10_liked_25 (by decide) ?_
      exact q_iret F hlocks hr hB (so1 h) (so2 h) dX10_liked_30
