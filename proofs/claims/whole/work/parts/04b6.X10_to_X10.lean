def f_X10_sham (σ0 : Mem) (a1 : Int32) (a2 : Int32) : Option (Int32 × Mem) := (bp (f_X10_in σ0 a1.toInt64 (0 : Int64) (7 : Int64)) (fun v2 => (if v2 = (0 : Int32) then (some ((-2 : Int32), σ0)) else (bp (f_X10_in σ0 a2.toInt64 (0 : Int64) (5 : Int64)) (fun v5 => (if v5 = (0 : Int32) then (some ((-2 : Int32), σ0)) else (if (σ0.1 64 11) = (8 : Int32) then (some ((-4 : Int32), σ0)) else (ck ((2 : Int32) * (σ0.1 64 11)) 16 (lt (ms σ0 73 ((2 : Int32) * (σ0.1 64 11)).toNatClampNeg a1) (fun σ9 => (ck (((2 : Int32) * (σ9.1 64 11)) + (1 : Int32)) 16 (lt (ms σ9 73 (((2 : Int32) * (σ9.1 64 11)) + (1 : Int32)).toNatClampNeg a2) (fun σ12 => (lt (ms σ12 64 11 ((σ12.1 64 11) + (1 : Int32))) (fun σ14 => (some ((σ14.1 64 11), σ14)))))))))))))))))
set_option maxHeartbeats 4000000 in
set_option maxRecDepth 100000 in
theorem k_X10_sham {l : Launch} {D : va_G} {cy : Nat → ClassId} {ad : Nat → Nat} {ta tb : Nat} (hI : AdI ad) (σ0 : Mem) (a1 : Int32) (a2 : Int32) {o : Int32 × Mem} (h : f_X10_sham σ0 a1 a2 = some o) : Met l yX10_sham (Cond.code yX10_sham cX10_sham 3 (some .int) :: wG) rm_X10_sham (CP D cy ad ta tb σ0 [.ref (ad 64), .int a1, .int a2]) (CQi D cy ad o.1 o.2) 0 0 (AA ad) := by
  refine Met.ofW (cc := cX10_sham) (maxL := 3) (ret := (some .int)) (by decide) rfl ?_
  intro p e s m args below meth c s₁ B hml hv
  obtain ⟨rfl, hE, hP⟩ := hv
  have hts := atoms_spec (ws := Cond.code yX10_sham cX10_sham 3 (some .int) :: wG) B.pre
  have F : CallFix p m c cX10_sham 3 s _ wG RX10 := ⟨B.exec, B.bytes, hml, findClass_of_methodNamed B.named, fun w hw => hts w (List.mem_cons_of_mem _ hw)⟩
  have hr := B.returns
  have hlocks := B.notSynchronized
  have hB : Bd D cy ad σ0 s.heap s.heap [] := ⟨hP, va_S.rf⟩
  have hl := lv_entry ([.ref (ad 64), .int a1, .int a2] : List Value) (n := 3) (Nat.le_of_ble_eq_true rfl)
  rw [lg_entry_eq]
  generalize (lg_sl ([.ref (ad 64), .int a1, .int a2] : List Value) ++ List.replicate (3 - (lg_sl ([.ref (ad 64), .int a1, .int a2] : List Value)).length) Slot.unset).toArray = ls at hl ⊢
  have hl : lv_has ls 3 [(0, .ref (ad 64)), (1, .int a1), (2, .int a2)] := hl
  unfold f_X10_sham at h
  refine lv_iload_n F.1 F.2.1 dX10_sham_0 rfl (lv_at hl 1 rfl) ?_
  refine lv_i2l F.1 F.2.1 dX10_sham_1 rfl ?_
  refine lv_lconst (v := 0) F.1 F.2.1 dX10_sham_2 (by decide) ?_
  refine lv_ldc2 (v := 7) F.1 F.2.1 F.2.2.2.1 (F.2.2.2.2 _ wm_k_RX10_140) dX10_sham_3 ?_
  obtain ⟨v2, hc1, h⟩ := bp_e h
  refine q_ci hB (q_goS F hE hB (k_X10_in hI σ0 a1.toInt64 (0 : Int64) (7 : Int64) hc1) (ca_RX10_64 F.2.2.2.2 ⟨Nat.le_of_ble_eq_true rfl, Nat.le_of_ble_eq_true rfl⟩) rfl hl.1 rfl (Nat.le_of_ble_eq_true rfl) dX10_sham_6 ⟨Nat.le_of_ble_eq_true rfl, Nat.le_of_ble_eq_true rfl⟩) (fun H locs hB => ?_)
  refine lv_if_eq (tgt := 24) F.1 F.2.1 dX10_sham_9 (by decide) (fun c3 => ?_) (fun c3 => ?_)
  · replace h := it_e c3 h
    refine lv_bipush (v := (-2)) F.1 F.2.1 dX10_sham_24 (by decide) ?_
    exact q_iret F hlocks hr hB (so1 h) (so2 h) dX10_sham_26
  · replace h := ie_e c3 h
    refine lv_iload_n F.1 F.2.1 dX10_sham_12 rfl (lv_at hl 2 rfl) ?_
    refine lv_i2l F.1 F.2.1 dX10_sham_13 rfl ?_
    refine lv_lconst (v := 0) F.1 F.2.1 dX10_sham_14 (by decide) ?_
    refine lv_ldc2 (v := 5) F.1 F.2.1 F.2.2.2.1 (F.2.2.2.2 _ wm_k_RX10_142) dX10_sham_15 ?_
    obtain ⟨v5, hc4, h⟩ := bp_e h
    refine q_ci hB (q_goS F hE hB (k_X10_in hI σ0 a2.toInt64 (0 : Int64) (5 : Int64) hc4) (ca_RX10_64 F.2.2.2.2 ⟨Nat.le_of_ble_eq_true rfl, Nat.le_of_ble_eq_true rfl⟩) rfl hl.1 rfl (Nat.le_of_ble_eq_true rfl) dX10_sham_18 ⟨Nat.le_of_ble_eq_true rfl, Nat.le_of_ble_eq_true rfl⟩) (fun H locs hB => ?_)
    refine lv_if_ne (tgt := 27) F.1 F.2.1 dX10_sham_21 (by decide) (fun c6 => ?_) (fun c6 => ?_)
    · replace h := ie_e c6 h
      refine lv_aload_n F.1 F.2.1 dX10_sham_27 rfl (lv_at hl 0 rfl) ?_
      refine gf_RX10_144 F hE hB po_64 rfl dX10_sham_28 ?_
      refine lv_bipush (v := 8) F.1 F.2.1 dX10_sham_31 (by decide) ?_
      refine lv_icmp_ne (tgt := 39) F.1 F.2.1 dX10_sham_33 (by decide) (fun c7 => ?_) (fun c7 => ?_)
      · replace h := ie_e c7 h
        refine lv_aload_n F.1 F.2.1 dX10_sham_39 rfl (lv_at hl 0 rfl) ?_
        refine gf_RX10_34 F hE hB po_64 rfl dX10_sham_40 ?_
        refine lv_iconst (v := 2) F.1 F.2.1 dX10_sham_43 (by decide) ?_
        refine lv_aload_n F.1 F.2.1 dX10_sham_44 rfl (lv_at hl 0 rfl) ?_
        refine gf_RX10_144 F hE hB po_64 rfl dX10_sham_45 ?_
        refine lv_imul F.1 F.2.1 dX10_sham_48 ?_
        refine lv_iload_n F.1 F.2.1 dX10_sham_49 rfl (lv_at hl 1 rfl) ?_
        obtain ⟨hi8, h⟩ := ck_e h
        obtain ⟨σ9, e10, h⟩ := lt_e h
        refine q_iast F hE hI hB row_73 hi8 dX10_sham_50 e10 (fun H locs hB => ?_)
        refine lv_aload_n F.1 F.2.1 dX10_sham_51 rfl (lv_at hl 0 rfl) ?_
        refine gf_RX10_34 F hE hB po_64 rfl dX10_sham_52 ?_
        refine lv_iconst (v := 2) F.1 F.2.1 dX10_sham_55 (by decide) ?_
        refine lv_aload_n F.1 F.2.1 dX10_sham_56 rfl (lv_at hl 0 rfl) ?_
        refine gf_RX10_144 F hE hB po_64 rfl dX10_sham_57 ?_
        refine lv_imul F.1 F.2.1 dX10_sham_60 ?_
        refine lv_iconst (v := 1) F.1 F.2.1 dX10_sham_61 (by decide) ?_
        refine lv_iadd F.1 F.2.1 dX10_sham_62 ?_
        refine lv_iload_n F.1 F.2.1 dX10_sham_63 rfl (lv_at hl 2 rfl) ?_
        obtain ⟨hi11, h⟩ := ck_e h
        obtain ⟨σ12, e13, h⟩ := lt_e h
        refine q_iast F hE hI hB row_73 hi11 dX10_sham_64 e13 (fun H locs hB => ?_)
        refine lv_aload_n F.1 F.2.1 dX10_sham_65 rfl (lv_at hl 0 rfl) ?_
        refine lv_dup F.1 F.2.1 dX10_sham_66 rfl ?_
        refine gf_RX10_144 F hE hB po_64 rfl dX10_sham_67 ?_
        refine lv_iconst (v := 1) F.1 F.2.1 dX10_sham_70 (by decide) ?_
        refine lv_iadd F.1 F.2.1 dX10_sham_71 ?_
        obtain ⟨σ14, e15, h⟩ := lt_e h
        refine pf_RX10_144 F hE hI hB po_64 rfl rfl (Nat.le_of_ble_eq_true rfl) rfl dX10_sham_72 e15 (fun H locs hB => ?_)
        refine lv_aload_n F.1 F.2.1 dX10_sham_75 rfl (lv_at hl 0 rfl) ?_
        refine gf_RX10_144 F hE hB po_64 rfl dX10_sham_76 ?_
        exact q_iret F hlocks hr hB (so1 h) (so2 h) dX10_sham_79
      · replace h := it_e c7 h
        refine lv_bipush (v := (-4)) F.1 F.2.1 dX10_sham_36 (by decide) ?_
        exact q_iret F hlocks hr hB (so1 h) (so2 h) dX10_sham_38
    · replace h := it_e c6 h
      refine lv_bipush (v := (-2)) F.1 F.2.1 dX10_sham_24 (by decide) ?_
      exact q_iret F hlocks hr hB (so1 h) (so2 h) dX10_sham_26
def f_X10_back (σ0 : Mem) : Option (Int32 × Mem) := (if (σ0.1 64 11) = (0 : Int32) then (some ((-3 : Int32), σ0)) else (lt (ms σ0 64 11 ((σ0.1 64 11) - (1 : Int32))) (fun σ2 => (some ((σ2.1 64 11), σ2)))))
set_option maxHeartbeats 4000000 in
set_option maxRecDepth 100000 in
theorem k_X10_back {l : Launch} {D : va_G} {cy : Nat → ClassId} {ad : Nat → Nat} {ta tb : Nat} (hI : AdI ad) (σ0 : Mem) {o : Int32 × Mem} (h : f_X10_back σ0 = some o) : Met l yX10_back (Cond.code yX10_back cX10_back 1 (some .int) :: wG) rm_X10_back (CP D cy ad ta tb σ0 [.ref (ad 64)]) (CQi D cy ad o.1 o.2) 0 0 (AA ad) := by
  refine Met.ofW (cc := cX10_back) (maxL := 1) (ret := (some .int)) (by decide) rfl ?_
  intro p e s m args below meth c s₁ B hml hv
  obtain ⟨rfl, hE, hP⟩ := hv
  have hts := atoms_spec (ws := Cond.code yX10_back cX10_back 1 (some .int) :: wG) B.pre
  have F : CallFix p m c cX10_back 1 s _ wG RX10 := ⟨B.exec, B.bytes, hml, findClass_of_methodNamed B.named, fun w hw => hts w (List.mem_cons_of_mem _ hw)⟩
  have hr := B.returns
  have hlocks := B.notSynchronized
  have hB : Bd D cy ad σ0 s.heap s.heap [] := ⟨hP, va_S.rf⟩
  have hl := lv_entry ([.ref (ad 64)] : List Value) (n := 1) (Nat.le_of_ble_eq_true rfl)
  rw [lg_entry_eq]
  generalize (lg_sl ([.ref (ad 64)] : List Value) ++ List.replicate (1 - (lg_sl ([.ref (ad 64)] : List Value)).length) Slot.unset).toArray = ls at hl ⊢
  have hl : lv_has ls 1 [(0, .ref (ad 64))] := hl
  unfold f_X10_back at h
  refine lv_aload_n F.1 F.2.1 dX10_back_0 rfl (lv_at hl 0 rfl) ?_
  refine gf_RX10_144 F hE hB po_64 rfl dX10_back_1 ?_
  refine lv_if_ne (tgt := 10) F.1 F.2.1 dX10_back_4 (by decide) (fun c1 => ?_) (fun c1 => ?_)
  · replace h := ie_e c1 h
    refine lv_aload_n F.1 F.2.1 dX10_back_10 rfl (lv_at hl 0 rfl) ?_
    refine lv_dup F.1 F.2.1 dX10_back_11 rfl ?_
    refine gf_RX10_144 F hE hB po_64 rfl dX10_back_12 ?_
    refine lv_iconst (v := 1) F.1 F.2.1 dX10_back_15 (by decide) ?_
    refine lv_isub F.1 F.2.1 dX10_back_16 ?_
    obtain ⟨σ2, e3, h⟩ := lt_e h
    refine pf_RX10_144 F hE hI hB po_64 rfl rfl (Nat.le_of_ble_eq_true rfl) rfl dX10_back_17 e3 (fun H locs hB => ?_)
    refine lv_aload_n F.1 F.2.1 dX10_back_20 rfl (lv_at hl 0 rfl) ?_
    refine gf_RX10_144 F hE hB po_64 rfl dX10_back_21 ?_
    exact q_iret F hlocks hr hB (so1 h) (so2 h) dX10_back_24
  · replace h := it_e c1 h
    refine lv_bipush (v := (-3)) F.1 F.2.1 dX10_back_7 (by decide) ?_
    exact q_iret F hlocks hr hB (so1 h) (so2 h) dX10_back_9
def f_X10_read_b98 (k29 : Mem → Int32 → Int32 → Int32 → Option (Int32 × Mem)) (σ0 : Mem) (x1 : Int32) (x3 : Int32) (y0 : Int32) (y1 : Int32) : Option (Int32 × Mem) := (k29 σ0 x1 (y1 + y0) x3)
def f_X10_read_b87 (k29 : Mem → Int32 → Int32 → Int32 → Option (Int32 × Mem)) (σ0 : Mem) (x1 : Int32) (x2 : Int32) (y0 : Int32) : Option (Int32 × Mem) := (if y0 = (0 : Int32) then (f_X10_read_b98 k29 σ0 x1 y0 (0 : Int32) x2) else (f_X10_read_b98 k29 σ0 x1 y0 (1 : Int32) x2))
def f_X10_read_b29 : Nat → Mem → Int32 → Int32 → Int32 → Option (Int32 × Mem)
  | 0, _, _, _, _ => none
  | n29 + 1, σ0, x1, x2, x3 => (if x3 = (0 : Int32) then (some (x2, σ0)) else (ck x1 4 (if (σ0.1 66 x1.toNatClampNeg) < (((2 : Int32) * x2) + (2 : Int32)) then (some (x2, σ0)) else (ck (((60 : Int32) * x1) + ((2 : Int32) * x2)) 240 (ck ((((60 : Int32) * x1) + ((2 : Int32) * x2)) + (1 : Int32)) 240 (bi (f_X10_sham σ0 (σ0.1 67 (((60 : Int32) * x1) + ((2 : Int32) * x2)).toNatClampNeg) (σ0.1 67 ((((60 : Int32) * x1) + ((2 : Int32) * x2)) + (1 : Int32)).toNatClampNeg)) (fun v13 σ12 => (if v13 < (0 : Int32) then (f_X10_read_b87 (f_X10_read_b29 n29) σ12 x1 x2 (0 : Int32)) else (f_X10_read_b87 (f_X10_read_b29 n29) σ12 x1 x2 (1 : Int32))))))))))
def f_X10_read (σ0 : Mem) (a1 : Int32) : Option (Int32 × Mem) := (bp (f_X10_isSheet σ0 a1) (fun v2 => (if v2 = (0 : Int32) then (some ((-2 : Int32), σ0)) else (ck a1 4 (if (0 : Int32) ≤ (σ0.1 65 a1.toNatClampNeg) then (f_X10_read_b29 300 σ0 a1 (0 : Int32) (1 : Int32)) else (bi (f_X10_finds σ0 (1 : Int32)) (fun v18 σ17 => (some (v18, σ17)))))))))
set_option maxHeartbeats 4000000 in
set_option maxRecDepth 100000 in
theorem k_X10_read {l : Launch} {D : va_G} {cy : Nat → ClassId} {ad : Nat → Nat} {ta tb : Nat} (hI : AdI ad) (σ0 : Mem) (a1 : Int32) {o : Int32 × Mem} (h : f_X10_read σ0 a1 = some o) : Met l yX10_read (Cond.code yX10_read cX10_read 4 (some .int) :: wG) rm_X10_read (CP D cy ad ta tb σ0 [.ref (ad 64), .int a1]) (CQi D cy ad o.1 o.2) 0 0 (AA ad) := by
  refine Met.ofW (cc := cX10_read) (maxL := 4) (ret := (some .int)) (by decide) rfl ?_
  intro p e s m args below meth c s₁ B hml hv
  obtain ⟨rfl, hE, hP⟩ := hv
  have hts := atoms_spec (ws := Cond.code yX10_read cX10_read 4 (some .int) :: wG) B.pre
  have F : CallFix p m c cX10_read 4 s _ wG RX10 := ⟨B.exec, B.bytes, hml, findClass_of_methodNamed B.named, fun w hw => hts w (List.mem_cons_of_mem _ hw)⟩
  have hr := B.returns
  have hlocks := B.notSynchronized
  have hB : Bd D cy ad σ0 s.heap s.heap [] := ⟨hP, va_S.rf⟩
  have hl := lv_entry ([.ref (ad 64), .int a1] : List Value) (n := 4) (Nat.le_of_ble_eq_true rfl)
  rw [lg_entry_eq]
  generalize (lg_sl ([.ref (ad 64), .int a1] : List Value) ++ List.replicate (4 - (lg_sl ([.ref (ad 64), .int a1] : List Value)).length) Slot.unset).toArray = ls at hl ⊢
  have hl : lv_has ls 4 [(0, .ref (ad 64)), (1, .int a1)] := hl
  have B29 : ∀ (n29 : Nat) (σ0 : Mem) (H : Heap) (locs : List Loc) (ls : Array Slot) (x1 : Int32) (x2 : Int32) (x3 : Int32), f_X10_read_b29 n29 σ0 x1 x2 x3 = some o → Bd D cy ad σ0 s.heap H locs → lv_has ls 4 [(0, .ref (ad 64)), (1, .int x1), (2, .int x2), (3, .int x3)] → W p l e rm_X10_read s m ([.ref (ad 64), .int a1] : List Value).toArray below meth c H locs 0 0 (MQ below (CQi D cy ad o.1 o.2) ([.ref (ad 64), .int a1] : List Value).toArray s 0 0 (AA ad)) (F0 m 29 ls []) := by
    intro n29
    induction n29 with
    | zero => intro σ0 H locs ls x1 x2 x3 h hB hl; cases h
    | succ n29 ih29 =>
      have B98 : ∀ (σ0 : Mem) (H : Heap) (locs : List Loc) (ls : Array Slot) (x1 : Int32) (x3 : Int32) (y0 : Int32) (y1 : Int32), f_X10_read_b98 (f_X10_read_b29 n29) σ0 x1 x3 y0 y1 = some o → Bd D cy ad σ0 s.heap H locs → lv_has ls 4 [(0, .ref (ad 64)), (1, .int x1), (3, .int x3)] → W p l e rm_X10_read s m ([.ref (ad 64), .int a1] : List Value).toArray below meth c H locs 0 0 (MQ below (CQi D cy ad o.1 o.2) ([.ref (ad 64), .int a1] : List Value).toArray s 0 0 (AA ad)) (F0 m 98 ls [.int y0, .int y1]) := by
        intro σ0 H locs ls x1 x3 y0 y1 h hB hl
        unfold f_X10_read_b98 at h
        refine lv_iadd F.1 F.2.1 dX10_read_98 ?_
        refine lv_istore_n (lv' := [(2, .int (y1 + y0)), (0, .ref (ad 64)), (1, .int x1), (3, .int x3)]) F.1 F.2.1 dX10_read_99 rfl hl (by decide) rfl (fun ls hl => ?_)
        refine lv_goto (tgt := 29) F.1 F.2.1 dX10_read_100 (by decide) ?_
        exact ih29 σ0 _ _ _ x1 (y1 + y0) x3 h hB (lv_sub hl [1, 2, 0, 3] rfl)
      have B87 : ∀ (σ0 : Mem) (H : Heap) (locs : List Loc) (ls : Array Slot) (x1 : Int32) (x2 : Int32) (y0 : Int32), f_X10_read_b87 (f_X10_read_b29 n29) σ0 x1 x2 y0 = some o → Bd D cy ad σ0 s.heap H locs → lv_has ls 4 [(0, .ref (ad 64)), (1, .int x1), (2, .int x2)] → W p l e rm_X10_read s m ([.ref (ad 64), .int a1] : List Value).toArray below meth c H locs 0 0 (MQ below (CQi D cy ad o.1 o.2) ([.ref (ad 64), .int a1] : List Value).toArray s 0 0 (AA ad)) (F0 m 87 ls [.int y0]) := by
        intro σ0 H locs ls x1 x2 y0 h hB hl
        unfold f_X10_read_b87 at h
        refine lv_istore_n (lv' := [(3, .int y0), (0, .ref (ad 64)), (1, .int x1), (2, .int x2)]) F.1 F.2.1 dX10_read_87 rfl hl (by decide) rfl (fun ls hl => ?_)
        refine lv_iload_n F.1 F.2.1 dX10_read_88 rfl (lv_at hl 3 rfl) ?_
        refine lv_iload_n F.1 F.2.1 dX10_read_89 rfl (lv_at hl 0 rfl) ?_
        refine lv_if_eq (tgt := 97) F.1 F.2.1 dX10_read_90 (by decide) (fun c15 => ?_) (fun c15 => ?_)
        · replace h := it_e c15 h
          refine lv_iconst (v := 0) F.1 F.2.1 dX10_read_97 (by decide) ?_
          exact B98 σ0 _ _ _ x1 y0 (0 : Int32) x2 h hB (lv_sub hl [1, 2, 0] rfl)
        · replace h := ie_e c15 h
          refine lv_iconst (v := 1) F.1 F.2.1 dX10_read_93 (by decide) ?_
          refine lv_goto (tgt := 98) F.1 F.2.1 dX10_read_94 (by decide) ?_
          exact B98 σ0 _ _ _ x1 y0 (1 : Int32) x2 h hB (lv_sub hl [1, 2, 0] rfl)
      intro σ0 H locs ls x1 x2 x3 h hB hl
      rw [f_X10_read_b29] at h
      refine lv_iload_n F.1 F.2.1 dX10_read_29 rfl (lv_at hl 3 rfl) ?_
      refine lv_if_eq (tgt := 103) F.1 F.2.1 dX10_read_30 (by decide) (fun c6 => ?_) (fun c6 => ?_)
      · replace h := it_e c6 h
        refine lv_iload_n F.1 F.2.1 dX10_read_103 rfl (lv_at hl 2 rfl) ?_
        exact q_iret F hlocks hr hB (so1 h) (so2 h) dX10_read_104
      · replace h := ie_e c6 h
        refine lv_iconst (v := 2) F.1 F.2.1 dX10_read_33 (by decide) ?_
        refine lv_iload_n F.1 F.2.1 dX10_read_34 rfl (lv_at hl 2 rfl) ?_
        refine lv_imul F.1 F.2.1 dX10_read_35 ?_
        refine lv_iconst (v := 2) F.1 F.2.1 dX10_read_36 (by decide) ?_
        refine lv_iadd F.1 F.2.1 dX10_read_37 ?_
        refine lv_aload_n F.1 F.2.1 dX10_read_38 rfl (lv_at hl 0 rfl) ?_
        refine gf_RX10_13 F hE hB po_64 rfl dX10_read_39 ?_
        refine lv_iload_n F.1 F.2.1 dX10_read_42 rfl (lv_at hl 1 rfl) ?_
        obtain ⟨hi7, h⟩ := ck_e h
        refine q_iald F hE hB po_66 hi7 dX10_read_43 ?_
        refine lv_icmp_gt (tgt := 103) F.1 F.2.1 dX10_read_44 (by decide) (fun c8 => ?_) (fun c8 => ?_)
        · replace h := it_e c8 h
          refine lv_iload_n F.1 F.2.1 dX10_read_103 rfl (lv_at hl 2 rfl) ?_
          exact q_iret F hlocks hr hB (so1 h) (so2 h) dX10_read_104
        · replace h := ie_e c8 h
          refine lv_aload_n F.1 F.2.1 dX10_read_47 rfl (lv_at hl 0 rfl) ?_
          refine lv_aload_n F.1 F.2.1 dX10_read_48 rfl (lv_at hl 0 rfl) ?_
          refine gf_RX10_16 F hE hB po_64 rfl dX10_read_49 ?_
          refine lv_bipush (v := 60) F.1 F.2.1 dX10_read_52 (by decide) ?_
          refine lv_iload_n F.1 F.2.1 dX10_read_54 rfl (lv_at hl 1 rfl) ?_
          refine lv_imul F.1 F.2.1 dX10_read_55 ?_
          refine lv_iconst (v := 2) F.1 F.2.1 dX10_read_56 (by decide) ?_
          refine lv_iload_n F.1 F.2.1 dX10_read_57 rfl (lv_at hl 2 rfl) ?_
          refine lv_imul F.1 F.2.1 dX10_read_58 ?_
          refine lv_iadd F.1 F.2.1 dX10_read_59 ?_
          obtain ⟨hi9, h⟩ := ck_e h
          refine q_iald F hE hB po_67 hi9 dX10_read_60 ?_
          refine lv_aload_n F.1 F.2.1 dX10_read_61 rfl (lv_at hl 0 rfl) ?_
          refine gf_RX10_16 F hE hB po_64 rfl dX10_read_62 ?_
          refine lv_bipush (v := 60) F.1 F.2.1 dX10_read_65 (by decide) ?_
          refine lv_iload_n F.1 F.2.1 dX10_read_67 rfl (lv_at hl 1 rfl) ?_
          refine lv_imul F.1 F.2.1 dX10_read_68 ?_
          refine lv_iconst (v := 2) F.1 F.2.1 dX10_read_69 (by decide) ?_
          refine lv_iload_n F.1 F.2.1 dX10_read_70 rfl (lv_at hl 2 rfl) ?_
          refine lv_imul F.1 F.2.1 dX10_read_71 ?_
          refine lv_iadd F.1 F.2.1 dX10_read_72 ?_
          refine lv_iconst (v := 1) F.1 F.2.1 dX10_read_73 (by decide) ?_
          refine lv_iadd F.1 F.2.1 dX10_read_74 ?_
          obtain ⟨hi10, h⟩ := ck_e h
          refine q_iald F hE hB po_67 hi10 dX10_read_75 ?_
          obtain ⟨v13, σ12, hc11, h⟩ := bi_e h
          refine q_ci hB (q_goV F hE hB (k_X10_sham hI σ0 (σ0.1 67 (((60 : Int32) * x1) + ((2 : Int32) * x2)).toNatClampNeg) (σ0.1 67 ((((60 : Int32) * x1) + ((2 : Int32) * x2)) + (1 : Int32)).toNatClampNeg) hc11) (ca_RX10_147 F.2.2.2.2 ⟨Nat.le_of_ble_eq_true rfl, Nat.le_of_ble_eq_true rfl⟩) rfl po_64 rfl hl.1 rfl (Nat.le_of_ble_eq_true rfl) dX10_read_76 ⟨Nat.le_of_ble_eq_true rfl, Nat.le_of_ble_eq_true rfl⟩) (fun H locs hB => ?_)
          refine lv_if_lt (tgt := 86) F.1 F.2.1 dX10_read_79 (by decide) (fun c14 => ?_) (fun c14 => ?_)
          · replace h := it_e c14 h
            refine lv_iconst (v := 0) F.1 F.2.1 dX10_read_86 (by decide) ?_
            exact B87 σ12 _ _ _ x1 x2 (0 : Int32) h hB (lv_sub hl [0, 1, 2] rfl)
          · replace h := ie_e c14 h
            refine lv_iconst (v := 1) F.1 F.2.1 dX10_read_82 (by decide) ?_
            refine lv_goto (tgt := 87) F.1 F.2.1 dX10_read_83 (by decide) ?_
            exact B87 σ12 _ _ _ x1 x2 (1 : Int32) h hB (lv_sub hl [0, 1, 2] rfl)
  unfold f_X10_read at h
  refine lv_iload_n F.1 F.2.1 dX10_read_0 rfl (lv_at hl 1 rfl) ?_
  obtain ⟨v2, hc1, h⟩ := bp_e h
  refine q_ci hB (q_goS F hE hB (k_X10_isSheet hI σ0 a1 hc1) (ca_RX10_73 F.2.2.2.2 ⟨Nat.le_of_ble_eq_true rfl, Nat.le_of_ble_eq_true rfl⟩) rfl hl.1 rfl (Nat.le_of_ble_eq_true rfl) dX10_read_1 ⟨Nat.le_of_ble_eq_true rfl, Nat.le_of_ble_eq_true rfl⟩) (fun H locs hB => ?_)
  refine lv_if_ne (tgt := 10) F.1 F.2.1 dX10_read_4 (by decide) (fun c3 => ?_) (fun c3 => ?_)
  · replace h := ie_e c3 h
    refine lv_aload_n F.1 F.2.1 dX10_read_10 rfl (lv_at hl 0 rfl) ?_
    refine gf_RX10_7 F hE hB po_64 rfl dX10_read_11 ?_
    refine lv_iload_n F.1 F.2.1 dX10_read_14 rfl (lv_at hl 1 rfl) ?_
    obtain ⟨hi4, h⟩ := ck_e h
    refine q_iald F hE hB po_65 hi4 dX10_read_15 ?_
    refine lv_if_ge (tgt := 25) F.1 F.2.1 dX10_read_16 (by decide) (fun c5 => ?_) (fun c5 => ?_)
    · replace h := it_e c5 h
      refine lv_iconst (v := 0) F.1 F.2.1 dX10_read_25 (by decide) ?_
      refine lv_istore_n (lv' := [(2, .int (0 : Int32)), (0, .ref (ad 64)), (1, .int a1)]) F.1 F.2.1 dX10_read_26 rfl hl (by decide) rfl (fun ls hl => ?_)
      refine lv_iconst (v := 1) F.1 F.2.1 dX10_read_27 (by decide) ?_
      refine lv_istore_n (lv' := [(3, .int (1 : Int32)), (2, .int (0 : Int32)), (0, .ref (ad 64)), (1, .int a1)]) F.1 F.2.1 dX10_read_28 rfl hl (by decide) rfl (fun ls hl => ?_)
      exact B29 300 σ0 _ _ _ a1 (0 : Int32) (1 : Int32) h hB (lv_sub hl [2, 3, 1, 0] rfl)
    · replace h := ie_e c5 h
      refine lv_aload_n F.1 F.2.1 dX10_read_19 rfl (lv_at hl 0 rfl) ?_
      refine lv_iconst (v := 1) F.1 F.2.1 dX10_read_20 (by decide) ?_
      obtain ⟨v18, σ17, hc16, h⟩ := bi_e h
      refine q_ci hB (q_goV F hE hB (k_X10_finds hI σ0 (1 : Int32) hc16) (ca_RX10_79 F.2.2.2.2 ⟨Nat.le_of_ble_eq_true rfl, Nat.le_of_ble_eq_true rfl⟩) rfl po_64 rfl hl.1 rfl (Nat.le_of_ble_eq_true rfl) dX10_read_21 ⟨Nat.le_of_ble_eq_true rfl, Nat.le_of_ble_eq_true rfl⟩) (fun H locs hB => ?_)
      exact q_iret F hlocks hr hB (so1 h) (so2 h) dX10_read_24
  · replace h := it_e c3 h
    refine lv_bipush (v := (-2)) F.1 F.2.1 dX10_read_7 (by decide) ?_
    exact q_iret F hlocks hr hB (so1 h) (so2 h) dX10_read_9
def f_X10_carries_b78 (σ0 : Mem) (k16 : Int32 → Int32 → Int32 → Int32 → Int32 → Option (Int32)) (x1 : Int32) (x2 : Int32) (x3 : Int32) (x5 : Int32) (y0 : Int32) (y1 : Int32) : Option (Int32) := (k16 x1 x2 x3 (y1 + y0) (x5 + (1 : Int32)))
def f_X10_carries_b77 (σ0 : Mem) (k16 : Int32 → Int32 → Int32 → Int32 → Int32 → Option (Int32)) (x1 : Int32) (x2 : Int32) (x3 : Int32) (x5 : Int32) (y0 : Int32) : Option (Int32) := (f_X10_carries_b78 σ0 k16 x1 x2 x3 x5 (0 : Int32) y0)
def f_X10_carries_b16 (σ0 : Mem) : Nat → Int32 → Int32 → Int32 → Int32 → Int32 → Option (Int32)
  | 0, _, _, _, _, _ => none
  | n16 + 1, x1, x2, x3, x4, x5 => (if (σ0.1 64 11) ≤ x5 then (some x4) else (if (x1 - x1 / (2 : Int32) * (2 : Int32)) = (0 : Int32) then (bp (f_X10_isIn σ0 (σ0.1 64 13) x5) (fun v5 => (if v5 = (0 : Int32) then (f_X10_carries_b77 σ0 (f_X10_carries_b16 σ0 n16) x1 x2 x3 x5 x4) else (ck ((2 : Int32) * x5) 16 (if (σ0.1 73 ((2 : Int32) * x5).toNatClampNeg) = x2 then (ck (((2 : Int32) * x5) + (1 : Int32)) 16 (if (σ0.1 73 (((2 : Int32) * x5) + (1 : Int32)).toNatClampNeg) = x3 then (f_X10_carries_b78 σ0 (f_X10_carries_b16 σ0 n16) x1 x2 x3 x5 (1 : Int32) x4) else (f_X10_carries_b77 σ0 (f_X10_carries_b16 σ0 n16) x1 x2 x3 x5 x4))) else (f_X10_carries_b77 σ0 (f_X10_carries_b16 σ0 n16) x1 x2 x3 x5 x4)))))) else (f_X10_carries_b77 σ0 (f_X10_carries_b16 σ0 n16) x1 x2 x3 x5 x4)))
def f_X10_carries (σ0 : Mem) (a1 : Int32) (a2 : Int32) (a3 : Int32) : Option (Int32) := (ck (((7 : Int32) * a2) + a3) 56 (f_X10_carries_b16 σ0 300 a1 a2 a3 (σ0.1 72 (((7 : Int32) * a2) + a3).toNatClampNeg) (0 : Int32)))
set_option maxHeartbeats 4000000 in
set_option maxRecDepth 100000 in
theorem k_X10_carries {l : Launch} {D : va_G} {cy : Nat → ClassId} {ad : Nat → Nat} {ta tb : Nat} (hI : AdI ad) (σ0 : Mem) (a1 : Int32) (a2 : Int32) (a3 : Int32) {o : Int32} (h : f_X10_carries σ0 a1 a2 a3 = some o) : Met l yX10_carries (Cond.code yX10_carries cX10_carries 6 (some .int) :: wG) rm_X10_carries (CP D cy ad ta tb σ0 [.ref (ad 64), .int a1, .int a2, .int a3]) (CQi D cy ad o σ0) 0 0 (AA ad) := by
  refine Met.ofW (cc := cX10_carries) (maxL := 6) (ret := (some .int)) (by decide) rfl ?_
  intro p e s m args below meth c s₁ B hml hv
  obtain ⟨rfl, hE, hP⟩ := hv
  have hts := atoms_spec (ws := Cond.code yX10_carries cX10_carries 6 (some .int) :: wG) B.pre
  have F : CallFix p m c cX10_carries 6 s _ wG RX10 := ⟨B.exec, B.bytes, hml, findClass_of_methodNamed B.named, fun w hw => hts w (List.mem_cons_of_mem _ hw)⟩
  have hr := B.returns
  have hlocks := B.notSynchronized
  have hB : Bd D cy ad σ0 s.heap s.heap [] := ⟨hP, va_S.rf⟩
  have hl := lv_entry ([.ref (ad 64), .int a1, .int a2, .int a3] : List Value) (n := 6) (Nat.le_of_ble_eq_true rfl)
  rw [lg_entry_eq]
  generalize (lg_sl ([.ref (ad 64), .int a1, .int a2, .int a3] : List Value) ++ List.replicate (6 - (lg_sl ([.ref (ad 64), .int a1, .int a2, .int a3] : List Value)).length) Slot.unset).toArray = ls at hl ⊢
  have hl : lv_has ls 6 [(0, .ref (ad 64)), (1, .int a1), (2, .int a2), (3, .int a3)] := hl
  have B16 : ∀ (n16 : Nat) (H : Heap) (locs : List Loc) (ls : Array Slot) (x1 : Int32) (x2 : Int32) (x3 : Int32) (x4 : Int32) (x5 : Int32), f_X10_carries_b16 σ0 n16 x1 x2 x3 x4 x5 = some o → Bd D cy ad σ0 s.heap H locs → lv_has ls 6 [(0, .ref (ad 64)), (1, .int x1), (2, .int x2), (3, .int x3), (4, .int x4), (5, .int x5)] → W p l e rm_X10_carries s m ([.ref (ad 64), .int a1, .int a2, .int a3] : List Value).toArray below meth c H locs 0 0 (MQ below (CQi D cy ad o σ0) ([.ref (ad 64), .int a1, .int a2, .int a3] : List Value).toArray s 0 0 (AA ad)) (F0 m 16 ls []) := by
    intro n16
    induction n16 with
    | zero => intro H locs ls x1 x2 x3 x4 x5 h hB hl; cases h
    | succ n16 ih16 =>
      have B78 : ∀ (H : Heap) (locs : List Loc) (ls : Array Slot) (x1 : Int32) (x2 : Int32) (x3 : Int32) (x5 : Int32) (y0 : Int32) (y1 : Int32), f_X10_carries_b78 σ0 (f_X10_carries_b16 σ0 n16) x1 x2 x3 x5 y0 y1 = some o → Bd D cy ad σ0 s.heap H locs → lv_has ls 6 [(0, .ref (ad 64)), (1, .int x1), (2, .int x2), (3, .int x3), (5, .int x5)] → W p l e rm_X10_carries s m ([.ref (ad 64), .int a1, .int a2, .int a3] : List Value).toArray below meth c H locs 0 0 (MQ below (CQi D cy ad o σ0) ([.ref (ad 64), .int a1, .int a2, .int a3] : List Value).toArray s 0 0 (AA ad)) (F0 m 78 ls [.int y0, .int y1]) := by
        intro H locs ls x1 x2 x3 x5 y0 y1 h hB hl
        unfold f_X10_carries_b78 at h
        refine lv_iadd F.1 F.2.1 dX10_carries_78 ?_
        refine lv_istore (lv' := [(4, .int (y1 + y0)), (0, .ref (ad 64)), (1, .int x1), (2, .int x2), (3, .int x3), (5, .int x5)]) F.1 F.2.1 dX10_carries_79 hl (by decide) rfl (fun ls hl => ?_)
        refine lv_iinc (v := (x5 + (1 : Int32))) (lv' := [(5, .int (x5 + (1 : Int32))), (4, .int (y1 + y0)), (0, .ref (ad 64)), (1, .int x1), (2, .int x2), (3, .int x3)]) F.1 F.2.1 dX10_carries_81 hl (k := 5) rfl rfl (by decide) rfl (fun ls hl => ?_)
        refine lv_goto (tgt := 16) F.1 F.2.1 dX10_carries_84 (by decide) ?_
        exact ih16 _ _ _ x1 x2 x3 (y1 + y0) (x5 + (1 : Int32)) h hB (lv_sub hl [2, 3, 4, 5, 1, 0] rfl)
      have B77 : ∀ (H : Heap) (locs : List Loc) (ls : Array Slot) (x1 : Int32) (x2 : Int32) (x3 : Int32) (x5 : Int32) (y0 : Int32), f_X10_carries_b77 σ0 (f_X10_carries_b16 σ0 n16) x1 x2 x3 x5 y0 = some o → Bd D cy ad σ0 s.heap H locs → lv_has ls 6 [(0, .ref (ad 64)), (1, .int x1), (2, .int x2), (3, .int x3), (5, .int x5)] → W p l e rm_X10_carries s m ([.ref (ad 64), .int a1, .int a2, .int a3] : List Value).toArray below meth c H locs 0 0 (MQ below (CQi D cy ad o σ0) ([.ref (ad 64), .int a1, .int a2, .int a3] : List Value).toArray s 0 0 (AA ad)) (F0 m 77 ls [.int y0]) := by
        intro H locs ls x1 x2 x3 x5 y0 h hB hl
        unfold f_X10_carries_b77 at h
        refine lv_iconst (v := 0) F.1 F.2.1 dX10_carries_77 (by decide) ?_
        exact B78 _ _ _ x1 x2 x3 x5 (0 : Int32) y0 h hB (lv_sub hl [0, 1, 2, 3, 4] rfl)
      intro H locs ls x1 x2 x3 x4 x5 h hB hl
      rw [f_X10_carries_b16] at h
      refine lv_iload F.1 F.2.1 dX10_carries_16 (lv_at hl 5 rfl) ?_
      refine lv_aload_n F.1 F.2.1 dX10_carries_18 rfl (lv_at hl 0 rfl) ?_
      refine gf_RX10_144 F hE hB po_64 rfl dX10_carries_19 ?_
      refine lv_icmp_ge (tgt := 87) F.1 F.2.1 dX10_carries_22 (by decide) (fun c2 => ?_) (fun c2 => ?_)
      · replace h := it_e c2 h
        refine lv_iload F.1 F.2.1 dX10_carries_87 (lv_at hl 4 rfl) ?_
        exact q_iret F hlocks hr hB (Option.some.inj h) rfl dX10_carries_89
      · replace h := ie_e c2 h
        refine lv_iload F.1 F.2.1 dX10_carries_25 (lv_at hl 4 rfl) ?_
        refine lv_iload_n F.1 F.2.1 dX10_carries_27 rfl (lv_at hl 1 rfl) ?_
        refine lv_iconst (v := 2) F.1 F.2.1 dX10_carries_28 (by decide) ?_
        refine lv_irem F.1 F.2.1 dX10_carries_29 (by decide) ?_
        refine lv_if_ne (tgt := 77) F.1 F.2.1 dX10_carries_30 (by decide) (fun c3 => ?_) (fun c3 => ?_)
        · replace h := ie_e c3 h
          exact B77 _ _ _ x1 x2 x3 x5 x4 h hB (lv_sub hl [0, 1, 2, 3, 5] rfl)
        · replace h := it_e c3 h
          refine lv_aload_n F.1 F.2.1 dX10_carries_33 rfl (lv_at hl 0 rfl) ?_
          refine gf_RX10_59 F hE hB po_64 rfl dX10_carries_34 ?_
          refine lv_iload F.1 F.2.1 dX10_carries_37 (lv_at hl 5 rfl) ?_
          obtain ⟨v5, hc4, h⟩ := bp_e h
          refine q_ci hB (q_goS F hE hB (k_X10_isIn hI σ0 (σ0.1 64 13) x5 hc4) (ca_RX10_149 F.2.2.2.2 ⟨Nat.le_of_ble_eq_true rfl, Nat.le_of_ble_eq_true rfl⟩) rfl hl.1 rfl (Nat.le_of_ble_eq_true rfl) dX10_carries_39 ⟨Nat.le_of_ble_eq_true rfl, Nat.le_of_ble_eq_true rfl⟩) (fun H locs hB => ?_)
          refine lv_if_eq (tgt := 77) F.1 F.2.1 dX10_carries_42 (by decide) (fun c6 => ?_) (fun c6 => ?_)
          · replace h := it_e c6 h
            exact B77 _ _ _ x1 x2 x3 x5 x4 h hB (lv_sub hl [0, 1, 2, 3, 5] rfl)
          · replace h := ie_e c6 h
            refine lv_aload_n F.1 F.2.1 dX10_carries_45 rfl (lv_at hl 0 rfl) ?_
            refine gf_RX10_34 F hE hB po_64 rfl dX10_carries_46 ?_
            refine lv_iconst (v := 2) F.1 F.2.1 dX10_carries_49 (by decide) ?_
            refine lv_iload F.1 F.2.1 dX10_carries_50 (lv_at hl 5 rfl) ?_
            refine lv_imul F.1 F.2.1 dX10_carries_52 ?_
            obtain ⟨hi7, h⟩ := ck_e h
            refine q_iald F hE hB po_73 hi7 dX10_carries_53 ?_
            refine lv_iload_n F.1 F.2.1 dX10_carries_54 rfl (lv_at hl 2 rfl) ?_
            refine lv_icmp_ne (tgt := 77) F.1 F.2.1 dX10_carries_55 (by decide) (fun c8 => ?_) (fun c8 => ?_)
            · replace h := ie_e c8 h
              exact B77 _ _ _ x1 x2 x3 x5 x4 h hB (lv_sub hl [0, 1, 2, 3, 5] rfl)
            · replace h := it_e c8 h
              refine lv_aload_n F.1 F.2.1 dX10_carries_58 rfl (lv_at hl 0 rfl) ?_
              refine gf_RX10_34 F hE hB po_64 rfl dX10_carries_59 ?_
              refine lv_iconst (v := 2) F.1 F.2.1 dX10_carries_62 (by decide) ?_
              refine lv_iload F.1 F.2.1 dX10_carries_63 (lv_at hl 5 rfl) ?_
              refine lv_imul F.1 F.2.1 dX10_carries_65 ?_
              refine lv_iconst (v := 1) F.1 F.2.1 dX10_carries_66 (by decide) ?_
              refine lv_iadd F.1 F.2.1 dX10_carries_67 ?_
              obtain ⟨hi9, h⟩ := ck_e h
              refine q_iald F hE hB po_73 hi9 dX10_carries_68 ?_
              refine lv_iload_n F.1 F.2.1 dX10_carries_69 rfl (lv_at hl 3 rfl) ?_
              refine lv_icmp_ne (tgt := 77) F.1 F.2.1 dX10_carries_70 (by decide) (fun c10 => ?_) (fun c10 => ?_)
              · replace h := ie_e c10 h
                exact B77 _ _ _ x1 x2 x3 x5 x4 h hB (lv_sub hl [0, 1, 2, 3, 5] rfl)
              · replace h := it_e c10 h
                refine lv_iconst (v := 1) F.1 F.2.1 dX10_carries_73 (by decide) ?_
                refine lv_goto (tgt := 78) F.1 F.2.1 dX10_carries_74 (by decide) ?_
                exact B78 _ _ _ x1 x2 x3 x5 (1 : Int32) x4 h hB (lv_sub hl [0, 1, 2, 3, 5] rfl)
  unfold f_X10_carries at h
  refine lv_aload_n F.1 F.2.1 dX10_carries_0 rfl (lv_at hl 0 rfl) ?_
  refine gf_RX10_31 F hE hB po_64 rfl dX10_carries_1 ?_
  refine lv_bipush (v := 7) F.1 F.2.1 dX10_carries_4 (by decide) ?_
  refine lv_iload_n F.1 F.2.1 dX10_carries_6 rfl (lv_at hl 2 rfl) ?_
  refine lv_imul F.1 F.2.1 dX10_carries_7 ?_
  refine lv_iload_n F.1 F.2.1 dX10_carries_8 rfl (lv_at hl 3 rfl) ?_
  refine lv_iadd F.1 F.2.1 dX10_carries_9 ?_
  obtain ⟨hi1, h⟩ := ck_e h
  refine q_iald F hE hB po_72 hi1 dX10_carries_10 ?_
  refine lv_istore (lv' := [(4, .int (σ0.1 72 (((7 : Int32) * a2) + a3).toNatClampNeg)), (0, .ref (ad 64)), (1, .int a1), (2, .int a2), (3, .int a3)]) F.1 F.2.1 dX10_carries_11 hl (by decide) rfl (fun ls hl => ?_)
  refine lv_iconst (v := 0) F.1 F.2.1 dX10_carries_13 (by decide) ?_
  refine lv_istore (lv' := [(5, .int (0 : Int32)), (4, .int (σ0.1 72 (((7 : Int32) * a2) + a3).toNatClampNeg)), (0, .ref (ad 64)), (1, .int a1), (2, .int a2), (3, .int a3)]) F.1 F.2.1 dX10_carries_14 hl (by decide) rfl (fun ls hl => ?_)
  exact B16 300 _ _ _ a1 a2 a3 (σ0.1 72 (((7 : Int32) * a2) + a3).toNatClampNeg) (0 : Int32) h hB (lv_sub hl [2, 3, 4, 5, 1, 0] rfl)
def f_X10_isLifted_b83 (σ0 : Mem) : Nat → Int32 → Int32 → Int32 → Int32 → Int32 → Int32 → Option (Int32)
  | 0, _, _, _, _, _, _ => none
  | n83 + 1, x1, x2, x3, x4, x5, x6 => (if (6 : Int32) ≤ x6 then (if x5 < ((3 : Int32) * x4) then (some (0 : Int32)) else (if x3 ≤ (0 : Int32) then (some (0 : Int32)) else (some (1 : Int32)))) else (bp (f_X10_carries σ0 x1 x2 x6) (fun v11 => (f_X10_isLifted_b83 σ0 n83 x1 x2 x3 x4 (x5 + ((x6 + (1 : Int32)) * v11)) (x6 + (1 : Int32))))))
def f_X10_isLifted_b68 (σ0 : Mem) (y0 : Int32) (y1 : Int32) : Option (Int32) := (if y1 = y0 then (some (1 : Int32)) else (some (0 : Int32)))
def f_X10_isLifted_b52 (σ0 : Mem) (x1 : Int32) (y0 : Int32) : Option (Int32) := (ck ((3 : Int32) * x1) 24 (if (σ0.1 71 ((3 : Int32) * x1).toNatClampNeg) = (0 : Int32) then (f_X10_isLifted_b68 σ0 (1 : Int32) y0) else (f_X10_isLifted_b68 σ0 (0 : Int32) y0)))
def f_X10_isLifted (σ0 : Mem) (a1 : Int32) (a2 : Int32) : Option (Int32) := (ck (((3 : Int32) * a1) + (1 : Int32)) 24 (bp (f_X10_carries σ0 a1 a2 (σ0.1 71 (((3 : Int32) * a1) + (1 : Int32)).toNatClampNeg)) (fun v3 => (ck (((3 : Int32) * a1) + (2 : Int32)) 24 (ck ((3 : Int32) * a1) 24 (if (2 : Int32) ≤ (σ0.1 71 ((3 : Int32) * a1).toNatClampNeg) then (f_X10_isLifted_b83 σ0 300 a1 a2 v3 (σ0.1 71 (((3 : Int32) * a1) + (2 : Int32)).toNatClampNeg) (0 : Int32) (0 : Int32)) else (if v3 < (σ0.1 71 (((3 : Int32) * a1) + (2 : Int32)).toNatClampNeg) then (f_X10_isLifted_b52 σ0 a1 (0 : Int32)) else (f_X10_isLifted_b52 σ0 a1 (1 : Int32)))))))))
set_option maxHeartbeats 4000000 in
set_option maxRecDepth 100000 in
theorem k_X10_isLifted {l : Launch} {D : va_G} {cy : Nat → ClassId} {ad : Nat → Nat} {ta tb : Nat} (hI : AdI ad) (σ0 : Mem) (a1 : Int32) (a2 : Int32) {o : Int32} (h : f_X10_isLifted σ0 a1 a2 = some o) : Met l yX10_isLifted (Cond.code yX10_isLifted cX10_isLifted 7 (some .boolean) :: wG) rm_X10_isLifted (CP D cy ad ta tb σ0 [.ref (ad 64), .int a1, .int a2]) (CQi D cy ad o σ0) 0 0 (AA ad) := by
  refine Met.ofW (cc := cX10_isLifted) (maxL := 7) (ret := (some .boolean)) (by decide) rfl ?_
  intro p e s m args below meth c s₁ B hml hv
  obtain ⟨rfl, hE, hP⟩ := hv
  have hts := atoms_spec (ws := Cond.code yX10_isLifted cX10_isLifted 7 (some .boolean) :: wG) B.pre
  have F : CallFix p m c cX10_isLifted 7 s _ wG RX10 := ⟨B.exec, B.bytes, hml, findClass_of_methodNamed B.named, fun w hw => hts w (List.mem_cons_of_mem _ hw)⟩
  have hr := B.returns
  have hlocks := B.notSynchronized
  have hB : Bd D cy ad σ0 s.heap s.heap [] := ⟨hP, va_S.rf⟩
  have hl := lv_entry ([.ref (ad 64), .int a1, .int a2] : List Value) (n := 7) (Nat.le_of_ble_eq_true rfl)
  rw [lg_entry_eq]
  generalize (lg_sl ([.ref (ad 64), .int a1, .int a2] : List Value) ++ List.replicate (7 - (lg_sl ([.ref (ad 64), .int a1, .int a2] : List Value)).length) Slot.unset).toArray = ls at hl ⊢
  have hl : lv_has ls 7 [(0, .ref (ad 64)), (1, .int a1), (2, .int a2)] := hl
  have B83 : ∀ (n83 : Nat) (H : Heap) (locs : List Loc) (ls : Array Slot) (x1 : Int32) (x2 : Int32) (x3 : Int32) (x4 : Int32) (x5 : Int32) (x6 : Int32), f_X10_isLifted_b83 σ0 n83 x1 x2 x3 x4 x5 x6 = some o → Bd D cy ad σ0 s.heap H locs → lv_has ls 7 [(0, .ref (ad 64)), (1, .int x1), (2, .int x2), (3, .int x3), (4, .int x4), (5, .int x5), (6, .int x6)] → W p l e rm_X10_isLifted s m ([.ref (ad 64), .int a1, .int a2] : List Value).toArray below meth c H locs 0 0 (MQ below (CQi D cy ad o σ0) ([.ref (ad 64), .int a1, .int a2] : List Value).toArray s 0 0 (AA ad)) (F0 m 83 ls []) := by
    intro n83
    induction n83 with
    | zero => intro H locs ls x1 x2 x3 x4 x5 x6 h hB hl; cases h
    | succ n83 ih83 =>
      intro H locs ls x1 x2 x3 x4 x5 x6 h hB hl
      rw [f_X10_isLifted_b83] at h
      refine lv_iload F.1 F.2.1 dX10_isLifted_83 (lv_at hl 6 rfl) ?_
      refine lv_bipush (v := 6) F.1 F.2.1 dX10_isLifted_85 (by decide) ?_
      refine lv_icmp_ge (tgt := 114) F.1 F.2.1 dX10_isLifted_87 (by decide) (fun c7 => ?_) (fun c7 => ?_)
      · replace h := it_e c7 h
        refine lv_iload F.1 F.2.1 dX10_isLifted_114 (lv_at hl 5 rfl) ?_
        refine lv_iconst (v := 3) F.1 F.2.1 dX10_isLifted_116 (by decide) ?_
        refine lv_iload F.1 F.2.1 dX10_isLifted_117 (lv_at hl 4 rfl) ?_
        refine lv_imul F.1 F.2.1 dX10_isLifted_119 ?_
        refine lv_icmp_lt (tgt := 131) F.1 F.2.1 dX10_isLifted_120 (by decide) (fun c8 => ?_) (fun c8 => ?_)
        · replace h := it_e c8 h
          refine lv_iconst (v := 0) F.1 F.2.1 dX10_isLifted_131 (by decide) ?_
          exact q_zret F hlocks hr rfl hB (Option.some.inj h) rfl dX10_isLifted_132
        · replace h := ie_e c8 h
          refine lv_iload_n F.1 F.2.1 dX10_isLifted_123 rfl (lv_at hl 3 rfl) ?_
          refine lv_if_le (tgt := 131) F.1 F.2.1 dX10_isLifted_124 (by decide) (fun c9 => ?_) (fun c9 => ?_)
          · replace h := it_e c9 h
            refine lv_iconst (v := 0) F.1 F.2.1 dX10_isLifted_131 (by decide) ?_
            exact q_zret F hlocks hr rfl hB (Option.some.inj h) rfl dX10_isLifted_132
          · replace h := ie_e c9 h
            refine lv_iconst (v := 1) F.1 F.2.1 dX10_isLifted_127 (by decide) ?_
            refine lv_goto (tgt := 132) F.1 F.2.1 dX10_isLifted_128 (by decide) ?_
            exact q_zret F hlocks hr rfl hB (Option.some.inj h) rfl dX10_isLifted_132
      · replace h := ie_e c7 h
        refine lv_iload F.1 F.2.1 dX10_isLifted_90 (lv_at hl 5 rfl) ?_
        refine lv_iload F.1 F.2.1 dX10_isLifted_92 (lv_at hl 6 rfl) ?_
        refine lv_iconst (v := 1) F.1 F.2.1 dX10_isLifted_94 (by decide) ?_
        refine lv_iadd F.1 F.2.1 dX10_isLifted_95 ?_
        refine lv_aload_n F.1 F.2.1 dX10_isLifted_96 rfl (lv_at hl 0 rfl) ?_
        refine lv_iload_n F.1 F.2.1 dX10_isLifted_97 rfl (lv_at hl 1 rfl) ?_
        refine lv_iload_n F.1 F.2.1 dX10_isLifted_98 rfl (lv_at hl 2 rfl) ?_
        refine lv_iload F.1 F.2.1 dX10_isLifted_99 (lv_at hl 6 rfl) ?_
        obtain ⟨v11, hc10, h⟩ := bp_e h
        refine q_ci hB (q_goV F hE hB (k_X10_carries hI σ0 x1 x2 x6 hc10) (ca_RX10_153 F.2.2.2.2 ⟨Nat.le_of_ble_eq_true rfl, Nat.le_of_ble_eq_true rfl⟩) rfl po_64 rfl hl.1 rfl (Nat.le_of_ble_eq_true rfl) dX10_isLifted_101 ⟨Nat.le_of_ble_eq_true rfl, Nat.le_of_ble_eq_true rfl⟩) (fun H locs hB => ?_)
        refine lv_imul F.1 F.2.1 dX10_isLifted_104 ?_
        refine lv_iadd F.1 F.2.1 dX10_isLifted_105 ?_
        refine lv_istore (lv' := [(5, .int (x5 + ((x6 + (1 : Int32)) * v11))), (0, .ref (ad 64)), (1, .int x1), (2, .int x2), (3, .int x3), (4, .int x4), (6, .int x6)]) F.1 F.2.1 dX10_isLifted_106 hl (by decide) rfl (fun ls hl => ?_)
        refine lv_iinc (v := (x6 + (1 : Int32))) (lv' := [(6, .int (x6 + (1 : Int32))), (5, .int (x5 + ((x6 + (1 : Int32)) * v11))), (0, .ref (ad 64)), (1, .int x1), (2, .int x2), (3, .int x3), (4, .int x4)]) F.1 F.2.1 dX10_isLifted_108 hl (k := 6) rfl rfl (by decide) rfl (fun ls hl => ?_)
        refine lv_goto (tgt := 83) F.1 F.2.1 dX10_isLifted_111 (by decide) ?_
        exact ih83 _ _ _ x1 x2 x3 x4 (x5 + ((x6 + (1 : Int32)) * v11)) (x6 + (1 : Int32)) h hB (lv_sub hl [2, 3, 4, 5, 6, 1, 0] rfl)
  have B68 : ∀ (H : Heap) (locs : List Loc) (ls : Array Slot) (y0 : Int32) (y1 : Int32), f_X10_isLifted_b68 σ0 y0 y1 = some o → Bd D cy ad σ0 s.heap H locs → lv_has ls 7 [] → W p l e rm_X10_isLifted s m ([.ref (ad 64), .int a1, .int a2] : List Value).toArray below meth c H locs 0 0 (MQ below (CQi D cy ad o σ0) ([.ref (ad 64), .int a1, .int a2] : List Value).toArray s 0 0 (AA ad)) (F0 m 68 ls [.int y0, .int y1]) := by
    intro H locs ls y0 y1 h hB hl
    unfold f_X10_isLifted_b68 at h
    refine lv_icmp_ne (tgt := 75) F.1 F.2.1 dX10_isLifted_68 (by decide) (fun c15 => ?_) (fun c15 => ?_)
    · replace h := ie_e c15 h
      refine lv_iconst (v := 0) F.1 F.2.1 dX10_isLifted_75 (by decide) ?_
      exact q_zret F hlocks hr rfl hB (Option.some.inj h) rfl dX10_isLifted_76
    · replace h := it_e c15 h
      refine lv_iconst (v := 1) F.1 F.2.1 dX10_isLifted_71 (by decide) ?_
      refine lv_goto (tgt := 76) F.1 F.2.1 dX10_isLifted_72 (by decide) ?_
      exact q_zret F hlocks hr rfl hB (Option.some.inj h) rfl dX10_isLifted_76
  have B52 : ∀ (H : Heap) (locs : List Loc) (ls : Array Slot) (x1 : Int32) (y0 : Int32), f_X10_isLifted_b52 σ0 x1 y0 = some o → Bd D cy ad σ0 s.heap H locs → lv_has ls 7 [(0, .ref (ad 64)), (1, .int x1)] → W p l e rm_X10_isLifted s m ([.ref (ad 64), .int a1, .int a2] : List Value).toArray below meth c H locs 0 0 (MQ below (CQi D cy ad o σ0) ([.ref (ad 64), .int a1, .int a2] : List Value).toArray s 0 0 (AA ad)) (F0 m 52 ls [.int y0]) := by
    intro H locs ls x1 y0 h hB hl
    unfold f_X10_isLifted_b52 at h
    refine lv_aload_n F.1 F.2.1 dX10_isLifted_52 rfl (lv_at hl 0 rfl) ?_
    refine gf_RX10_28 F hE hB po_64 rfl dX10_isLifted_53 ?_
    refine lv_iconst (v := 3) F.1 F.2.1 dX10_isLifted_56 (by decide) ?_
    refine lv_iload_n F.1 F.2.1 dX10_isLifted_57 rfl (lv_at hl 1 rfl) ?_
    refine lv_imul F.1 F.2.1 dX10_isLifted_58 ?_
    obtain ⟨hi13, h⟩ := ck_e h
    refine q_iald F hE hB po_71 hi13 dX10_isLifted_59 ?_
    refine lv_if_ne (tgt := 67) F.1 F.2.1 dX10_isLifted_60 (by decide) (fun c14 => ?_) (fun c14 => ?_)
    · replace h := ie_e c14 h
      refine lv_iconst (v := 0) F.1 F.2.1 dX10_isLifted_67 (by decide) ?_
      exact B68 _ _ _ (0 : Int32) y0 h hB (lv_sub hl [] rfl)
    · replace h := it_e c14 h
      refine lv_iconst (v := 1) F.1 F.2.1 dX10_isLifted_63 (by decide) ?_
      refine lv_goto (tgt := 68) F.1 F.2.1 dX10_isLifted_64 (by decide) ?_
      exact B68 _ _ _ (1 : Int32) y0 h hB (lv_sub hl [] rfl)
  unfold f_X10_isLifted at h
  refine lv_aload_n F.1 F.2.1 dX10_isLifted_0 rfl (lv_at hl 0 rfl) ?_
  refine lv_iload_n F.1 F.2.1 dX10_isLifted_1 rfl (lv_at hl 1 rfl) ?_
  refine lv_iload_n F.1 F.2.1 dX10_isLifted_2 rfl (lv_at hl 2 rfl) ?_
  refine lv_aload_n F.1 F.2.1 dX10_isLifted_3 rfl (lv_at hl 0 rfl) ?_
  refine gf_RX10_28 F hE hB po_64 rfl dX10_isLifted_4 ?_
  refine lv_iconst (v := 3) F.1 F.2.1 dX10_isLifted_7 (by decide) ?_
  refine lv_iload_n F.1 F.2.1 dX10_isLifted_8 rfl (lv_at hl 1 rfl) ?_
  refine lv_imul F.1 F.2.1 dX10_isLifted_9 ?_
  refine lv_iconst (v := 1) F.1 F.2.1 dX10_isLifted_10 (by decide) ?_
  refine lv_iadd F.1 F.2.1 dX10_isLifted_11 ?_
  obtain ⟨hi1, h⟩ := ck_e h
  refine q_iald F hE hB po_71 hi1 dX10_isLifted_12 ?_
  obtain ⟨v3, hc2, h⟩ := bp_e h
  refine q_ci hB (q_goV F hE hB (k_X10_carries hI σ0 a1 a2 (σ0.1 71 (((3 : Int32) * a1) + (1 : Int32)).toNatClampNeg) hc2) (ca_RX10_153 F.2.2.2.2 ⟨Nat.le_of_ble_eq_true rfl, Nat.le_of_ble_eq_true rfl⟩) rfl po_64 rfl hl.1 rfl (Nat.le_of_ble_eq_true rfl) dX10_isLifted_13 ⟨Nat.le_of_ble_eq_true rfl, Nat.le_of_ble_eq_true rfl⟩) (fun H locs hB => ?_)
  refine lv_istore_n (lv' := [(3, .int v3), (0, .ref (ad 64)), (1, .int a1), (2, .int a2)]) F.1 F.2.1 dX10_isLifted_16 rfl hl (by decide) rfl (fun ls hl => ?_)
  refine lv_aload_n F.1 F.2.1 dX10_isLifted_17 rfl (lv_at hl 1 rfl) ?_
  refine gf_RX10_28 F hE hB po_64 rfl dX10_isLifted_18 ?_
  refine lv_iconst (v := 3) F.1 F.2.1 dX10_isLifted_21 (by decide) ?_
  refine lv_iload_n F.1 F.2.1 dX10_isLifted_22 rfl (lv_at hl 2 rfl) ?_
  refine lv_imul F.1 F.2.1 dX10_isLifted_23 ?_
  refine lv_iconst (v := 2) F.1 F.2.1 dX10_isLifted_24 (by decide) ?_
  refine lv_iadd F.1 F.2.1 dX10_isLifted_25 ?_
  obtain ⟨hi4, h⟩ := ck_e h
  refine q_iald F hE hB po_71 hi4 dX10_isLifted_26 ?_
  refine lv_istore (lv' := [(4, .int (σ0.1 71 (((3 : Int32) * a1) + (2 : Int32)).toNatClampNeg)), (3, .int v3), (0, .ref (ad 64)), (1, .int a1), (2, .int a2)]) F.1 F.2.1 dX10_isLifted_27 hl (by decide) rfl (fun ls hl => ?_)
  refine lv_aload_n F.1 F.2.1 dX10_isLifted_29 rfl (lv_at hl 2 rfl) ?_
  refine gf_RX10_28 F hE hB po_64 rfl dX10_isLifted_30 ?_
  refine lv_iconst (v := 3) F.1 F.2.1 dX10_isLifted_33 (by decide) ?_
  refine lv_iload_n F.1 F.2.1 dX10_isLifted_34 rfl (lv_at hl 3 rfl) ?_
  refine lv_imul F.1 F.2.1 dX10_isLifted_35 ?_
  obtain ⟨hi5, h⟩ := ck_e h
  refine q_iald F hE hB po_71 hi5 dX10_isLifted_36 ?_
  refine lv_iconst (v := 2) F.1 F.2.1 dX10_isLifted_37 (by decide) ?_
  refine lv_icmp_ge (tgt := 77) F.1 F.2.1 dX10_isLifted_38 (by decide) (fun c6 => ?_) (fun c6 => ?_)
  · replace h := it_e c6 h
    refine lv_iconst (v := 0) F.1 F.2.1 dX10_isLifted_77 (by decide) ?_
    refine lv_istore (lv' := [(5, .int (0 : Int32)), (4, .int (σ0.1 71 (((3 : Int32) * a1) + (2 : Int32)).toNatClampNeg)), (3, .int v3), (0, .ref (ad 64)), (1, .int a1), (2, .int a2)]) F.1 F.2.1 dX10_isLifted_78 hl (by decide) rfl (fun ls hl => ?_)
    refine lv_iconst (v := 0) F.1 F.2.1 dX10_isLifted_80 (by decide) ?_
    refine lv_istore (lv' := [(6, .int (0 : Int32)), (5, .int (0 : Int32)), (4, .int (σ0.1 71 (((3 : Int32) * a1) + (2 : Int32)).toNatClampNeg)), (3, .int v3), (0, .ref (ad 64)), (1, .int a1), (2, .int a2)]) F.1 F.2.1 dX10_isLifted_81 hl (by decide) rfl (fun ls hl => ?_)
    exact B83 300 _ _ _ a1 a2 v3 (σ0.1 71 (((3 : Int32) * a1) + (2 : Int32)).toNatClampNeg) (0 : Int32) (0 : Int32) h hB (lv_sub hl [4, 5, 6, 3, 2, 1, 0] rfl)
  · replace h := ie_e c6 h
    refine lv_iload_n F.1 F.2.1 dX10_isLifted_41 rfl (lv_at hl 1 rfl) ?_
    refine lv_iload F.1 F.2.1 dX10_isLifted_42 (lv_at hl 0 rfl) ?_
    refine lv_icmp_lt (tgt := 51) F.1 F.2.1 dX10_isLifted_44 (by decide) (fun c12 => ?_) (fun c12 => ?_)
    · replace h := it_e c12 h
      refine lv_iconst (v := 0) F.1 F.2.1 dX10_isLifted_51 (by decide) ?_
      exact B52 _ _ _ a1 (0 : Int32) h hB (lv_sub hl [2, 3] rfl)
    · replace h := ie_e c12 h
      refine lv_iconst (v := 1) F.1 F.2.1 dX10_isLifted_47 (by decide) ?_
      refine lv_goto (tgt := 52) F.1 F.2.1 dX10_isLifted_48 (by decide) ?_
      exact B52 _ _ _ a1 (1 : Int32) h hB (lv_sub hl [2, 3] rfl)
def f_X10_lifts_b20 (σ0 : Mem) : Option (Int32 × Mem) := (some ((-2 : Int32), σ0))
def f_X10_lifts (σ0 : Mem) (a1 : Int32) (a2 : Int32) : Option (Int32 × Mem) := (bv (f_X10_find σ0) (fun σ2 => (bp (f_X10_isBridge σ2 a1) (fun v4 => (if v4 = (0 : Int32) then (f_X10_lifts_b20 σ2) else (bp (f_X10_isBoat σ2 a2) (fun v7 => (if v7 = (0 : Int32) then (f_X10_lifts_b20 σ2) else (bp (f_X10_isLifted σ2 a1 a2) (fun v10 => (if v10 = (0 : Int32) then (some ((0 : Int32), σ2)) else (some ((1 : Int32), σ2)))))))))))))
set_option maxHeartbeats 4000000 in
set_option maxRecDepth 100000 in
theorem k_X10_lifts {l : Launch} {D : va_G} {cy : Nat → ClassId} {ad : Nat → Nat} {ta tb : Nat} (hI : AdI ad) (σ0 : Mem) (a1 : Int32) (a2 : Int32) {o : Int32 × Mem} (h : f_X10_lifts σ0 a1 a2 = some o) : Met l yX10_lifts (Cond.code yX10_lifts cX10_lifts 3 (some .int) :: wG) rm_X10_lifts (CP D cy ad ta tb σ0 [.ref (ad 64), .int a1, .int a2]) (CQi D cy ad o.1 o.2) 0 0 (AA ad) := by
  refine Met.ofW (cc := cX10_lifts) (maxL := 3) (ret := (some .int)) (by decide) rfl ?_
  intro p e s m args below meth c s₁ B hml hv
  obtain ⟨rfl, hE, hP⟩ := hv
  have hts := atoms_spec (ws := Cond.code yX10_lifts cX10_lifts 3 (some .int) :: wG) B.pre
  have F : CallFix p m c cX10_lifts 3 s _ wG RX10 := ⟨B.exec, B.bytes, hml, findClass_of_methodNamed B.named, fun w hw => hts w (List.mem_cons_of_mem _ hw)⟩
  have hr := B.returns
  have hlocks := B.notSynchronized
  have hB : Bd D cy ad σ0 s.heap s.heap [] := ⟨hP, va_S.rf⟩
  have hl := lv_entry ([.ref (ad 64), .int a1, .int a2] : List Value) (n := 3) (Nat.le_of_ble_eq_true rfl)
  rw [lg_entry_eq]
  generalize (lg_sl ([.ref (ad 64), .int a1, .int a2] : List Value) ++ List.replicate (3 - (lg_sl ([.ref (ad 64), .int a1, .int a2] : List Value)).length) Slot.unset).toArray = ls at hl ⊢
  have hl : lv_has ls 3 [(0, .ref (ad 64)), (1, .int a1), (2, .int a2)] := hl
  have B20 : ∀ (σ0 : Mem) (H : Heap) (locs : List Loc) (ls : Array Slot), f_X10_lifts_b20 σ0 = some o → Bd D cy ad σ0 s.heap H locs → lv_has ls 3 [] → W p l e rm_X10_lifts s m ([.ref (ad 64), .int a1, .int a2] : List Value).toArray below meth c H locs 0 0 (MQ below (CQi D cy ad o.1 o.2) ([.ref (ad 64), .int a1, .int a2] : List Value).toArray s 0 0 (AA ad)) (F0 m 20 ls []) := by
    intro σ0 H locs ls h hB hl
    unfold f_X10_lifts_b20 at h
    refine lv_bipush (v := (-2)) F.1 F.2.1 dX10_lifts_20 (by decide) ?_
    refine lv_goto (tgt := 39) F.1 F.2.1 dX10_lifts_22 (by decide) ?_
    exact q_iret F hlocks hr hB (so1 h) (so2 h) dX10_lifts_39
  unfold f_X10_lifts at h
  refine lv_aload_n F.1 F.2.1 dX10_lifts_0 rfl (lv_at hl 0 rfl) ?_
  obtain ⟨σ2, hc1, h⟩ := bv_e h
  refine q_cv hB (q_goV F hE hB (k_X10_find hI σ0 hc1) (ca_RX10_129 F.2.2.2.2 ⟨Nat.le_of_ble_eq_true rfl, Nat.le_of_ble_eq_true rfl⟩) rfl po_64 rfl hl.1 rfl (Nat.le_of_ble_eq_true rfl) dX10_lifts_1 ⟨Nat.le_of_ble_eq_true rfl, Nat.le_of_ble_eq_true rfl⟩) (fun H locs hB => ?_)
  refine lv_aload_n F.1 F.2.1 dX10_lifts_4 rfl (lv_at hl 0 rfl) ?_
  refine lv_iload_n F.1 F.2.1 dX10_lifts_5 rfl (lv_at hl 1 rfl) ?_
  obtain ⟨v4, hc3, h⟩ := bp_e h
  refine q_ci hB (q_goV F hE hB (k_X10_isBridge hI σ2 a1 hc3) (ca_RX10_132 F.2.2.2.2 ⟨Nat.le_of_ble_eq_true rfl, Nat.le_of_ble_eq_true rfl⟩) rfl po_64 rfl hl.1 rfl (Nat.le_of_ble_eq_true rfl) dX10_lifts_6 ⟨Nat.le_of_ble_eq_true rfl, Nat.le_of_ble_eq_true rfl⟩) (fun H locs hB => ?_)
  refine lv_if_eq (tgt := 20) F.1 F.2.1 dX10_lifts_9 (by decide) (fun c5 => ?_) (fun c5 => ?_)
  · replace h := it_e c5 h
    exact B20 σ2 _ _ _ h hB (lv_sub hl [] rfl)
  · replace h := ie_e c5 h
    refine lv_aload_n F.1 F.2.1 dX10_lifts_12 rfl (lv_at hl 0 rfl) ?_
    refine lv_iload_n F.1 F.2.1 dX10_lifts_13 rfl (lv_at hl 2 rfl) ?_
    obtain ⟨v7, hc6, h⟩ := bp_e h
    refine q_ci hB (q_goV F hE hB (k_X10_isBoat hI σ2 a2 hc6) (ca_RX10_135 F.2.2.2.2 ⟨Nat.le_of_ble_eq_true rfl, Nat.le_of_ble_eq_true rfl⟩) rfl po_64 rfl hl.1 rfl (Nat.le_of_ble_eq_true rfl) dX10_lifts_14 ⟨Nat.le_of_ble_eq_true rfl, Nat.le_of_ble_eq_true rfl⟩) (fun H locs hB => ?_)
    refine lv_if_ne (tgt := 25) F.1 F.2.1 dX10_lifts_17 (by decide) (fun c8 => ?_) (fun c8 => ?_)
    · replace h := ie_e c8 h
      refine lv_aload_n F.1 F.2.1 dX10_lifts_25 rfl (lv_at hl 0 rfl) ?_
      refine lv_iload_n F.1 F.2.1 dX10_lifts_26 rfl (lv_at hl 1 rfl) ?_
      refine lv_iload_n F.1 F.2.1 dX10_lifts_27 rfl (lv_at hl 2 rfl) ?_
      obtain ⟨v10, hc9, h⟩ := bp_e h
      refine q_ci hB (q_goV F hE hB (k_X10_isLifted hI σ2 a1 a2 hc9) (ca_RX10_156 F.2.2.2.2 ⟨Nat.le_of_ble_eq_true rfl, Nat.le_of_ble_eq_true rfl⟩) rfl po_64 rfl hl.1 rfl (Nat.le_of_ble_eq_true rfl) dX10_lifts_28 ⟨Nat.le_of_ble_eq_true rfl, Nat.le_of_ble_eq_true rfl⟩) (fun H locs hB => ?_)
      refine lv_if_eq (tgt := 38) F.1 F.2.1 dX10_lifts_31 (by decide) (fun c11 => ?_) (fun c11 => ?_)
      · replace h := it_e c11 h
        refine lv_iconst (v := 0) F.1 F.2.1 dX10_lifts_38 (by decide) ?_
        exact q_iret F hlocks hr hB (so1 h) (so2 h) dX10_lifts_39
      · replace h := ie_e c11 h
        refine lv_iconst (v := 1) F.1 F.2.1 dX10_lifts_34 (by decide) ?_
        refine lv_goto (tgt := 39) F.1 F.2.1 dX10_lifts_35 (by decide) ?_
        exact q_iret F hlocks hr hB (so1 h) (so2 h) dX10_lifts_39
    · replace h := it_e c8 h
      exact B20 σ2 _ _ _ h hB (lv_sub hl [] rfl)
def f_X10_places_b17 (σ0 : Mem) (y0 : Int32) (y1 : Int32) : Option (Int32) := (some (y1 - y0))
def f_X10_places (σ0 : Mem) : Option (Int32) := (if (σ0.1 64 14) = (-1 : Int32) then (f_X10_places_b17 σ0 (0 : Int32) (σ0.1 64 7)) else (f_X10_places_b17 σ0 (1 : Int32) (σ0.1 64 7)))
set_option maxHeartbeats 4000000 in
set_option maxRecDepth 100000 in
theorem k_X10_places {l : Launch} {D : va_G} {cy : Nat → ClassId} {ad : Nat → Nat} {ta tb : Nat} (hI : AdI ad) (σ0 : Mem) {o : Int32} (h : f_X10_places σ0 = some o) : Met l yX10_places (Cond.code yX10_places cX10_places 1 (some .int) :: wG) rm_X10_places (CP D cy ad ta tb σ0 [.ref (ad 64)]) (CQi D cy ad o σ0) 0 0 (AA ad) := by
  refine Met.ofW (cc := cX10_places) (maxL := 1) (ret := (some .int)) (by decide) rfl ?_
  intro p e s m args below meth c s₁ B hml hv
  obtain ⟨rfl, hE, hP⟩ := hv
  have hts := atoms_spec (ws := Cond.code yX10_places cX10_places 1 (some .int) :: wG) B.pre
  have F : CallFix p m c cX10_places 1 s _ wG RX10 := ⟨B.exec, B.bytes, hml, findClass_of_methodNamed B.named, fun w hw => hts w (List.mem_cons_of_mem _ hw)⟩
  have hr := B.returns
  have hlocks := B.notSynchronized
  have hB : Bd D cy ad σ0 s.heap s.heap [] := ⟨hP, va_S.rf⟩
  have hl := lv_entry ([.ref (ad 64)] : List Value) (n := 1) (Nat.le_of_ble_eq_true rfl)
  rw [lg_entry_eq]
  generalize (lg_sl ([.ref (ad 64)] : List Value) ++ List.replicate (1 - (lg_sl ([.ref (ad 64)] : List Value)).length) Slot.unset).toArray = ls at hl ⊢
  have hl : lv_has ls 1 [(0, .ref (ad 64))] := hl
  have B17 : ∀ (H : Heap) (locs : List Loc) (ls : Array Slot) (y0 : Int32) (y1 : Int32), f_X10_places_b17 σ0 y0 y1 = some o → Bd D cy ad σ0 s.heap H locs → lv_has ls 1 [] → W p l e rm_X10_places s m ([.ref (ad 64)] : List Value).toArray below meth c H locs 0 0 (MQ below (CQi D cy ad o σ0) ([.ref (ad 64)] : List Value).toArray s 0 0 (AA ad)) (F0 m 17 ls [.int y0, .int y1]) := by
    intro H locs ls y0 y1 h hB hl
    unfold f_X10_places_b17 at h
    refine lv_isub F.1 F.2.1 dX10_places_17 ?_
    exact q_iret F hlocks hr hB (Option.some.inj h) rfl dX10_places_18
  unfold f_X10_places at h
  refine lv_aload_n F.1 F.2.1 dX10_places_0 rfl (lv_at hl 0 rfl) ?_
  refine gf_RX10_105 F hE hB po_64 rfl dX10_places_1 ?_
  refine lv_aload_n F.1 F.2.1 dX10_places_4 rfl (lv_at hl 0 rfl) ?_
  refine gf_RX10_55 F hE hB po_64 rfl dX10_places_5 ?_
  refine lv_iconst (v := (-1)) F.1 F.2.1 dX10_places_8 (by decide) ?_
  refine lv_icmp_ne (tgt := 16) F.1 F.2.1 dX10_places_9 (by decide) (fun c1 => ?_) (fun c1 => ?_)
  · replace h := ie_e c1 h
    refine lv_iconst (v := 1) F.1 F.2.1 dX10_places_16 (by decide) ?_
    exact B17 _ _ _ (1 : Int32) (σ0.1 64 7) h hB (lv_sub hl [] rfl)
  · replace h := it_e c1 h
    refine lv_iconst (v := 0) F.1 F.2.1 dX10_places_12 (by decide) ?_
    refine lv_goto (tgt := 17) F.1 F.2.1 dX10_places_13 (by decide) ?_
    exact B17 _ _ _ (0 : Int32) (σ0.1 64 7) h hB (lv_sub hl [] rfl)
def f_X10_standing (σ0 : Mem) (a1 : Int32) : Option (Int32) := (if (σ0.1 64 14) = (-1 : Int32) then (some a1) else (if a1 < (σ0.1 64 14) then (some a1) else (some (a1 + (1 : Int32)))))
set_option maxHeartbeats 4000000 in
set_option maxRecDepth 100000 in
theorem k_X10_standing {l : Launch} {D : va_G} {cy : Nat → ClassId} {ad : Nat → Nat} {ta tb : Nat} (hI : AdI ad) (σ0 : Mem) (a1 : Int32) {o : Int32} (h : f_X10_standing σ0 a1 = some o) : Met l yX10_standing (Cond.code yX10_standing cX10_standing 2 (some .int) :: wG) rm_X10_standing (CP D cy ad ta tb σ0 [.ref (ad 64), .int a1]) (CQi D cy ad o σ0) 0 0 (AA ad) := by
  refine Met.ofW (cc := cX10_standing) (maxL := 2) (ret := (some .int)) (by decide) rfl ?_
  intro p e s m args below meth c s₁ B hml hv
  obtain ⟨rfl, hE, hP⟩ := hv
  have hts := atoms_spec (ws := Cond.code yX10_standing cX10_standing 2 (some .int) :: wG) B.pre
  have F : CallFix p m c cX10_standing 2 s _ wG RX10 := ⟨B.exec, B.bytes, hml, findClass_of_methodNamed B.named, fun w hw => hts w (List.mem_cons_of_mem _ hw)⟩
  have hr := B.returns
  have hlocks := B.notSynchronized
  have hB : Bd D cy ad σ0 s.heap s.heap [] := ⟨hP, va_S.rf⟩
  have hl := lv_entry ([.ref (ad 64), .int a1] : List Value) (n := 2) (Nat.le_of_ble_eq_true rfl)
  rw [lg_entry_eq]
  generalize (lg_sl ([.ref (ad 64), .int a1] : List Value) ++ List.replicate (2 - (lg_sl ([.ref (ad 64), .int a1] : List Value)).length) Slot.unset).toArray = ls at hl ⊢
  have hl : lv_has ls 2 [(0, .ref (ad 64)), (1, .int a1)] := hl
  unfold f_X10_standing at h
  refine lv_aload_n F.1 F.2.1 dX10_standing_0 rfl (lv_at hl 0 rfl) ?_
  refine gf_RX10_55 F hE hB po_64 rfl dX10_standing_1 ?_
  refine lv_iconst (v := (-1)) F.1 F.2.1 dX10_standing_4 (by decide) ?_
  refine lv_icmp_eq (tgt := 22) F.1 F.2.1 dX10_standing_5 (by decide) (fun c1 => ?_) (fun c1 => ?_)
  · replace h := it_e c1 h
    refine lv_iload_n F.1 F.2.1 dX10_standing_22 rfl (lv_at hl 1 rfl) ?_
    exact q_iret F hlocks hr hB (Option.some.inj h) rfl dX10_standing_23
  · replace h := ie_e c1 h
    refine lv_iload_n F.1 F.2.1 dX10_standing_8 rfl (lv_at hl 1 rfl) ?_
    refine lv_aload_n F.1 F.2.1 dX10_standing_9 rfl (lv_at hl 0 rfl) ?_
    refine gf_RX10_55 F hE hB po_64 rfl dX10_standing_10 ?_
    refine lv_icmp_lt (tgt := 22) F.1 F.2.1 dX10_standing_13 (by decide) (fun c2 => ?_) (fun c2 => ?_)
    · replace h := it_e c2 h
      refine lv_iload_n F.1 F.2.1 dX10_standing_22 rfl (lv_at hl 1 rfl) ?_
      exact q_iret F hlocks hr hB (Option.some.inj h) rfl dX10_standing_23
    · replace h := ie_e c2 h
      refine lv_iload_n F.1 F.2.1 dX10_standing_16 rfl (lv_at hl 1 rfl) ?_
      refine lv_iconst (v := 1) F.1 F.2.1 dX10_standing_17 (by decide) ?_
      refine lv_iadd F.1 F.2.1 dX10_standing_18 ?_
      refine lv_goto (tgt := 23) F.1 F.2.1 dX10_standing_19 (by decide) ?_
      exact q_iret F hlocks hr hB (Option.some.inj h) rfl dX10_standing_23
