def f_X10_in (σ0 : Mem) (a0 : Int64) (a2 : Int64) (a4 : Int64) : Option (Int32) := (if (lg_cmp a0 a2) < (0 : Int32) then (some (0 : Int32)) else (if (0 : Int32) < (lg_cmp a0 a4) then (some (0 : Int32)) else (some (1 : Int32))))
set_option maxHeartbeats 4000000 in
set_option maxRecDepth 100000 in
theorem k_X10_in {l : Launch} {D : va_G} {cy : Nat → ClassId} {ad : Nat → Nat} {ta tb : Nat} (hI : AdI ad) (σ0 : Mem) (a0 : Int64) (a2 : Int64) (a4 : Int64) {o : Int32} (h : f_X10_in σ0 a0 a2 a4 = some o) : Met l yX10_in (Cond.code yX10_in cX10_in 6 (some .boolean) :: wG) rm_X10_in (CP D cy ad ta tb σ0 [.long a0, .long a2, .long a4]) (CQi D cy ad o σ0) 0 0 (AA ad) := by
  refine Met.ofW (cc := cX10_in) (maxL := 6) (ret := (some .boolean)) (by decide) rfl ?_
  intro p e s m args below meth c s₁ B hml hv
  obtain ⟨rfl, hE, hP⟩ := hv
  have hts := atoms_spec (ws := Cond.code yX10_in cX10_in 6 (some .boolean) :: wG) B.pre
  have F : CallFix p m c cX10_in 6 s _ wG RX10 := ⟨B.exec, B.bytes, hml, findClass_of_methodNamed B.named, fun w hw => hts w (List.mem_cons_of_mem _ hw)⟩
  have hr := B.returns
  have hlocks := B.notSynchronized
  have hB : Bd D cy ad σ0 s.heap s.heap [] := ⟨hP, va_S.rf⟩
  have hl := lv_entry ([.long a0, .long a2, .long a4] : List Value) (n := 6) (Nat.le_of_ble_eq_true rfl)
  rw [lg_entry_eq]
  generalize (lg_sl ([.long a0, .long a2, .long a4] : List Value) ++ List.replicate (6 - (lg_sl ([.long a0, .long a2, .long a4] : List Value)).length) Slot.unset).toArray = ls at hl ⊢
  have hl : lv_has ls 6 [(0, .long a0), (2, .long a2), (4, .long a4)] := hl
  unfold f_X10_in at h
  refine lv_lload_n F.1 F.2.1 dX10_in_0 rfl (lv_at hl 0 rfl) ?_
  refine lv_lload_n F.1 F.2.1 dX10_in_1 rfl (lv_at hl 1 rfl) ?_
  refine W.lcmp F.1 F.2.1 dX10_in_2 ?_
  refine lv_if_lt (tgt := 17) F.1 F.2.1 dX10_in_3 (by decide) (fun c1 => ?_) (fun c1 => ?_)
  · replace h := it_e c1 h
    refine lv_iconst (v := 0) F.1 F.2.1 dX10_in_17 (by decide) ?_
    exact q_zret F hlocks hr rfl hB (Option.some.inj h) rfl dX10_in_18
  · replace h := ie_e c1 h
    refine lv_lload_n F.1 F.2.1 dX10_in_6 rfl (lv_at hl 0 rfl) ?_
    refine lv_lload F.1 F.2.1 dX10_in_7 (lv_at hl 2 rfl) ?_
    refine W.lcmp F.1 F.2.1 dX10_in_9 ?_
    refine lv_if_gt (tgt := 17) F.1 F.2.1 dX10_in_10 (by decide) (fun c2 => ?_) (fun c2 => ?_)
    · replace h := it_e c2 h
      refine lv_iconst (v := 0) F.1 F.2.1 dX10_in_17 (by decide) ?_
      exact q_zret F hlocks hr rfl hB (Option.some.inj h) rfl dX10_in_18
    · replace h := ie_e c2 h
      refine lv_iconst (v := 1) F.1 F.2.1 dX10_in_13 (by decide) ?_
      refine lv_goto (tgt := 18) F.1 F.2.1 dX10_in_14 (by decide) ?_
      exact q_zret F hlocks hr rfl hB (Option.some.inj h) rfl dX10_in_18
def f_X10_no (σ0 : Mem) (a0 : Int32) : Option (Int64) := (some ((-9223372036854775808 : Int64) - a0.toInt64))
set_option maxHeartbeats 4000000 in
set_option maxRecDepth 100000 in
theorem k_X10_no {l : Launch} {D : va_G} {cy : Nat → ClassId} {ad : Nat → Nat} {ta tb : Nat} (hI : AdI ad) (σ0 : Mem) (a0 : Int32) {o : Int64} (h : f_X10_no σ0 a0 = some o) : Met l yX10_no (Cond.code yX10_no cX10_no 1 (some .long) :: wG) rm_X10_no (CP D cy ad ta tb σ0 [.int a0]) (CQl D cy ad o σ0) 0 0 (AA ad) := by
  refine Met.ofW (cc := cX10_no) (maxL := 1) (ret := (some .long)) (by decide) rfl ?_
  intro p e s m args below meth c s₁ B hml hv
  obtain ⟨rfl, hE, hP⟩ := hv
  have hts := atoms_spec (ws := Cond.code yX10_no cX10_no 1 (some .long) :: wG) B.pre
  have F : CallFix p m c cX10_no 1 s _ wG RX10 := ⟨B.exec, B.bytes, hml, findClass_of_methodNamed B.named, fun w hw => hts w (List.mem_cons_of_mem _ hw)⟩
  have hr := B.returns
  have hlocks := B.notSynchronized
  have hB : Bd D cy ad σ0 s.heap s.heap [] := ⟨hP, va_S.rf⟩
  have hl := lv_entry ([.int a0] : List Value) (n := 1) (Nat.le_of_ble_eq_true rfl)
  rw [lg_entry_eq]
  generalize (lg_sl ([.int a0] : List Value) ++ List.replicate (1 - (lg_sl ([.int a0] : List Value)).length) Slot.unset).toArray = ls at hl ⊢
  have hl : lv_has ls 1 [(0, .int a0)] := hl
  unfold f_X10_no at h
  refine lv_ldc2 (v := (-9223372036854775808)) F.1 F.2.1 F.2.2.2.1 (F.2.2.2.2 _ wm_k_RX10_62) dX10_no_0 ?_
  refine lv_iload_n F.1 F.2.1 dX10_no_3 rfl (lv_at hl 0 rfl) ?_
  refine lv_i2l F.1 F.2.1 dX10_no_4 rfl ?_
  refine lv_lsub F.1 F.2.1 dX10_no_5 ?_
  exact q_lret F hlocks hr hB (Option.some.inj h) rfl dX10_no_6
def f_X10_isTwo (σ0 : Mem) (a0 : Int32) : Option (Int32) := (bp (f_X10_in σ0 a0.toInt64 (0 : Int64) (1 : Int64)) (fun v2 => (cb v2 (some v2))))
set_option maxHeartbeats 4000000 in
set_option maxRecDepth 100000 in
theorem k_X10_isTwo {l : Launch} {D : va_G} {cy : Nat → ClassId} {ad : Nat → Nat} {ta tb : Nat} (hI : AdI ad) (σ0 : Mem) (a0 : Int32) {o : Int32} (h : f_X10_isTwo σ0 a0 = some o) : Met l yX10_isTwo (Cond.code yX10_isTwo cX10_isTwo 1 (some .boolean) :: wG) rm_X10_isTwo (CP D cy ad ta tb σ0 [.int a0]) (CQi D cy ad o σ0) 0 0 (AA ad) := by
  refine Met.ofW (cc := cX10_isTwo) (maxL := 1) (ret := (some .boolean)) (by decide) rfl ?_
  intro p e s m args below meth c s₁ B hml hv
  obtain ⟨rfl, hE, hP⟩ := hv
  have hts := atoms_spec (ws := Cond.code yX10_isTwo cX10_isTwo 1 (some .boolean) :: wG) B.pre
  have F : CallFix p m c cX10_isTwo 1 s _ wG RX10 := ⟨B.exec, B.bytes, hml, findClass_of_methodNamed B.named, fun w hw => hts w (List.mem_cons_of_mem _ hw)⟩
  have hr := B.returns
  have hlocks := B.notSynchronized
  have hB : Bd D cy ad σ0 s.heap s.heap [] := ⟨hP, va_S.rf⟩
  have hl := lv_entry ([.int a0] : List Value) (n := 1) (Nat.le_of_ble_eq_true rfl)
  rw [lg_entry_eq]
  generalize (lg_sl ([.int a0] : List Value) ++ List.replicate (1 - (lg_sl ([.int a0] : List Value)).length) Slot.unset).toArray = ls at hl ⊢
  have hl : lv_has ls 1 [(0, .int a0)] := hl
  unfold f_X10_isTwo at h
  refine lv_iload_n F.1 F.2.1 dX10_isTwo_0 rfl (lv_at hl 0 rfl) ?_
  refine lv_i2l F.1 F.2.1 dX10_isTwo_1 rfl ?_
  refine lv_lconst (v := 0) F.1 F.2.1 dX10_isTwo_2 (by decide) ?_
  refine lv_lconst (v := 1) F.1 F.2.1 dX10_isTwo_3 (by decide) ?_
  obtain ⟨v2, hc1, h⟩ := bp_e h
  refine q_ci hB (q_goS F hE hB (k_X10_in hI σ0 a0.toInt64 (0 : Int64) (1 : Int64) hc1) (ca_RX10_64 F.2.2.2.2 ⟨Nat.le_of_ble_eq_true rfl, Nat.le_of_ble_eq_true rfl⟩) rfl hl.1 rfl (Nat.le_of_ble_eq_true rfl) dX10_isTwo_4 ⟨Nat.le_of_ble_eq_true rfl, Nat.le_of_ble_eq_true rfl⟩) (fun H locs hB => ?_)
  obtain ⟨hn3, h⟩ := cb_e h
  exact q_zret F hlocks hr hn3 hB (Option.some.inj h) rfl dX10_isTwo_7
def f_X10_isIn (σ0 : Mem) (a0 : Int32) (a1 : Int32) : Option (Int32) := (if ((a0 >>> (a1 &&& 31)) &&& (1 : Int32)) = (1 : Int32) then (some (1 : Int32)) else (some (0 : Int32)))
set_option maxHeartbeats 4000000 in
set_option maxRecDepth 100000 in
theorem k_X10_isIn {l : Launch} {D : va_G} {cy : Nat → ClassId} {ad : Nat → Nat} {ta tb : Nat} (hI : AdI ad) (σ0 : Mem) (a0 : Int32) (a1 : Int32) {o : Int32} (h : f_X10_isIn σ0 a0 a1 = some o) : Met l yX10_isIn (Cond.code yX10_isIn cX10_isIn 2 (some .boolean) :: wG) rm_X10_isIn (CP D cy ad ta tb σ0 [.int a0, .int a1]) (CQi D cy ad o σ0) 0 0 (AA ad) := by
  refine Met.ofW (cc := cX10_isIn) (maxL := 2) (ret := (some .boolean)) (by decide) rfl ?_
  intro p e s m args below meth c s₁ B hml hv
  obtain ⟨rfl, hE, hP⟩ := hv
  have hts := atoms_spec (ws := Cond.code yX10_isIn cX10_isIn 2 (some .boolean) :: wG) B.pre
  have F : CallFix p m c cX10_isIn 2 s _ wG RX10 := ⟨B.exec, B.bytes, hml, findClass_of_methodNamed B.named, fun w hw => hts w (List.mem_cons_of_mem _ hw)⟩
  have hr := B.returns
  have hlocks := B.notSynchronized
  have hB : Bd D cy ad σ0 s.heap s.heap [] := ⟨hP, va_S.rf⟩
  have hl := lv_entry ([.int a0, .int a1] : List Value) (n := 2) (Nat.le_of_ble_eq_true rfl)
  rw [lg_entry_eq]
  generalize (lg_sl ([.int a0, .int a1] : List Value) ++ List.replicate (2 - (lg_sl ([.int a0, .int a1] : List Value)).length) Slot.unset).toArray = ls at hl ⊢
  have hl : lv_has ls 2 [(0, .int a0), (1, .int a1)] := hl
  unfold f_X10_isIn at h
  refine lv_iload_n F.1 F.2.1 dX10_isIn_0 rfl (lv_at hl 0 rfl) ?_
  refine lv_iload_n F.1 F.2.1 dX10_isIn_1 rfl (lv_at hl 1 rfl) ?_
  refine lv_ishr F.1 F.2.1 dX10_isIn_2 ?_
  refine lv_iconst (v := 1) F.1 F.2.1 dX10_isIn_3 (by decide) ?_
  refine lv_iand F.1 F.2.1 dX10_isIn_4 ?_
  refine lv_iconst (v := 1) F.1 F.2.1 dX10_isIn_5 (by decide) ?_
  refine lv_icmp_ne (tgt := 13) F.1 F.2.1 dX10_isIn_6 (by decide) (fun c1 => ?_) (fun c1 => ?_)
  · replace h := ie_e c1 h
    refine lv_iconst (v := 0) F.1 F.2.1 dX10_isIn_13 (by decide) ?_
    exact q_zret F hlocks hr rfl hB (Option.some.inj h) rfl dX10_isIn_14
  · replace h := it_e c1 h
    refine lv_iconst (v := 1) F.1 F.2.1 dX10_isIn_9 (by decide) ?_
    refine lv_goto (tgt := 14) F.1 F.2.1 dX10_isIn_10 (by decide) ?_
    exact q_zret F hlocks hr rfl hB (Option.some.inj h) rfl dX10_isIn_14
def f_X10_ones_b4 (σ0 : Mem) : Nat → Int32 → Int32 → Option (Int32)
  | 0, _, _ => none
  | n4 + 1, x1, x2 => (if x2 = (0 : Int32) then (some x1) else (f_X10_ones_b4 σ0 n4 (x1 + (1 : Int32)) (x2 &&& (x2 - (1 : Int32)))))
def f_X10_ones (σ0 : Mem) (a0 : Int32) : Option (Int32) := (f_X10_ones_b4 σ0 300 (0 : Int32) a0)
set_option maxHeartbeats 4000000 in
set_option maxRecDepth 100000 in
theorem k_X10_ones {l : Launch} {D : va_G} {cy : Nat → ClassId} {ad : Nat → Nat} {ta tb : Nat} (hI : AdI ad) (σ0 : Mem) (a0 : Int32) {o : Int32} (h : f_X10_ones σ0 a0 = some o) : Met l yX10_ones (Cond.code yX10_ones cX10_ones 3 (some .int) :: wG) rm_X10_ones (CP D cy ad ta tb σ0 [.int a0]) (CQi D cy ad o σ0) 0 0 (AA ad) := by
  refine Met.ofW (cc := cX10_ones) (maxL := 3) (ret := (some .int)) (by decide) rfl ?_
  intro p e s m args below meth c s₁ B hml hv
  obtain ⟨rfl, hE, hP⟩ := hv
  have hts := atoms_spec (ws := Cond.code yX10_ones cX10_ones 3 (some .int) :: wG) B.pre
  have F : CallFix p m c cX10_ones 3 s _ wG RX10 := ⟨B.exec, B.bytes, hml, findClass_of_methodNamed B.named, fun w hw => hts w (List.mem_cons_of_mem _ hw)⟩
  have hr := B.returns
  have hlocks := B.notSynchronized
  have hB : Bd D cy ad σ0 s.heap s.heap [] := ⟨hP, va_S.rf⟩
  have hl := lv_entry ([.int a0] : List Value) (n := 3) (Nat.le_of_ble_eq_true rfl)
  rw [lg_entry_eq]
  generalize (lg_sl ([.int a0] : List Value) ++ List.replicate (3 - (lg_sl ([.int a0] : List Value)).length) Slot.unset).toArray = ls at hl ⊢
  have hl : lv_has ls 3 [(0, .int a0)] := hl
  have B4 : ∀ (n4 : Nat) (H : Heap) (locs : List Loc) (ls : Array Slot) (x1 : Int32) (x2 : Int32), f_X10_ones_b4 σ0 n4 x1 x2 = some o → Bd D cy ad σ0 s.heap H locs → lv_has ls 3 [(1, .int x1), (2, .int x2)] → W p l e rm_X10_ones s m ([.int a0] : List Value).toArray below meth c H locs 0 0 (MQ below (CQi D cy ad o σ0) ([.int a0] : List Value).toArray s 0 0 (AA ad)) (F0 m 4 ls []) := by
    intro n4
    induction n4 with
    | zero => intro H locs ls x1 x2 h hB hl; cases h
    | succ n4 ih4 =>
      intro H locs ls x1 x2 h hB hl
      rw [f_X10_ones_b4] at h
      refine lv_iload_n F.1 F.2.1 dX10_ones_4 rfl (lv_at hl 1 rfl) ?_
      refine lv_if_eq (tgt := 20) F.1 F.2.1 dX10_ones_5 (by decide) (fun c1 => ?_) (fun c1 => ?_)
      · replace h := it_e c1 h
        refine lv_iload_n F.1 F.2.1 dX10_ones_20 rfl (lv_at hl 0 rfl) ?_
        exact q_iret F hlocks hr hB (Option.some.inj h) rfl dX10_ones_21
      · replace h := ie_e c1 h
        refine lv_iinc (v := (x1 + (1 : Int32))) (lv' := [(1, .int (x1 + (1 : Int32))), (2, .int x2)]) F.1 F.2.1 dX10_ones_8 hl (k := 0) rfl rfl (by decide) rfl (fun ls hl => ?_)
        refine lv_iload_n F.1 F.2.1 dX10_ones_11 rfl (lv_at hl 1 rfl) ?_
        refine lv_iload_n F.1 F.2.1 dX10_ones_12 rfl (lv_at hl 1 rfl) ?_
        refine lv_iconst (v := 1) F.1 F.2.1 dX10_ones_13 (by decide) ?_
        refine lv_isub F.1 F.2.1 dX10_ones_14 ?_
        refine lv_iand F.1 F.2.1 dX10_ones_15 ?_
        refine lv_istore_n (lv' := [(2, .int (x2 &&& (x2 - (1 : Int32)))), (1, .int (x1 + (1 : Int32)))]) F.1 F.2.1 dX10_ones_16 rfl hl (by decide) rfl (fun ls hl => ?_)
        refine lv_goto (tgt := 4) F.1 F.2.1 dX10_ones_17 (by decide) ?_
        exact ih4 _ _ _ (x1 + (1 : Int32)) (x2 &&& (x2 - (1 : Int32))) h hB (lv_sub hl [1, 0] rfl)
  unfold f_X10_ones at h
  refine lv_iconst (v := 0) F.1 F.2.1 dX10_ones_0 (by decide) ?_
  refine lv_istore_n (lv' := [(1, .int (0 : Int32)), (0, .int a0)]) F.1 F.2.1 dX10_ones_1 rfl hl (by decide) rfl (fun ls hl => ?_)
  refine lv_iload_n F.1 F.2.1 dX10_ones_2 rfl (lv_at hl 1 rfl) ?_
  refine lv_istore_n (lv' := [(2, .int a0), (1, .int (0 : Int32)), (0, .int a0)]) F.1 F.2.1 dX10_ones_3 rfl hl (by decide) rfl (fun ls hl => ?_)
  exact B4 300 _ _ _ (0 : Int32) a0 h hB (lv_sub hl [1, 0] rfl)
def f_X10_lesser (σ0 : Mem) (a0 : Int32) (a1 : Int32) : Option (Int32) := (if a1 ≤ a0 then (some a1) else (some a0))
set_option maxHeartbeats 4000000 in
set_option maxRecDepth 100000 in
theorem k_X10_lesser {l : Launch} {D : va_G} {cy : Nat → ClassId} {ad : Nat → Nat} {ta tb : Nat} (hI : AdI ad) (σ0 : Mem) (a0 : Int32) (a1 : Int32) {o : Int32} (h : f_X10_lesser σ0 a0 a1 = some o) : Met l yX10_lesser (Cond.code yX10_lesser cX10_lesser 2 (some .int) :: wG) rm_X10_lesser (CP D cy ad ta tb σ0 [.int a0, .int a1]) (CQi D cy ad o σ0) 0 0 (AA ad) := by
  refine Met.ofW (cc := cX10_lesser) (maxL := 2) (ret := (some .int)) (by decide) rfl ?_
  intro p e s m args below meth c s₁ B hml hv
  obtain ⟨rfl, hE, hP⟩ := hv
  have hts := atoms_spec (ws := Cond.code yX10_lesser cX10_lesser 2 (some .int) :: wG) B.pre
  have F : CallFix p m c cX10_lesser 2 s _ wG RX10 := ⟨B.exec, B.bytes, hml, findClass_of_methodNamed B.named, fun w hw => hts w (List.mem_cons_of_mem _ hw)⟩
  have hr := B.returns
  have hlocks := B.notSynchronized
  have hB : Bd D cy ad σ0 s.heap s.heap [] := ⟨hP, va_S.rf⟩
  have hl := lv_entry ([.int a0, .int a1] : List Value) (n := 2) (Nat.le_of_ble_eq_true rfl)
  rw [lg_entry_eq]
  generalize (lg_sl ([.int a0, .int a1] : List Value) ++ List.replicate (2 - (lg_sl ([.int a0, .int a1] : List Value)).length) Slot.unset).toArray = ls at hl ⊢
  have hl : lv_has ls 2 [(0, .int a0), (1, .int a1)] := hl
  unfold f_X10_lesser at h
  refine lv_iload_n F.1 F.2.1 dX10_lesser_0 rfl (lv_at hl 0 rfl) ?_
  refine lv_iload_n F.1 F.2.1 dX10_lesser_1 rfl (lv_at hl 1 rfl) ?_
  refine lv_icmp_ge (tgt := 9) F.1 F.2.1 dX10_lesser_2 (by decide) (fun c1 => ?_) (fun c1 => ?_)
  · replace h := it_e c1 h
    refine lv_iload_n F.1 F.2.1 dX10_lesser_9 rfl (lv_at hl 1 rfl) ?_
    exact q_iret F hlocks hr hB (Option.some.inj h) rfl dX10_lesser_10
  · replace h := ie_e c1 h
    refine lv_iload_n F.1 F.2.1 dX10_lesser_5 rfl (lv_at hl 0 rfl) ?_
    refine lv_goto (tgt := 10) F.1 F.2.1 dX10_lesser_6 (by decide) ?_
    exact q_iret F hlocks hr hB (Option.some.inj h) rfl dX10_lesser_10
def f_X10_part_b41 (σ0 : Mem) (x5 : Int64) (y0 : Int64) : Option (Int64) := (czl x5 (some (y0 / x5)))
def f_X10_part_b6 (σ0 : Mem) : Nat → Int64 → Int64 → Int32 → Int64 → Int64 → Option (Int64)
  | 0, _, _, _, _, _ => none
  | n6 + 1, x0, x2, x4, x5, x7 => (if (lg_cmp x7 (0 : Int64)) = (0 : Int32) then (if x4 = (0 : Int32) then (f_X10_part_b41 σ0 x5 x0) else (f_X10_part_b41 σ0 x5 x2)) else (czl x7 (f_X10_part_b6 σ0 n6 x0 x2 x4 x7 (x5 - x5 / x7 * x7))))
def f_X10_part (σ0 : Mem) (a0 : Int64) (a2 : Int64) (a4 : Int32) : Option (Int64) := (f_X10_part_b6 σ0 300 a0 a2 a4 a0 a2)
set_option maxHeartbeats 4000000 in
set_option maxRecDepth 100000 in
theorem k_X10_part {l : Launch} {D : va_G} {cy : Nat → ClassId} {ad : Nat → Nat} {ta tb : Nat} (hI : AdI ad) (σ0 : Mem) (a0 : Int64) (a2 : Int64) (a4 : Int32) {o : Int64} (h : f_X10_part σ0 a0 a2 a4 = some o) : Met l yX10_part (Cond.code yX10_part cX10_part 11 (some .long) :: wG) rm_X10_part (CP D cy ad ta tb σ0 [.long a0, .long a2, .int a4]) (CQl D cy ad o σ0) 0 0 (AA ad) := by
  refine Met.ofW (cc := cX10_part) (maxL := 11) (ret := (some .long)) (by decide) rfl ?_
  intro p e s m args below meth c s₁ B hml hv
  obtain ⟨rfl, hE, hP⟩ := hv
  have hts := atoms_spec (ws := Cond.code yX10_part cX10_part 11 (some .long) :: wG) B.pre
  have F : CallFix p m c cX10_part 11 s _ wG RX10 := ⟨B.exec, B.bytes, hml, findClass_of_methodNamed B.named, fun w hw => hts w (List.mem_cons_of_mem _ hw)⟩
  have hr := B.returns
  have hlocks := B.notSynchronized
  have hB : Bd D cy ad σ0 s.heap s.heap [] := ⟨hP, va_S.rf⟩
  have hl := lv_entry ([.long a0, .long a2, .int a4] : List Value) (n := 11) (Nat.le_of_ble_eq_true rfl)
  rw [lg_entry_eq]
  generalize (lg_sl ([.long a0, .long a2, .int a4] : List Value) ++ List.replicate (11 - (lg_sl ([.long a0, .long a2, .int a4] : List Value)).length) Slot.unset).toArray = ls at hl ⊢
  have hl : lv_has ls 11 [(0, .long a0), (2, .long a2), (4, .int a4)] := hl
  have B41 : ∀ (H : Heap) (locs : List Loc) (ls : Array Slot) (x5 : Int64) (y0 : Int64), f_X10_part_b41 σ0 x5 y0 = some o → Bd D cy ad σ0 s.heap H locs → lv_has ls 11 [(5, .long x5)] → W p l e rm_X10_part s m ([.long a0, .long a2, .int a4] : List Value).toArray below meth c H locs 0 0 (MQ below (CQl D cy ad o σ0) ([.long a0, .long a2, .int a4] : List Value).toArray s 0 0 (AA ad)) (F0 m 41 ls [.long y0]) := by
    intro H locs ls x5 y0 h hB hl
    unfold f_X10_part_b41 at h
    refine lv_lload F.1 F.2.1 dX10_part_41 (lv_at hl 0 rfl) ?_
    obtain ⟨hz3, h⟩ := czl_e h
    refine lv_ldiv F.1 F.2.1 dX10_part_43 hz3 ?_
    exact q_lret F hlocks hr hB (Option.some.inj h) rfl dX10_part_44
  have B6 : ∀ (n6 : Nat) (H : Heap) (locs : List Loc) (ls : Array Slot) (x0 : Int64) (x2 : Int64) (x4 : Int32) (x5 : Int64) (x7 : Int64), f_X10_part_b6 σ0 n6 x0 x2 x4 x5 x7 = some o → Bd D cy ad σ0 s.heap H locs → lv_has ls 11 [(0, .long x0), (2, .long x2), (4, .int x4), (5, .long x5), (7, .long x7)] → W p l e rm_X10_part s m ([.long a0, .long a2, .int a4] : List Value).toArray below meth c H locs 0 0 (MQ below (CQl D cy ad o σ0) ([.long a0, .long a2, .int a4] : List Value).toArray s 0 0 (AA ad)) (F0 m 6 ls []) := by
    intro n6
    induction n6 with
    | zero => intro H locs ls x0 x2 x4 x5 x7 h hB hl; cases h
    | succ n6 ih6 =>
      intro H locs ls x0 x2 x4 x5 x7 h hB hl
      rw [f_X10_part_b6] at h
      refine lv_lload F.1 F.2.1 dX10_part_6 (lv_at hl 4 rfl) ?_
      refine lv_lconst (v := 0) F.1 F.2.1 dX10_part_8 (by decide) ?_
      refine W.lcmp F.1 F.2.1 dX10_part_9 ?_
      refine lv_if_eq (tgt := 31) F.1 F.2.1 dX10_part_10 (by decide) (fun c1 => ?_) (fun c1 => ?_)
      · replace h := it_e c1 h
        refine lv_iload F.1 F.2.1 dX10_part_31 (lv_at hl 2 rfl) ?_
        refine lv_if_ne (tgt := 40) F.1 F.2.1 dX10_part_33 (by decide) (fun c2 => ?_) (fun c2 => ?_)
        · replace h := ie_e c2 h
          refine lv_lload_n F.1 F.2.1 dX10_part_40 rfl (lv_at hl 1 rfl) ?_
          exact B41 _ _ _ x5 x2 h hB (lv_sub hl [3] rfl)
        · replace h := it_e c2 h
          refine lv_lload_n F.1 F.2.1 dX10_part_36 rfl (lv_at hl 0 rfl) ?_
          refine lv_goto (tgt := 41) F.1 F.2.1 dX10_part_37 (by decide) ?_
          exact B41 _ _ _ x5 x0 h hB (lv_sub hl [3] rfl)
      · replace h := ie_e c1 h
        refine lv_lload F.1 F.2.1 dX10_part_13 (lv_at hl 3 rfl) ?_
        refine lv_lload F.1 F.2.1 dX10_part_15 (lv_at hl 4 rfl) ?_
        obtain ⟨hz4, h⟩ := czl_e h
        refine lv_lrem F.1 F.2.1 dX10_part_17 hz4 ?_
        refine lv_lstore (lv' := [(9, .long (x5 - x5 / x7 * x7)), (0, .long x0), (2, .long x2), (4, .int x4), (5, .long x5), (7, .long x7)]) F.1 F.2.1 dX10_part_18 hl (by decide) rfl (fun ls hl => ?_)
        refine lv_lload F.1 F.2.1 dX10_part_20 (lv_at hl 5 rfl) ?_
        refine lv_lstore (lv' := [(5, .long x7), (9, .long (x5 - x5 / x7 * x7)), (0, .long x0), (2, .long x2), (4, .int x4), (7, .long x7)]) F.1 F.2.1 dX10_part_22 hl (by decide) rfl (fun ls hl => ?_)
        refine lv_lload F.1 F.2.1 dX10_part_24 (lv_at hl 1 rfl) ?_
        refine lv_lstore (lv' := [(7, .long (x5 - x5 / x7 * x7)), (5, .long x7), (9, .long (x5 - x5 / x7 * x7)), (0, .long x0), (2, .long x2), (4, .int x4)]) F.1 F.2.1 dX10_part_26 hl (by decide) rfl (fun ls hl => ?_)
        refine lv_goto (tgt := 6) F.1 F.2.1 dX10_part_28 (by decide) ?_
        exact ih6 _ _ _ x0 x2 x4 x7 (x5 - x5 / x7 * x7) h hB (lv_sub hl [3, 4, 5, 1, 0] rfl)
  unfold f_X10_part at h
  refine lv_lload_n F.1 F.2.1 dX10_part_0 rfl (lv_at hl 0 rfl) ?_
  refine lv_lstore (lv' := [(5, .long a0), (0, .long a0), (2, .long a2), (4, .int a4)]) F.1 F.2.1 dX10_part_1 hl (by decide) rfl (fun ls hl => ?_)
  refine lv_lload_n F.1 F.2.1 dX10_part_3 rfl (lv_at hl 2 rfl) ?_
  refine lv_lstore (lv' := [(7, .long a2), (5, .long a0), (0, .long a0), (2, .long a2), (4, .int a4)]) F.1 F.2.1 dX10_part_4 hl (by decide) rfl (fun ls hl => ?_)
  exact B6 300 _ _ _ a0 a2 a4 a0 a2 h hB (lv_sub hl [2, 3, 4, 1, 0] rfl)
def f_X10_finds (σ0 : Mem) (a1 : Int32) : Option (Int32 × Mem) := (lt (ms σ0 64 4 a1) (fun σ1 => (some (((-10 : Int32) - a1), σ1))))
set_option maxHeartbeats 4000000 in
set_option maxRecDepth 100000 in
theorem k_X10_finds {l : Launch} {D : va_G} {cy : Nat → ClassId} {ad : Nat → Nat} {ta tb : Nat} (hI : AdI ad) (σ0 : Mem) (a1 : Int32) {o : Int32 × Mem} (h : f_X10_finds σ0 a1 = some o) : Met l yX10_finds (Cond.code yX10_finds cX10_finds 2 (some .int) :: wG) rm_X10_finds (CP D cy ad ta tb σ0 [.ref (ad 64), .int a1]) (CQi D cy ad o.1 o.2) 0 0 (AA ad) := by
  refine Met.ofW (cc := cX10_finds) (maxL := 2) (ret := (some .int)) (by decide) rfl ?_
  intro p e s m args below meth c s₁ B hml hv
  obtain ⟨rfl, hE, hP⟩ := hv
  have hts := atoms_spec (ws := Cond.code yX10_finds cX10_finds 2 (some .int) :: wG) B.pre
  have F : CallFix p m c cX10_finds 2 s _ wG RX10 := ⟨B.exec, B.bytes, hml, findClass_of_methodNamed B.named, fun w hw => hts w (List.mem_cons_of_mem _ hw)⟩
  have hr := B.returns
  have hlocks := B.notSynchronized
  have hB : Bd D cy ad σ0 s.heap s.heap [] := ⟨hP, va_S.rf⟩
  have hl := lv_entry ([.ref (ad 64), .int a1] : List Value) (n := 2) (Nat.le_of_ble_eq_true rfl)
  rw [lg_entry_eq]
  generalize (lg_sl ([.ref (ad 64), .int a1] : List Value) ++ List.replicate (2 - (lg_sl ([.ref (ad 64), .int a1] : List Value)).length) Slot.unset).toArray = ls at hl ⊢
  have hl : lv_has ls 2 [(0, .ref (ad 64)), (1, .int a1)] := hl
  unfold f_X10_finds at h
  refine lv_aload_n F.1 F.2.1 dX10_finds_0 rfl (lv_at hl 0 rfl) ?_
  refine lv_iload_n F.1 F.2.1 dX10_finds_1 rfl (lv_at hl 1 rfl) ?_
  obtain ⟨σ1, e2, h⟩ := lt_e h
  refine pf_RX10_68 F hE hI hB po_64 rfl rfl (Nat.le_of_ble_eq_true rfl) rfl dX10_finds_2 e2 (fun H locs hB => ?_)
  refine lv_bipush (v := (-10)) F.1 F.2.1 dX10_finds_5 (by decide) ?_
  refine lv_iload_n F.1 F.2.1 dX10_finds_7 rfl (lv_at hl 1 rfl) ?_
  refine lv_isub F.1 F.2.1 dX10_finds_8 ?_
  exact q_iret F hlocks hr hB (so1 h) (so2 h) dX10_finds_9
def f_X10_isSheet (σ0 : Mem) (a0 : Int32) : Option (Int32) := (bp (f_X10_in σ0 a0.toInt64 (0 : Int64) (3 : Int64)) (fun v2 => (cb v2 (some v2))))
set_option maxHeartbeats 4000000 in
set_option maxRecDepth 100000 in
theorem k_X10_isSheet {l : Launch} {D : va_G} {cy : Nat → ClassId} {ad : Nat → Nat} {ta tb : Nat} (hI : AdI ad) (σ0 : Mem) (a0 : Int32) {o : Int32} (h : f_X10_isSheet σ0 a0 = some o) : Met l yX10_isSheet (Cond.code yX10_isSheet cX10_isSheet 1 (some .boolean) :: wG) rm_X10_isSheet (CP D cy ad ta tb σ0 [.int a0]) (CQi D cy ad o σ0) 0 0 (AA ad) := by
  refine Met.ofW (cc := cX10_isSheet) (maxL := 1) (ret := (some .boolean)) (by decide) rfl ?_
  intro p e s m args below meth c s₁ B hml hv
  obtain ⟨rfl, hE, hP⟩ := hv
  have hts := atoms_spec (ws := Cond.code yX10_isSheet cX10_isSheet 1 (some .boolean) :: wG) B.pre
  have F : CallFix p m c cX10_isSheet 1 s _ wG RX10 := ⟨B.exec, B.bytes, hml, findClass_of_methodNamed B.named, fun w hw => hts w (List.mem_cons_of_mem _ hw)⟩
  have hr := B.returns
  have hlocks := B.notSynchronized
  have hB : Bd D cy ad σ0 s.heap s.heap [] := ⟨hP, va_S.rf⟩
  have hl := lv_entry ([.int a0] : List Value) (n := 1) (Nat.le_of_ble_eq_true rfl)
  rw [lg_entry_eq]
  generalize (lg_sl ([.int a0] : List Value) ++ List.replicate (1 - (lg_sl ([.int a0] : List Value)).length) Slot.unset).toArray = ls at hl ⊢
  have hl : lv_has ls 1 [(0, .int a0)] := hl
  unfold f_X10_isSheet at h
  refine lv_iload_n F.1 F.2.1 dX10_isSheet_0 rfl (lv_at hl 0 rfl) ?_
  refine lv_i2l F.1 F.2.1 dX10_isSheet_1 rfl ?_
  refine lv_lconst (v := 0) F.1 F.2.1 dX10_isSheet_2 (by decide) ?_
  refine lv_ldc2 (v := 3) F.1 F.2.1 F.2.2.2.1 (F.2.2.2.2 _ wm_k_RX10_71) dX10_isSheet_3 ?_
  obtain ⟨v2, hc1, h⟩ := bp_e h
  refine q_ci hB (q_goS F hE hB (k_X10_in hI σ0 a0.toInt64 (0 : Int64) (3 : Int64) hc1) (ca_RX10_64 F.2.2.2.2 ⟨Nat.le_of_ble_eq_true rfl, Nat.le_of_ble_eq_true rfl⟩) rfl hl.1 rfl (Nat.le_of_ble_eq_true rfl) dX10_isSheet_6 ⟨Nat.le_of_ble_eq_true rfl, Nat.le_of_ble_eq_true rfl⟩) (fun H locs hB => ?_)
  obtain ⟨hn3, h⟩ := cb_e h
  exact q_zret F hlocks hr hn3 hB (Option.some.inj h) rfl dX10_isSheet_9
def f_X10_sheet_b55 : Nat → Mem → Int32 → Int32 → Int32 → Option (Int32 × Mem)
  | 0, _, _, _, _ => none
  | n55 + 1, σ0, x1, x3, x4 => (if x3 ≤ x4 then (some (x3, σ0)) else (ck (((60 : Int32) * x1) + x4) 240 (lt (ms σ0 67 (((60 : Int32) * x1) + x4).toNatClampNeg (0 : Int32)) (fun σ17 => (f_X10_sheet_b55 n55 σ17 x1 x3 (x4 + (1 : Int32)))))))
def f_X10_sheet (σ0 : Mem) (a1 : Int32) (a2 : Int32) (a3 : Int32) : Option (Int32 × Mem) := (bp (f_X10_isSheet σ0 a1) (fun v2 => (if v2 = (0 : Int32) then (some ((-2 : Int32), σ0)) else (bp (f_X10_in σ0 a2.toInt64 (0 : Int64) (2 : Int64)) (fun v5 => (if v5 = (0 : Int32) then (some ((-2 : Int32), σ0)) else (if a3 ≤ (60 : Int32) then (if (0 : Int32) ≤ a3 then (ck a1 4 (lt (ms σ0 65 a1.toNatClampNeg a2) (fun σ10 => (ck a1 4 (lt (ms σ10 66 a1.toNatClampNeg a3) (fun σ13 => (f_X10_sheet_b55 300 σ13 a1 a3 (0 : Int32)))))))) else (bi (f_X10_finds σ0 (5 : Int32)) (fun v21 σ20 => (some (v21, σ20))))) else (some ((-2 : Int32), σ0)))))))))
set_option maxHeartbeats 4000000 in
set_option maxRecDepth 100000 in
theorem k_X10_sheet {l : Launch} {D : va_G} {cy : Nat → ClassId} {ad : Nat → Nat} {ta tb : Nat} (hI : AdI ad) (σ0 : Mem) (a1 : Int32) (a2 : Int32) (a3 : Int32) {o : Int32 × Mem} (h : f_X10_sheet σ0 a1 a2 a3 = some o) : Met l yX10_sheet (Cond.code yX10_sheet cX10_sheet 5 (some .int) :: wG) rm_X10_sheet (CP D cy ad ta tb σ0 [.ref (ad 64), .int a1, .int a2, .int a3]) (CQi D cy ad o.1 o.2) 0 0 (AA ad) := by
  refine Met.ofW (cc := cX10_sheet) (maxL := 5) (ret := (some .int)) (by decide) rfl ?_
  intro p e s m args below meth c s₁ B hml hv
  obtain ⟨rfl, hE, hP⟩ := hv
  have hts := atoms_spec (ws := Cond.code yX10_sheet cX10_sheet 5 (some .int) :: wG) B.pre
  have F : CallFix p m c cX10_sheet 5 s _ wG RX10 := ⟨B.exec, B.bytes, hml, findClass_of_methodNamed B.named, fun w hw => hts w (List.mem_cons_of_mem _ hw)⟩
  have hr := B.returns
  have hlocks := B.notSynchronized
  have hB : Bd D cy ad σ0 s.heap s.heap [] := ⟨hP, va_S.rf⟩
  have hl := lv_entry ([.ref (ad 64), .int a1, .int a2, .int a3] : List Value) (n := 5) (Nat.le_of_ble_eq_true rfl)
  rw [lg_entry_eq]
  generalize (lg_sl ([.ref (ad 64), .int a1, .int a2, .int a3] : List Value) ++ List.replicate (5 - (lg_sl ([.ref (ad 64), .int a1, .int a2, .int a3] : List Value)).length) Slot.unset).toArray = ls at hl ⊢
  have hl : lv_has ls 5 [(0, .ref (ad 64)), (1, .int a1), (2, .int a2), (3, .int a3)] := hl
  have B55 : ∀ (n55 : Nat) (σ0 : Mem) (H : Heap) (locs : List Loc) (ls : Array Slot) (x1 : Int32) (x3 : Int32) (x4 : Int32), f_X10_sheet_b55 n55 σ0 x1 x3 x4 = some o → Bd D cy ad σ0 s.heap H locs → lv_has ls 5 [(0, .ref (ad 64)), (1, .int x1), (3, .int x3), (4, .int x4)] → W p l e rm_X10_sheet s m ([.ref (ad 64), .int a1, .int a2, .int a3] : List Value).toArray below meth c H locs 0 0 (MQ below (CQi D cy ad o.1 o.2) ([.ref (ad 64), .int a1, .int a2, .int a3] : List Value).toArray s 0 0 (AA ad)) (F0 m 55 ls []) := by
    intro n55
    induction n55 with
    | zero => intro σ0 H locs ls x1 x3 x4 h hB hl; cases h
    | succ n55 ih55 =>
      intro σ0 H locs ls x1 x3 x4 h hB hl
      rw [f_X10_sheet_b55] at h
      refine lv_iload F.1 F.2.1 dX10_sheet_55 (lv_at hl 3 rfl) ?_
      refine lv_iload_n F.1 F.2.1 dX10_sheet_57 rfl (lv_at hl 2 rfl) ?_
      refine lv_icmp_ge (tgt := 80) F.1 F.2.1 dX10_sheet_58 (by decide) (fun c15 => ?_) (fun c15 => ?_)
      · replace h := it_e c15 h
        refine lv_iload_n F.1 F.2.1 dX10_sheet_80 rfl (lv_at hl 2 rfl) ?_
        exact q_iret F hlocks hr hB (so1 h) (so2 h) dX10_sheet_81
      · replace h := ie_e c15 h
        refine lv_aload_n F.1 F.2.1 dX10_sheet_61 rfl (lv_at hl 0 rfl) ?_
        refine gf_RX10_16 F hE hB po_64 rfl dX10_sheet_62 ?_
        refine lv_bipush (v := 60) F.1 F.2.1 dX10_sheet_65 (by decide) ?_
        refine lv_iload_n F.1 F.2.1 dX10_sheet_67 rfl (lv_at hl 1 rfl) ?_
        refine lv_imul F.1 F.2.1 dX10_sheet_68 ?_
        refine lv_iload F.1 F.2.1 dX10_sheet_69 (lv_at hl 3 rfl) ?_
        refine lv_iadd F.1 F.2.1 dX10_sheet_71 ?_
        refine lv_iconst (v := 0) F.1 F.2.1 dX10_sheet_72 (by decide) ?_
        obtain ⟨hi16, h⟩ := ck_e h
        obtain ⟨σ17, e18, h⟩ := lt_e h
        refine q_iast F hE hI hB row_67 hi16 dX10_sheet_73 e18 (fun H locs hB => ?_)
        refine lv_iinc (v := (x4 + (1 : Int32))) (lv' := [(4, .int (x4 + (1 : Int32))), (0, .ref (ad 64)), (1, .int x1), (3, .int x3)]) F.1 F.2.1 dX10_sheet_74 hl (k := 3) rfl rfl (by decide) rfl (fun ls hl => ?_)
        refine lv_goto (tgt := 55) F.1 F.2.1 dX10_sheet_77 (by decide) ?_
        exact ih55 σ17 _ _ _ x1 x3 (x4 + (1 : Int32)) h hB (lv_sub hl [1, 2, 3, 0] rfl)
  unfold f_X10_sheet at h
  refine lv_iload_n F.1 F.2.1 dX10_sheet_0 rfl (lv_at hl 1 rfl) ?_
  obtain ⟨v2, hc1, h⟩ := bp_e h
  refine q_ci hB (q_goS F hE hB (k_X10_isSheet hI σ0 a1 hc1) (ca_RX10_73 F.2.2.2.2 ⟨Nat.le_of_ble_eq_true rfl, Nat.le_of_ble_eq_true rfl⟩) rfl hl.1 rfl (Nat.le_of_ble_eq_true rfl) dX10_sheet_1 ⟨Nat.le_of_ble_eq_true rfl, Nat.le_of_ble_eq_true rfl⟩) (fun H locs hB => ?_)
  refine lv_if_eq (tgt := 25) F.1 F.2.1 dX10_sheet_4 (by decide) (fun c3 => ?_) (fun c3 => ?_)
  · replace h := it_e c3 h
    refine lv_bipush (v := (-2)) F.1 F.2.1 dX10_sheet_25 (by decide) ?_
    exact q_iret F hlocks hr hB (so1 h) (so2 h) dX10_sheet_27
  · replace h := ie_e c3 h
    refine lv_iload_n F.1 F.2.1 dX10_sheet_7 rfl (lv_at hl 2 rfl) ?_
    refine lv_i2l F.1 F.2.1 dX10_sheet_8 rfl ?_
    refine lv_lconst (v := 0) F.1 F.2.1 dX10_sheet_9 (by decide) ?_
    refine lv_ldc2 (v := 2) F.1 F.2.1 F.2.2.2.1 (F.2.2.2.2 _ wm_k_RX10_77) dX10_sheet_10 ?_
    obtain ⟨v5, hc4, h⟩ := bp_e h
    refine q_ci hB (q_goS F hE hB (k_X10_in hI σ0 a2.toInt64 (0 : Int64) (2 : Int64) hc4) (ca_RX10_64 F.2.2.2.2 ⟨Nat.le_of_ble_eq_true rfl, Nat.le_of_ble_eq_true rfl⟩) rfl hl.1 rfl (Nat.le_of_ble_eq_true rfl) dX10_sheet_13 ⟨Nat.le_of_ble_eq_true rfl, Nat.le_of_ble_eq_true rfl⟩) (fun H locs hB => ?_)
    refine lv_if_eq (tgt := 25) F.1 F.2.1 dX10_sheet_16 (by decide) (fun c6 => ?_) (fun c6 => ?_)
    · replace h := it_e c6 h
      refine lv_bipush (v := (-2)) F.1 F.2.1 dX10_sheet_25 (by decide) ?_
      exact q_iret F hlocks hr hB (so1 h) (so2 h) dX10_sheet_27
    · replace h := ie_e c6 h
      refine lv_iload_n F.1 F.2.1 dX10_sheet_19 rfl (lv_at hl 3 rfl) ?_
      refine lv_bipush (v := 60) F.1 F.2.1 dX10_sheet_20 (by decide) ?_
      refine lv_icmp_le (tgt := 28) F.1 F.2.1 dX10_sheet_22 (by decide) (fun c7 => ?_) (fun c7 => ?_)
      · replace h := it_e c7 h
        refine lv_iload_n F.1 F.2.1 dX10_sheet_28 rfl (lv_at hl 3 rfl) ?_
        refine lv_if_ge (tgt := 38) F.1 F.2.1 dX10_sheet_29 (by decide) (fun c8 => ?_) (fun c8 => ?_)
        · replace h := it_e c8 h
          refine lv_aload_n F.1 F.2.1 dX10_sheet_38 rfl (lv_at hl 0 rfl) ?_
          refine gf_RX10_7 F hE hB po_64 rfl dX10_sheet_39 ?_
          refine lv_iload_n F.1 F.2.1 dX10_sheet_42 rfl (lv_at hl 1 rfl) ?_
          refine lv_iload_n F.1 F.2.1 dX10_sheet_43 rfl (lv_at hl 2 rfl) ?_
          obtain ⟨hi9, h⟩ := ck_e h
          obtain ⟨σ10, e11, h⟩ := lt_e h
          refine q_iast F hE hI hB row_65 hi9 dX10_sheet_44 e11 (fun H locs hB => ?_)
          refine lv_aload_n F.1 F.2.1 dX10_sheet_45 rfl (lv_at hl 0 rfl) ?_
          refine gf_RX10_13 F hE hB po_64 rfl dX10_sheet_46 ?_
          refine lv_iload_n F.1 F.2.1 dX10_sheet_49 rfl (lv_at hl 1 rfl) ?_
          refine lv_iload_n F.1 F.2.1 dX10_sheet_50 rfl (lv_at hl 3 rfl) ?_
          obtain ⟨hi12, h⟩ := ck_e h
          obtain ⟨σ13, e14, h⟩ := lt_e h
          refine q_iast F hE hI hB row_66 hi12 dX10_sheet_51 e14 (fun H locs hB => ?_)
          refine lv_iconst (v := 0) F.1 F.2.1 dX10_sheet_52 (by decide) ?_
          refine lv_istore (lv' := [(4, .int (0 : Int32)), (0, .ref (ad 64)), (1, .int a1), (2, .int a2), (3, .int a3)]) F.1 F.2.1 dX10_sheet_53 hl (by decide) rfl (fun ls hl => ?_)
          exact B55 300 σ13 _ _ _ a1 a3 (0 : Int32) h hB (lv_sub hl [1, 2, 4, 0] rfl)
        · replace h := ie_e c8 h
          refine lv_aload_n F.1 F.2.1 dX10_sheet_32 rfl (lv_at hl 0 rfl) ?_
          refine lv_iconst (v := 5) F.1 F.2.1 dX10_sheet_33 (by decide) ?_
          obtain ⟨v21, σ20, hc19, h⟩ := bi_e h
          refine q_ci hB (q_goV F hE hB (k_X10_finds hI σ0 (5 : Int32) hc19) (ca_RX10_79 F.2.2.2.2 ⟨Nat.le_of_ble_eq_true rfl, Nat.le_of_ble_eq_true rfl⟩) rfl po_64 rfl hl.1 rfl (Nat.le_of_ble_eq_true rfl) dX10_sheet_34 ⟨Nat.le_of_ble_eq_true rfl, Nat.le_of_ble_eq_true rfl⟩) (fun H locs hB => ?_)
          exact q_iret F hlocks hr hB (so1 h) (so2 h) dX10_sheet_37
      · replace h := ie_e c7 h
        refine lv_bipush (v := (-2)) F.1 F.2.1 dX10_sheet_25 (by decide) ?_
        exact q_iret F hlocks hr hB (so1 h) (so2 h) dX10_sheet_27
def f_X10_lose (σ0 : Mem) (a1 : Int32) : Option (Int32 × Mem) := (bp (f_X10_isSheet σ0 a1) (fun v2 => (if v2 = (0 : Int32) then (some ((-2 : Int32), σ0)) else (ck a1 4 (if (0 : Int32) ≤ (σ0.1 65 a1.toNatClampNeg) then (ck a1 4 (lt (ms σ0 65 a1.toNatClampNeg (-1 : Int32)) (fun σ7 => (ck a1 4 (some ((σ7.1 66 a1.toNatClampNeg), σ7)))))) else (bi (f_X10_finds σ0 (1 : Int32)) (fun v12 σ11 => (some (v12, σ11)))))))))
set_option maxHeartbeats 4000000 in
set_option maxRecDepth 100000 in
theorem k_X10_lose {l : Launch} {D : va_G} {cy : Nat → ClassId} {ad : Nat → Nat} {ta tb : Nat} (hI : AdI ad) (σ0 : Mem) (a1 : Int32) {o : Int32 × Mem} (h : f_X10_lose σ0 a1 = some o) : Met l yX10_lose (Cond.code yX10_lose cX10_lose 2 (some .int) :: wG) rm_X10_lose (CP D cy ad ta tb σ0 [.ref (ad 64), .int a1]) (CQi D cy ad o.1 o.2) 0 0 (AA ad) := by
  refine Met.ofW (cc := cX10_lose) (maxL := 2) (ret := (some .int)) (by decide) rfl ?_
  intro p e s m args below meth c s₁ B hml hv
  obtain ⟨rfl, hE, hP⟩ := hv
  have hts := atoms_spec (ws := Cond.code yX10_lose cX10_lose 2 (some .int) :: wG) B.pre
  have F : CallFix p m c cX10_lose 2 s _ wG RX10 := ⟨B.exec, B.bytes, hml, findClass_of_methodNamed B.named, fun w hw => hts w (List.mem_cons_of_mem _ hw)⟩
  have hr := B.returns
  have hlocks := B.notSynchronized
  have hB : Bd D cy ad σ0 s.heap s.heap [] := ⟨hP, va_S.rf⟩
  have hl := lv_entry ([.ref (ad 64), .int a1] : List Value) (n := 2) (Nat.le_of_ble_eq_true rfl)
  rw [lg_entry_eq]
  generalize (lg_sl ([.ref (ad 64), .int a1] : List Value) ++ List.replicate (2 - (lg_sl ([.ref (ad 64), .int a1] : List Value)).length) Slot.unset).toArray = ls at hl ⊢
  have hl : lv_has ls 2 [(0, .ref (ad 64)), (1, .int a1)] := hl
  unfold f_X10_lose at h
  refine lv_iload_n F.1 F.2.1 dX10_lose_0 rfl (lv_at hl 1 rfl) ?_
  obtain ⟨v2, hc1, h⟩ := bp_e h
  refine q_ci hB (q_goS F hE hB (k_X10_isSheet hI σ0 a1 hc1) (ca_RX10_73 F.2.2.2.2 ⟨Nat.le_of_ble_eq_true rfl, Nat.le_of_ble_eq_true rfl⟩) rfl hl.1 rfl (Nat.le_of_ble_eq_true rfl) dX10_lose_1 ⟨Nat.le_of_ble_eq_true rfl, Nat.le_of_ble_eq_true rfl⟩) (fun H locs hB => ?_)
  refine lv_if_ne (tgt := 10) F.1 F.2.1 dX10_lose_4 (by decide) (fun c3 => ?_) (fun c3 => ?_)
  · replace h := ie_e c3 h
    refine lv_aload_n F.1 F.2.1 dX10_lose_10 rfl (lv_at hl 0 rfl) ?_
    refine gf_RX10_7 F hE hB po_64 rfl dX10_lose_11 ?_
    refine lv_iload_n F.1 F.2.1 dX10_lose_14 rfl (lv_at hl 1 rfl) ?_
    obtain ⟨hi4, h⟩ := ck_e h
    refine q_iald F hE hB po_65 hi4 dX10_lose_15 ?_
    refine lv_if_ge (tgt := 25) F.1 F.2.1 dX10_lose_16 (by decide) (fun c5 => ?_) (fun c5 => ?_)
    · replace h := it_e c5 h
      refine lv_aload_n F.1 F.2.1 dX10_lose_25 rfl (lv_at hl 0 rfl) ?_
      refine gf_RX10_7 F hE hB po_64 rfl dX10_lose_26 ?_
      refine lv_iload_n F.1 F.2.1 dX10_lose_29 rfl (lv_at hl 1 rfl) ?_
      refine lv_iconst (v := (-1)) F.1 F.2.1 dX10_lose_30 (by decide) ?_
      obtain ⟨hi6, h⟩ := ck_e h
      obtain ⟨σ7, e8, h⟩ := lt_e h
      refine q_iast F hE hI hB row_65 hi6 dX10_lose_31 e8 (fun H locs hB => ?_)
      refine lv_aload_n F.1 F.2.1 dX10_lose_32 rfl (lv_at hl 0 rfl) ?_
      refine gf_RX10_13 F hE hB po_64 rfl dX10_lose_33 ?_
      refine lv_iload_n F.1 F.2.1 dX10_lose_36 rfl (lv_at hl 1 rfl) ?_
      obtain ⟨hi9, h⟩ := ck_e h
      refine q_iald F hE hB po_66 hi9 dX10_lose_37 ?_
      exact q_iret F hlocks hr hB (so1 h) (so2 h) dX10_lose_38
    · replace h := ie_e c5 h
      refine lv_aload_n F.1 F.2.1 dX10_lose_19 rfl (lv_at hl 0 rfl) ?_
      refine lv_iconst (v := 1) F.1 F.2.1 dX10_lose_20 (by decide) ?_
      obtain ⟨v12, σ11, hc10, h⟩ := bi_e h
      refine q_ci hB (q_goV F hE hB (k_X10_finds hI σ0 (1 : Int32) hc10) (ca_RX10_79 F.2.2.2.2 ⟨Nat.le_of_ble_eq_true rfl, Nat.le_of_ble_eq_true rfl⟩) rfl po_64 rfl hl.1 rfl (Nat.le_of_ble_eq_true rfl) dX10_lose_21 ⟨Nat.le_of_ble_eq_true rfl, Nat.le_of_ble_eq_true rfl⟩) (fun H locs hB => ?_)
      exact q_iret F hlocks hr hB (so1 h) (so2 h) dX10_lose_24
  · replace h := it_e c3 h
    refine lv_bipush (v := (-2)) F.1 F.2.1 dX10_lose_7 (by decide) ?_
    exact q_iret F hlocks hr hB (so1 h) (so2 h) dX10_lose_9
def f_X10_lacks (σ0 : Mem) (a1 : Int32) (a2 : Int32) (a3 : Int32) : Option (Int32 × Mem) := (ck a1 4 (if (0 : Int32) ≤ (σ0.1 65 a1.toNatClampNeg) then (ck a1 4 (if (σ0.1 65 a1.toNatClampNeg) = a2 then (ck a1 4 (bp (f_X10_in σ0 a3.toInt64 (0 : Int64) ((σ0.1 66 a1.toNatClampNeg) - (1 : Int32)).toInt64) (fun v7 => (if v7 = (0 : Int32) then (bi (f_X10_finds σ0 (2 : Int32)) (fun v11 σ10 => (some (v11, σ10)))) else (some ((0 : Int32), σ0)))))) else (bi (f_X10_finds σ0 (3 : Int32)) (fun v14 σ13 => (some (v14, σ13)))))) else (bi (f_X10_finds σ0 (1 : Int32)) (fun v17 σ16 => (some (v17, σ16))))))
set_option maxHeartbeats 4000000 in
set_option maxRecDepth 100000 in
theorem k_X10_lacks {l : Launch} {D : va_G} {cy : Nat → ClassId} {ad : Nat → Nat} {ta tb : Nat} (hI : AdI ad) (σ0 : Mem) (a1 : Int32) (a2 : Int32) (a3 : Int32) {o : Int32 × Mem} (h : f_X10_lacks σ0 a1 a2 a3 = some o) : Met l yX10_lacks (Cond.code yX10_lacks cX10_lacks 4 (some .int) :: wG) rm_X10_lacks (CP D cy ad ta tb σ0 [.ref (ad 64), .int a1, .int a2, .int a3]) (CQi D cy ad o.1 o.2) 0 0 (AA ad) := by
  refine Met.ofW (cc := cX10_lacks) (maxL := 4) (ret := (some .int)) (by decide) rfl ?_
  intro p e s m args below meth c s₁ B hml hv
  obtain ⟨rfl, hE, hP⟩ := hv
  have hts := atoms_spec (ws := Cond.code yX10_lacks cX10_lacks 4 (some .int) :: wG) B.pre
  have F : CallFix p m c cX10_lacks 4 s _ wG RX10 := ⟨B.exec, B.bytes, hml, findClass_of_methodNamed B.named, fun w hw => hts w (List.mem_cons_of_mem _ hw)⟩
  have hr := B.returns
  have hlocks := B.notSynchronized
  have hB : Bd D cy ad σ0 s.heap s.heap [] := ⟨hP, va_S.rf⟩
  have hl := lv_entry ([.ref (ad 64), .int a1, .int a2, .int a3] : List Value) (n := 4) (Nat.le_of_ble_eq_true rfl)
  rw [lg_entry_eq]
  generalize (lg_sl ([.ref (ad 64), .int a1, .int a2, .int a3] : List Value) ++ List.replicate (4 - (lg_sl ([.ref (ad 64), .int a1, .int a2, .int a3] : List Value)).length) Slot.unset).toArray = ls at hl ⊢
  have hl : lv_has ls 4 [(0, .ref (ad 64)), (1, .int a1), (2, .int a2), (3, .int a3)] := hl
  unfold f_X10_lacks at h
  refine lv_aload_n F.1 F.2.1 dX10_lacks_0 rfl (lv_at hl 0 rfl) ?_
  refine gf_RX10_7 F hE hB po_64 rfl dX10_lacks_1 ?_
  refine lv_iload_n F.1 F.2.1 dX10_lacks_4 rfl (lv_at hl 1 rfl) ?_
  obtain ⟨hi1, h⟩ := ck_e h
  refine q_iald F hE hB po_65 hi1 dX10_lacks_5 ?_
  refine lv_if_ge (tgt := 15) F.1 F.2.1 dX10_lacks_6 (by decide) (fun c2 => ?_) (fun c2 => ?_)
  · replace h := it_e c2 h
    refine lv_aload_n F.1 F.2.1 dX10_lacks_15 rfl (lv_at hl 0 rfl) ?_
    refine gf_RX10_7 F hE hB po_64 rfl dX10_lacks_16 ?_
    refine lv_iload_n F.1 F.2.1 dX10_lacks_19 rfl (lv_at hl 1 rfl) ?_
    obtain ⟨hi3, h⟩ := ck_e h
    refine q_iald F hE hB po_65 hi3 dX10_lacks_20 ?_
    refine lv_iload_n F.1 F.2.1 dX10_lacks_21 rfl (lv_at hl 2 rfl) ?_
    refine lv_icmp_eq (tgt := 31) F.1 F.2.1 dX10_lacks_22 (by decide) (fun c4 => ?_) (fun c4 => ?_)
    · replace h := it_e c4 h
      refine lv_iload_n F.1 F.2.1 dX10_lacks_31 rfl (lv_at hl 3 rfl) ?_
      refine lv_i2l F.1 F.2.1 dX10_lacks_32 rfl ?_
      refine lv_lconst (v := 0) F.1 F.2.1 dX10_lacks_33 (by decide) ?_
      refine lv_aload_n F.1 F.2.1 dX10_lacks_34 rfl (lv_at hl 0 rfl) ?_
      refine gf_RX10_13 F hE hB po_64 rfl dX10_lacks_35 ?_
      refine lv_iload_n F.1 F.2.1 dX10_lacks_38 rfl (lv_at hl 1 rfl) ?_
      obtain ⟨hi5, h⟩ := ck_e h
      refine q_iald F hE hB po_66 hi5 dX10_lacks_39 ?_
      refine lv_iconst (v := 1) F.1 F.2.1 dX10_lacks_40 (by decide) ?_
      refine lv_isub F.1 F.2.1 dX10_lacks_41 ?_
      refine lv_i2l F.1 F.2.1 dX10_lacks_42 rfl ?_
      obtain ⟨v7, hc6, h⟩ := bp_e h
      refine q_ci hB (q_goS F hE hB (k_X10_in hI σ0 a3.toInt64 (0 : Int64) ((σ0.1 66 a1.toNatClampNeg) - (1 : Int32)).toInt64 hc6) (ca_RX10_64 F.2.2.2.2 ⟨Nat.le_of_ble_eq_true rfl, Nat.le_of_ble_eq_true rfl⟩) rfl hl.1 rfl (Nat.le_of_ble_eq_true rfl) dX10_lacks_43 ⟨Nat.le_of_ble_eq_true rfl, Nat.le_of_ble_eq_true rfl⟩) (fun H locs hB => ?_)
      refine lv_if_eq (tgt := 53) F.1 F.2.1 dX10_lacks_46 (by decide) (fun c8 => ?_) (fun c8 => ?_)
      · replace h := it_e c8 h
        refine lv_aload_n F.1 F.2.1 dX10_lacks_53 rfl (lv_at hl 0 rfl) ?_
        refine lv_iconst (v := 2) F.1 F.2.1 dX10_lacks_54 (by decide) ?_
        obtain ⟨v11, σ10, hc9, h⟩ := bi_e h
        refine q_ci hB (q_goV F hE hB (k_X10_finds hI σ0 (2 : Int32) hc9) (ca_RX10_79 F.2.2.2.2 ⟨Nat.le_of_ble_eq_true rfl, Nat.le_of_ble_eq_true rfl⟩) rfl po_64 rfl hl.1 rfl (Nat.le_of_ble_eq_true rfl) dX10_lacks_55 ⟨Nat.le_of_ble_eq_true rfl, Nat.le_of_ble_eq_true rfl⟩) (fun H locs hB => ?_)
        exact q_iret F hlocks hr hB (so1 h) (so2 h) dX10_lacks_58
      · replace h := ie_e c8 h
        refine lv_iconst (v := 0) F.1 F.2.1 dX10_lacks_49 (by decide) ?_
        refine lv_goto (tgt := 58) F.1 F.2.1 dX10_lacks_50 (by decide) ?_
        exact q_iret F hlocks hr hB (so1 h) (so2 h) dX10_lacks_58
    · replace h := ie_e c4 h
      refine lv_aload_n F.1 F.2.1 dX10_lacks_25 rfl (lv_at hl 0 rfl) ?_
      refine lv_iconst (v := 3) F.1 F.2.1 dX10_lacks_26 (by decide) ?_
      obtain ⟨v14, σ13, hc12, h⟩ := bi_e h
      refine q_ci hB (q_goV F hE hB (k_X10_finds hI σ0 (3 : Int32) hc12) (ca_RX10_79 F.2.2.2.2 ⟨Nat.le_of_ble_eq_true rfl, Nat.le_of_ble_eq_true rfl⟩) rfl po_64 rfl hl.1 rfl (Nat.le_of_ble_eq_true rfl) dX10_lacks_27 ⟨Nat.le_of_ble_eq_true rfl, Nat.le_of_ble_eq_true rfl⟩) (fun H locs hB => ?_)
      exact q_iret F hlocks hr hB (so1 h) (so2 h) dX10_lacks_30
  · replace h := ie_e c2 h
    refine lv_aload_n F.1 F.2.1 dX10_lacks_9 rfl (lv_at hl 0 rfl) ?_
    refine lv_iconst (v := 1) F.1 F.2.1 dX10_lacks_10 (by decide) ?_
    obtain ⟨v17, σ16, hc15, h⟩ := bi_e h
    refine q_ci hB (q_goV F hE hB (k_X10_finds hI σ0 (1 : Int32) hc15) (ca_RX10_79 F.2.2.2.2 ⟨Nat.le_of_ble_eq_true rfl, Nat.le_of_ble_eq_true rfl⟩) rfl po_64 rfl hl.1 rfl (Nat.le_of_ble_eq_true rfl) dX10_lacks_11 ⟨Nat.le_of_ble_eq_true rfl, Nat.le_of_ble_eq_true rfl⟩) (fun H locs hB => ?_)
    exact q_iret F hlocks hr hB (so1 h) (so2 h) dX10_lacks_14
def f_X10_cut (σ0 : Mem) (a0 : Int32) (a1 : Int32) : Option (Int32) := (if a0 = (0 : Int32) then (some a1.toInt8.toInt32) else (if a0 = (1 : Int32) then (some a1.toInt16.toInt32) else (some a1)))
set_option maxHeartbeats 4000000 in
set_option maxRecDepth 100000 in
theorem k_X10_cut {l : Launch} {D : va_G} {cy : Nat → ClassId} {ad : Nat → Nat} {ta tb : Nat} (hI : AdI ad) (σ0 : Mem) (a0 : Int32) (a1 : Int32) {o : Int32} (h : f_X10_cut σ0 a0 a1 = some o) : Met l yX10_cut (Cond.code yX10_cut cX10_cut 2 (some .int) :: wG) rm_X10_cut (CP D cy ad ta tb σ0 [.int a0, .int a1]) (CQi D cy ad o σ0) 0 0 (AA ad) := by
  refine Met.ofW (cc := cX10_cut) (maxL := 2) (ret := (some .int)) (by decide) rfl ?_
  intro p e s m args below meth c s₁ B hml hv
  obtain ⟨rfl, hE, hP⟩ := hv
  have hts := atoms_spec (ws := Cond.code yX10_cut cX10_cut 2 (some .int) :: wG) B.pre
  have F : CallFix p m c cX10_cut 2 s _ wG RX10 := ⟨B.exec, B.bytes, hml, findClass_of_methodNamed B.named, fun w hw => hts w (List.mem_cons_of_mem _ hw)⟩
  have hr := B.returns
  have hlocks := B.notSynchronized
  have hB : Bd D cy ad σ0 s.heap s.heap [] := ⟨hP, va_S.rf⟩
  have hl := lv_entry ([.int a0, .int a1] : List Value) (n := 2) (Nat.le_of_ble_eq_true rfl)
  rw [lg_entry_eq]
  generalize (lg_sl ([.int a0, .int a1] : List Value) ++ List.replicate (2 - (lg_sl ([.int a0, .int a1] : List Value)).length) Slot.unset).toArray = ls at hl ⊢
  have hl : lv_has ls 2 [(0, .int a0), (1, .int a1)] := hl
  unfold f_X10_cut at h
  refine lv_iload_n F.1 F.2.1 dX10_cut_0 rfl (lv_at hl 0 rfl) ?_
  refine lv_if_ne (tgt := 9) F.1 F.2.1 dX10_cut_1 (by decide) (fun c1 => ?_) (fun c1 => ?_)
  · replace h := ie_e c1 h
    refine lv_iload_n F.1 F.2.1 dX10_cut_9 rfl (lv_at hl 0 rfl) ?_
    refine lv_iconst (v := 1) F.1 F.2.1 dX10_cut_10 (by decide) ?_
    refine lv_icmp_ne (tgt := 19) F.1 F.2.1 dX10_cut_11 (by decide) (fun c2 => ?_) (fun c2 => ?_)
    · replace h := ie_e c2 h
      refine lv_iload_n F.1 F.2.1 dX10_cut_19 rfl (lv_at hl 1 rfl) ?_
      exact q_iret F hlocks hr hB (Option.some.inj h) rfl dX10_cut_20
    · replace h := it_e c2 h
      refine lv_iload_n F.1 F.2.1 dX10_cut_14 rfl (lv_at hl 1 rfl) ?_
      refine lv_i2s F.1 F.2.1 dX10_cut_15 rfl ?_
      refine lv_goto (tgt := 20) F.1 F.2.1 dX10_cut_16 (by decide) ?_
      exact q_iret F hlocks hr hB (Option.some.inj h) rfl dX10_cut_20
  · replace h := it_e c1 h
    refine lv_iload_n F.1 F.2.1 dX10_cut_4 rfl (lv_at hl 1 rfl) ?_
    refine lv_i2b F.1 F.2.1 dX10_cut_5 rfl ?_
    refine lv_goto (tgt := 20) F.1 F.2.1 dX10_cut_6 (by decide) ?_
    exact q_iret F hlocks hr hB (Option.some.inj h) rfl dX10_cut_20
def f_X10_lay (σ0 : Mem) (a1 : Int32) (a2 : Int32) (a3 : Int32) (a4 : Int32) : Option (Int32 × Mem) := (bp (f_X10_isSheet σ0 a1) (fun v2 => (if v2 = (0 : Int32) then (some ((-2 : Int32), σ0)) else (bp (f_X10_in σ0 a2.toInt64 (0 : Int64) (2 : Int64)) (fun v5 => (if v5 = (0 : Int32) then (some ((-2 : Int32), σ0)) else (bi (f_X10_lacks σ0 a1 a2 a3) (fun v9 σ8 => (if v9 = (0 : Int32) then (bp (f_X10_cut σ8 a2 a4) (fun v12 => (ck (((60 : Int32) * a1) + a3) 240 (lt (ms σ8 67 (((60 : Int32) * a1) + a3).toNatClampNeg v12) (fun σ14 => (some ((1 : Int32), σ14))))))) else (some (v9, σ8)))))))))))
set_option maxHeartbeats 4000000 in
set_option maxRecDepth 100000 in
theorem k_X10_lay {l : Launch} {D : va_G} {cy : Nat → ClassId} {ad : Nat → Nat} {ta tb : Nat} (hI : AdI ad) (σ0 : Mem) (a1 : Int32) (a2 : Int32) (a3 : Int32) (a4 : Int32) {o : Int32 × Mem} (h : f_X10_lay σ0 a1 a2 a3 a4 = some o) : Met l yX10_lay (Cond.code yX10_lay cX10_lay 6 (some .int) :: wG) rm_X10_lay (CP D cy ad ta tb σ0 [.ref (ad 64), .int a1, .int a2, .int a3, .int a4]) (CQi D cy ad o.1 o.2) 0 0 (AA ad) := by
  refine Met.ofW (cc := cX10_lay) (maxL := 6) (ret := (some .int)) (by decide) rfl ?_
  intro p e s m args below meth c s₁ B hml hv
  obtain ⟨rfl, hE, hP⟩ := hv
  have hts := atoms_spec (ws := Cond.code yX10_lay cX10_lay 6 (some .int) :: wG) B.pre
  have F : CallFix p m c cX10_lay 6 s _ wG RX10 := ⟨B.exec, B.bytes, hml, findClass_of_methodNamed B.named, fun w hw => hts w (List.mem_cons_of_mem _ hw)⟩
  have hr := B.returns
  have hlocks := B.notSynchronized
  have hB : Bd D cy ad σ0 s.heap s.heap [] := ⟨hP, va_S.rf⟩
  have hl := lv_entry ([.ref (ad 64), .int a1, .int a2, .int a3, .int a4] : List Value) (n := 6) (Nat.le_of_ble_eq_true rfl)
  rw [lg_entry_eq]
  generalize (lg_sl ([.ref (ad 64), .int a1, .int a2, .int a3, .int a4] : List Value) ++ List.replicate (6 - (lg_sl ([.ref (ad 64), .int a1, .int a2, .int a3, .int a4] : List Value)).length) Slot.unset).toArray = ls at hl ⊢
  have hl : lv_has ls 6 [(0, .ref (ad 64)), (1, .int a1), (2, .int a2), (3, .int a3), (4, .int a4)] := hl
  unfold f_X10_lay at h
  refine lv_iload_n F.1 F.2.1 dX10_lay_0 rfl (lv_at hl 1 rfl) ?_
  obtain ⟨v2, hc1, h⟩ := bp_e h
  refine q_ci hB (q_goS F hE hB (k_X10_isSheet hI σ0 a1 hc1) (ca_RX10_73 F.2.2.2.2 ⟨Nat.le_of_ble_eq_true rfl, Nat.le_of_ble_eq_true rfl⟩) rfl hl.1 rfl (Nat.le_of_ble_eq_true rfl) dX10_lay_1 ⟨Nat.le_of_ble_eq_true rfl, Nat.le_of_ble_eq_true rfl⟩) (fun H locs hB => ?_)
  refine lv_if_eq (tgt := 19) F.1 F.2.1 dX10_lay_4 (by decide) (fun c3 => ?_) (fun c3 => ?_)
  · replace h := it_e c3 h
    refine lv_bipush (v := (-2)) F.1 F.2.1 dX10_lay_19 (by decide) ?_
    exact q_iret F hlocks hr hB (so1 h) (so2 h) dX10_lay_21
  · replace h := ie_e c3 h
    refine lv_iload_n F.1 F.2.1 dX10_lay_7 rfl (lv_at hl 2 rfl) ?_
    refine lv_i2l F.1 F.2.1 dX10_lay_8 rfl ?_
    refine lv_lconst (v := 0) F.1 F.2.1 dX10_lay_9 (by decide) ?_
    refine lv_ldc2 (v := 2) F.1 F.2.1 F.2.2.2.1 (F.2.2.2.2 _ wm_k_RX10_77) dX10_lay_10 ?_
    obtain ⟨v5, hc4, h⟩ := bp_e h
    refine q_ci hB (q_goS F hE hB (k_X10_in hI σ0 a2.toInt64 (0 : Int64) (2 : Int64) hc4) (ca_RX10_64 F.2.2.2.2 ⟨Nat.le_of_ble_eq_true rfl, Nat.le_of_ble_eq_true rfl⟩) rfl hl.1 rfl (Nat.le_of_ble_eq_true rfl) dX10_lay_13 ⟨Nat.le_of_ble_eq_true rfl, Nat.le_of_ble_eq_true rfl⟩) (fun H locs hB => ?_)
    refine lv_if_ne (tgt := 22) F.1 F.2.1 dX10_lay_16 (by decide) (fun c6 => ?_) (fun c6 => ?_)
    · replace h := ie_e c6 h
      refine lv_aload_n F.1 F.2.1 dX10_lay_22 rfl (lv_at hl 0 rfl) ?_
      refine lv_iload_n F.1 F.2.1 dX10_lay_23 rfl (lv_at hl 1 rfl) ?_
      refine lv_iload_n F.1 F.2.1 dX10_lay_24 rfl (lv_at hl 2 rfl) ?_
      refine lv_iload_n F.1 F.2.1 dX10_lay_25 rfl (lv_at hl 3 rfl) ?_
      obtain ⟨v9, σ8, hc7, h⟩ := bi_e h
      refine q_ci hB (q_goV F hE hB (k_X10_lacks hI σ0 a1 a2 a3 hc7) (ca_RX10_83 F.2.2.2.2 ⟨Nat.le_of_ble_eq_true rfl, Nat.le_of_ble_eq_true rfl⟩) rfl po_64 rfl hl.1 rfl (Nat.le_of_ble_eq_true rfl) dX10_lay_26 ⟨Nat.le_of_ble_eq_true rfl, Nat.le_of_ble_eq_true rfl⟩) (fun H locs hB => ?_)
      refine lv_istore (lv' := [(5, .int v9), (0, .ref (ad 64)), (1, .int a1), (2, .int a2), (3, .int a3), (4, .int a4)]) F.1 F.2.1 dX10_lay_29 hl (by decide) rfl (fun ls hl => ?_)
      refine lv_iload F.1 F.2.1 dX10_lay_31 (lv_at hl 0 rfl) ?_
      refine lv_if_eq (tgt := 39) F.1 F.2.1 dX10_lay_33 (by decide) (fun c10 => ?_) (fun c10 => ?_)
      · replace h := it_e c10 h
        refine lv_aload_n F.1 F.2.1 dX10_lay_39 rfl (lv_at hl 1 rfl) ?_
        refine gf_RX10_16 F hE hB po_64 rfl dX10_lay_40 ?_
        refine lv_bipush (v := 60) F.1 F.2.1 dX10_lay_43 (by decide) ?_
        refine lv_iload_n F.1 F.2.1 dX10_lay_45 rfl (lv_at hl 2 rfl) ?_
        refine lv_imul F.1 F.2.1 dX10_lay_46 ?_
        refine lv_iload_n F.1 F.2.1 dX10_lay_47 rfl (lv_at hl 4 rfl) ?_
        refine lv_iadd F.1 F.2.1 dX10_lay_48 ?_
        refine lv_iload_n F.1 F.2.1 dX10_lay_49 rfl (lv_at hl 3 rfl) ?_
        refine lv_iload F.1 F.2.1 dX10_lay_50 (lv_at hl 5 rfl) ?_
        obtain ⟨v12, hc11, h⟩ := bp_e h
        refine q_ci hB (q_goS F hE hB (k_X10_cut hI σ8 a2 a4 hc11) (ca_RX10_87 F.2.2.2.2 ⟨Nat.le_of_ble_eq_true rfl, Nat.le_of_ble_eq_true rfl⟩) rfl hl.1 rfl (Nat.le_of_ble_eq_true rfl) dX10_lay_52 ⟨Nat.le_of_ble_eq_true rfl, Nat.le_of_ble_eq_true rfl⟩) (fun H locs hB => ?_)
        obtain ⟨hi13, h⟩ := ck_e h
        obtain ⟨σ14, e15, h⟩ := lt_e h
        refine q_iast F hE hI hB row_67 hi13 dX10_lay_55 e15 (fun H locs hB => ?_)
        refine lv_iconst (v := 1) F.1 F.2.1 dX10_lay_56 (by decide) ?_
        exact q_iret F hlocks hr hB (so1 h) (so2 h) dX10_lay_57
      · replace h := ie_e c10 h
        refine lv_iload F.1 F.2.1 dX10_lay_36 (lv_at hl 0 rfl) ?_
        exact q_iret F hlocks hr hB (so1 h) (so2 h) dX10_lay_38
    · replace h := it_e c6 h
      refine lv_bipush (v := (-2)) F.1 F.2.1 dX10_lay_19 (by decide) ?_
      exact q_iret F hlocks hr hB (so1 h) (so2 h) dX10_lay_21
def f_X10_get_b29 (σ0 : Mem) : Option (Int32 × Mem) := (some ((-2147483648 : Int32), σ0))
def f_X10_get (σ0 : Mem) (a1 : Int32) (a2 : Int32) (a3 : Int32) : Option (Int32 × Mem) := (bp (f_X10_isSheet σ0 a1) (fun v2 => (if v2 = (0 : Int32) then (f_X10_get_b29 σ0) else (bp (f_X10_in σ0 a2.toInt64 (0 : Int64) (2 : Int64)) (fun v5 => (if v5 = (0 : Int32) then (f_X10_get_b29 σ0) else (bi (f_X10_lacks σ0 a1 a2 a3) (fun v9 σ8 => (if v9 = (0 : Int32) then (ck (((60 : Int32) * a1) + a3) 240 (some ((σ8.1 67 (((60 : Int32) * a1) + a3).toNatClampNeg), σ8))) else (f_X10_get_b29 σ8))))))))))
set_option maxHeartbeats 4000000 in
set_option maxRecDepth 100000 in
theorem k_X10_get {l : Launch} {D : va_G} {cy : Nat → ClassId} {ad : Nat → Nat} {ta tb : Nat} (hI : AdI ad) (σ0 : Mem) (a1 : Int32) (a2 : Int32) (a3 : Int32) {o : Int32 × Mem} (h : f_X10_get σ0 a1 a2 a3 = some o) : Met l yX10_get (Cond.code yX10_get cX10_get 4 (some .int) :: wG) rm_X10_get (CP D cy ad ta tb σ0 [.ref (ad 64), .int a1, .int a2, .int a3]) (CQi D cy ad o.1 o.2) 0 0 (AA ad) := by
  refine Met.ofW (cc := cX10_get) (maxL := 4) (ret := (some .int)) (by decide) rfl ?_
  intro p e s m args below meth c s₁ B hml hv
  obtain ⟨rfl, hE, hP⟩ := hv
  have hts := atoms_spec (ws := Cond.code yX10_get cX10_get 4 (some .int) :: wG) B.pre
  have F : CallFix p m c cX10_get 4 s _ wG RX10 := ⟨B.exec, B.bytes, hml, findClass_of_methodNamed B.named, fun w hw => hts w (List.mem_cons_of_mem _ hw)⟩
  have hr := B.returns
  have hlocks := B.notSynchronized
  have hB : Bd D cy ad σ0 s.heap s.heap [] := ⟨hP, va_S.rf⟩
  have hl := lv_entry ([.ref (ad 64), .int a1, .int a2, .int a3] : List Value) (n := 4) (Nat.le_of_ble_eq_true rfl)
  rw [lg_entry_eq]
  generalize (lg_sl ([.ref (ad 64), .int a1, .int a2, .int a3] : List Value) ++ List.replicate (4 - (lg_sl ([.ref (ad 64), .int a1, .int a2, .int a3] : List Value)).length) Slot.unset).toArray = ls at hl ⊢
  have hl : lv_has ls 4 [(0, .ref (ad 64)), (1, .int a1), (2, .int a2), (3, .int a3)] := hl
  have B29 : ∀ (σ0 : Mem) (H : Heap) (locs : List Loc) (ls : Array Slot), f_X10_get_b29 σ0 = some o → Bd D cy ad σ0 s.heap H locs → lv_has ls 4 [] → W p l e rm_X10_get s m ([.ref (ad 64), .int a1, .int a2, .int a3] : List Value).toArray below meth c H locs 0 0 (MQ below (CQi D cy ad o.1 o.2) ([.ref (ad 64), .int a1, .int a2, .int a3] : List Value).toArray s 0 0 (AA ad)) (F0 m 29 ls []) := by
    intro σ0 H locs ls h hB hl
    unfold f_X10_get_b29 at h
    refine lv_ldc (v := (-2147483648)) F.1 F.2.1 F.2.2.2.1 (F.2.2.2.2 _ wm_k_RX10_91) dX10_get_29 ?_
    exact q_iret F hlocks hr hB (so1 h) (so2 h) dX10_get_31
  unfold f_X10_get at h
  refine lv_iload_n F.1 F.2.1 dX10_get_0 rfl (lv_at hl 1 rfl) ?_
  obtain ⟨v2, hc1, h⟩ := bp_e h
  refine q_ci hB (q_goS F hE hB (k_X10_isSheet hI σ0 a1 hc1) (ca_RX10_73 F.2.2.2.2 ⟨Nat.le_of_ble_eq_true rfl, Nat.le_of_ble_eq_true rfl⟩) rfl hl.1 rfl (Nat.le_of_ble_eq_true rfl) dX10_get_1 ⟨Nat.le_of_ble_eq_true rfl, Nat.le_of_ble_eq_true rfl⟩) (fun H locs hB => ?_)
  refine lv_if_eq (tgt := 29) F.1 F.2.1 dX10_get_4 (by decide) (fun c3 => ?_) (fun c3 => ?_)
  · replace h := it_e c3 h
    exact B29 σ0 _ _ _ h hB (lv_sub hl [] rfl)
  · replace h := ie_e c3 h
    refine lv_iload_n F.1 F.2.1 dX10_get_7 rfl (lv_at hl 2 rfl) ?_
    refine lv_i2l F.1 F.2.1 dX10_get_8 rfl ?_
    refine lv_lconst (v := 0) F.1 F.2.1 dX10_get_9 (by decide) ?_
    refine lv_ldc2 (v := 2) F.1 F.2.1 F.2.2.2.1 (F.2.2.2.2 _ wm_k_RX10_77) dX10_get_10 ?_
    obtain ⟨v5, hc4, h⟩ := bp_e h
    refine q_ci hB (q_goS F hE hB (k_X10_in hI σ0 a2.toInt64 (0 : Int64) (2 : Int64) hc4) (ca_RX10_64 F.2.2.2.2 ⟨Nat.le_of_ble_eq_true rfl, Nat.le_of_ble_eq_true rfl⟩) rfl hl.1 rfl (Nat.le_of_ble_eq_true rfl) dX10_get_13 ⟨Nat.le_of_ble_eq_true rfl, Nat.le_of_ble_eq_true rfl⟩) (fun H locs hB => ?_)
    refine lv_if_eq (tgt := 29) F.1 F.2.1 dX10_get_16 (by decide) (fun c6 => ?_) (fun c6 => ?_)
    · replace h := it_e c6 h
      exact B29 σ0 _ _ _ h hB (lv_sub hl [] rfl)
    · replace h := ie_e c6 h
      refine lv_aload_n F.1 F.2.1 dX10_get_19 rfl (lv_at hl 0 rfl) ?_
      refine lv_iload_n F.1 F.2.1 dX10_get_20 rfl (lv_at hl 1 rfl) ?_
      refine lv_iload_n F.1 F.2.1 dX10_get_21 rfl (lv_at hl 2 rfl) ?_
      refine lv_iload_n F.1 F.2.1 dX10_get_22 rfl (lv_at hl 3 rfl) ?_
      obtain ⟨v9, σ8, hc7, h⟩ := bi_e h
      refine q_ci hB (q_goV F hE hB (k_X10_lacks hI σ0 a1 a2 a3 hc7) (ca_RX10_83 F.2.2.2.2 ⟨Nat.le_of_ble_eq_true rfl, Nat.le_of_ble_eq_true rfl⟩) rfl po_64 rfl hl.1 rfl (Nat.le_of_ble_eq_true rfl) dX10_get_23 ⟨Nat.le_of_ble_eq_true rfl, Nat.le_of_ble_eq_true rfl⟩) (fun H locs hB => ?_)
      refine lv_if_eq (tgt := 32) F.1 F.2.1 dX10_get_26 (by decide) (fun c10 => ?_) (fun c10 => ?_)
      · replace h := it_e c10 h
        refine lv_aload_n F.1 F.2.1 dX10_get_32 rfl (lv_at hl 0 rfl) ?_
        refine gf_RX10_16 F hE hB po_64 rfl dX10_get_33 ?_
        refine lv_bipush (v := 60) F.1 F.2.1 dX10_get_36 (by decide) ?_
        refine lv_iload_n F.1 F.2.1 dX10_get_38 rfl (lv_at hl 1 rfl) ?_
        refine lv_imul F.1 F.2.1 dX10_get_39 ?_
        refine lv_iload_n F.1 F.2.1 dX10_get_40 rfl (lv_at hl 3 rfl) ?_
        refine lv_iadd F.1 F.2.1 dX10_get_41 ?_
        obtain ⟨hi11, h⟩ := ck_e h
        refine q_iald F hE hB po_67 hi11 dX10_get_42 ?_
        exact q_iret F hlocks hr hB (so1 h) (so2 h) dX10_get_43
      · replace h := ie_e c10 h
        exact B29 σ8 _ _ _ h hB (lv_sub hl [] rfl)
