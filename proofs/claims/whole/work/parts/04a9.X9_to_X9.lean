def f_X9_likedMarks_b34 (k4 : Mem → Int32 → Int32 → Int32 → Option (Int32 × Mem)) (σ0 : Mem) (x1 : Int32) (x2 : Int32) (x3 : Int32) : Option (Int32 × Mem) := (k4 σ0 x1 x2 (x3 + (1 : Int32)))
def f_X9_likedMarks_b4 : Nat → Mem → Int32 → Int32 → Int32 → Option (Int32 × Mem)
  | 0, _, _, _, _ => none
  | n4 + 1, σ0, x1, x2, x3 => (if (6 : Int32) ≤ x3 then (some (x2, σ0)) else (ck x1 8 (bi (f_X9_couldHaveBeen σ0 x1 x3 (σ0.1 9 x1.toNatClampNeg)) (fun v5 σ4 => (if v5 = (0 : Int32) then (f_X9_likedMarks_b34 (f_X9_likedMarks_b4 n4) σ4 x1 x2 x3) else (f_X9_likedMarks_b34 (f_X9_likedMarks_b4 n4) σ4 x1 (x2 ||| ((1 : Int32) <<< (x3 &&& 31))) x3))))))
def f_X9_likedMarks (σ0 : Mem) (a1 : Int32) : Option (Int32 × Mem) := (f_X9_likedMarks_b4 300 σ0 a1 (0 : Int32) (0 : Int32))
set_option maxHeartbeats 4000000 in
set_option maxRecDepth 100000 in
theorem k_X9_likedMarks {l : Launch} {D : va_G} {cy : Nat → ClassId} {ad : Nat → Nat} {ta tb : Nat} (hI : AdI ad) (σ0 : Mem) (a1 : Int32) {o : Int32 × Mem} (h : f_X9_likedMarks σ0 a1 = some o) : Met l yX9_likedMarks (Cond.code yX9_likedMarks cX9_likedMarks 4 (some .int) :: wG) rm_X9_likedMarks (CP D cy ad ta tb σ0 [.ref (ad 0), .int a1]) (CQi D cy ad o.1 o.2) 0 0 (AA ad) := by
  refine Met.ofW (cc := cX9_likedMarks) (maxL := 4) (ret := (some .int)) (by decide) rfl ?_
  intro p e s m args below meth c s₁ B hml hv
  obtain ⟨rfl, hE, hP⟩ := hv
  have hts := atoms_spec (ws := Cond.code yX9_likedMarks cX9_likedMarks 4 (some .int) :: wG) B.pre
  have F : CallFix p m c cX9_likedMarks 4 s _ wG RX9 := ⟨B.exec, B.bytes, hml, findClass_of_methodNamed B.named, fun w hw => hts w (List.mem_cons_of_mem _ hw)⟩
  have hr := B.returns
  have hlocks := B.notSynchronized
  have hB : Bd D cy ad σ0 s.heap s.heap [] := ⟨hP, va_S.rf⟩
  have hl := lv_entry ([.ref (ad 0), .int a1] : List Value) (n := 4) (Nat.le_of_ble_eq_true rfl)
  rw [lg_entry_eq]
  generalize (lg_sl ([.ref (ad 0), .int a1] : List Value) ++ List.replicate (4 - (lg_sl ([.ref (ad 0), .int a1] : List Value)).length) Slot.unset).toArray = ls at hl ⊢
  have hl : lv_has ls 4 [(0, .ref (ad 0)), (1, .int a1)] := hl
  have B4 : ∀ (n4 : Nat) (σ0 : Mem) (H : Heap) (locs : List Loc) (ls : Array Slot) (x1 : Int32) (x2 : Int32) (x3 : Int32), f_X9_likedMarks_b4 n4 σ0 x1 x2 x3 = some o → Bd D cy ad σ0 s.heap H locs → lv_has ls 4 [(0, .ref (ad 0)), (1, .int x1), (2, .int x2), (3, .int x3)] → W p l e rm_X9_likedMarks s m ([.ref (ad 0), .int a1] : List Value).toArray below meth c H locs 0 0 (MQ below (CQi D cy ad o.1 o.2) ([.ref (ad 0), .int a1] : List Value).toArray s 0 0 (AA ad)) (F0 m 4 ls []) := by
    intro n4
    induction n4 with
    | zero => intro σ0 H locs ls x1 x2 x3 h hB hl; cases h
    | succ n4 ih4 =>
      have B34 : ∀ (σ0 : Mem) (H : Heap) (locs : List Loc) (ls : Array Slot) (x1 : Int32) (x2 : Int32) (x3 : Int32), f_X9_likedMarks_b34 (f_X9_likedMarks_b4 n4) σ0 x1 x2 x3 = some o → Bd D cy ad σ0 s.heap H locs → lv_has ls 4 [(0, .ref (ad 0)), (1, .int x1), (2, .int x2), (3, .int x3)] → W p l e rm_X9_likedMarks s m ([.ref (ad 0), .int a1] : List Value).toArray below meth c H locs 0 0 (MQ below (CQi D cy ad o.1 o.2) ([.ref (ad 0), .int a1] : List Value).toArray s 0 0 (AA ad)) (F0 m 34 ls []) := by
        intro σ0 H locs ls x1 x2 x3 h hB hl
        unfold f_X9_likedMarks_b34 at h
        refine lv_iinc (v := (x3 + (1 : Int32))) (lv' := [(3, .int (x3 + (1 : Int32))), (0, .ref (ad 0)), (1, .int x1), (2, .int x2)]) F.1 F.2.1 dX9_likedMarks_34 hl (k := 3) rfl rfl (by decide) rfl (fun ls hl => ?_)
        refine lv_goto (tgt := 4) F.1 F.2.1 dX9_likedMarks_37 (by decide) ?_
        exact ih4 σ0 _ _ _ x1 x2 (x3 + (1 : Int32)) h hB (lv_sub hl [1, 2, 3, 0] rfl)
      intro σ0 H locs ls x1 x2 x3 h hB hl
      rw [f_X9_likedMarks_b4] at h
      refine lv_iload_n F.1 F.2.1 dX9_likedMarks_4 rfl (lv_at hl 3 rfl) ?_
      refine lv_bipush (v := 6) F.1 F.2.1 dX9_likedMarks_5 (by decide) ?_
      refine lv_icmp_ge (tgt := 40) F.1 F.2.1 dX9_likedMarks_7 (by decide) (fun c1 => ?_) (fun c1 => ?_)
      · replace h := it_e c1 h
        refine lv_iload_n F.1 F.2.1 dX9_likedMarks_40 rfl (lv_at hl 2 rfl) ?_
        exact q_iret F hlocks hr hB (so1 h) (so2 h) dX9_likedMarks_41
      · replace h := ie_e c1 h
        refine lv_aload_n F.1 F.2.1 dX9_likedMarks_10 rfl (lv_at hl 0 rfl) ?_
        refine lv_iload_n F.1 F.2.1 dX9_likedMarks_11 rfl (lv_at hl 1 rfl) ?_
        refine lv_iload_n F.1 F.2.1 dX9_likedMarks_12 rfl (lv_at hl 3 rfl) ?_
        refine lv_aload_n F.1 F.2.1 dX9_likedMarks_13 rfl (lv_at hl 0 rfl) ?_
        refine gf_RX9_18 F hE hB po_0 rfl dX9_likedMarks_14 ?_
        refine gf_RX9_217 F hE hB po_6 rfl dX9_likedMarks_17 ?_
        refine lv_iload_n F.1 F.2.1 dX9_likedMarks_20 rfl (lv_at hl 1 rfl) ?_
        obtain ⟨hi2, h⟩ := ck_e h
        refine q_iald F hE hB po_9 hi2 dX9_likedMarks_21 ?_
        obtain ⟨v5, σ4, hc3, h⟩ := bi_e h
        refine q_ci hB (q_goV F hE hB (k_X9_couldHaveBeen hI σ0 x1 x3 (σ0.1 9 x1.toNatClampNeg) hc3) (ca_RX9_220 F.2.2.2.2 ⟨Nat.le_of_ble_eq_true rfl, Nat.le_of_ble_eq_true rfl⟩) rfl po_0 rfl hl.1 rfl (Nat.le_of_ble_eq_true rfl) dX9_likedMarks_22 ⟨Nat.le_of_ble_eq_true rfl, Nat.le_of_ble_eq_true rfl⟩) (fun H locs hB => ?_)
        refine lv_if_eq (tgt := 34) F.1 F.2.1 dX9_likedMarks_25 (by decide) (fun c6 => ?_) (fun c6 => ?_)
        · replace h := it_e c6 h
          exact B34 σ4 _ _ _ x1 x2 x3 h hB (lv_sub hl [0, 1, 2, 3] rfl)
        · replace h := ie_e c6 h
          refine lv_iload_n F.1 F.2.1 dX9_likedMarks_28 rfl (lv_at hl 2 rfl) ?_
          refine lv_iconst (v := 1) F.1 F.2.1 dX9_likedMarks_29 (by decide) ?_
          refine lv_iload_n F.1 F.2.1 dX9_likedMarks_30 rfl (lv_at hl 3 rfl) ?_
          refine lv_ishl F.1 F.2.1 dX9_likedMarks_31 ?_
          refine lv_ior F.1 F.2.1 dX9_likedMarks_32 ?_
          refine lv_istore_n (lv' := [(2, .int (x2 ||| ((1 : Int32) <<< (x3 &&& 31)))), (0, .ref (ad 0)), (1, .int x1), (3, .int x3)]) F.1 F.2.1 dX9_likedMarks_33 rfl hl (by decide) rfl (fun ls hl => ?_)
          exact B34 σ4 _ _ _ x1 (x2 ||| ((1 : Int32) <<< (x3 &&& 31))) x3 h hB (lv_sub hl [1, 2, 0, 3] rfl)
  unfold f_X9_likedMarks at h
  refine lv_iconst (v := 0) F.1 F.2.1 dX9_likedMarks_0 (by decide) ?_
  refine lv_istore_n (lv' := [(2, .int (0 : Int32)), (0, .ref (ad 0)), (1, .int a1)]) F.1 F.2.1 dX9_likedMarks_1 rfl hl (by decide) rfl (fun ls hl => ?_)
  refine lv_iconst (v := 0) F.1 F.2.1 dX9_likedMarks_2 (by decide) ?_
  refine lv_istore_n (lv' := [(3, .int (0 : Int32)), (2, .int (0 : Int32)), (0, .ref (ad 0)), (1, .int a1)]) F.1 F.2.1 dX9_likedMarks_3 rfl hl (by decide) rfl (fun ls hl => ?_)
  exact B4 300 σ0 _ _ _ a1 (0 : Int32) (0 : Int32) h hB (lv_sub hl [2, 3, 1, 0] rfl)
def f_X9_likedManies_b34 (k4 : Mem → Int32 → Int32 → Int32 → Option (Int32 × Mem)) (σ0 : Mem) (x1 : Int32) (x2 : Int32) (x3 : Int32) : Option (Int32 × Mem) := (k4 σ0 x1 x2 (x3 + (1 : Int32)))
def f_X9_likedManies_b4 : Nat → Mem → Int32 → Int32 → Int32 → Option (Int32 × Mem)
  | 0, _, _, _, _ => none
  | n4 + 1, σ0, x1, x2, x3 => (if (9 : Int32) < x3 then (some (x2, σ0)) else (ck x1 8 (bi (f_X9_couldHaveBeen σ0 x1 (σ0.1 8 x1.toNatClampNeg) x3) (fun v5 σ4 => (if v5 = (0 : Int32) then (f_X9_likedManies_b34 (f_X9_likedManies_b4 n4) σ4 x1 x2 x3) else (f_X9_likedManies_b34 (f_X9_likedManies_b4 n4) σ4 x1 (x2 ||| ((1 : Int32) <<< (x3 &&& 31))) x3))))))
def f_X9_likedManies (σ0 : Mem) (a1 : Int32) : Option (Int32 × Mem) := (f_X9_likedManies_b4 300 σ0 a1 (0 : Int32) (1 : Int32))
set_option maxHeartbeats 4000000 in
set_option maxRecDepth 100000 in
theorem k_X9_likedManies {l : Launch} {D : va_G} {cy : Nat → ClassId} {ad : Nat → Nat} {ta tb : Nat} (hI : AdI ad) (σ0 : Mem) (a1 : Int32) {o : Int32 × Mem} (h : f_X9_likedManies σ0 a1 = some o) : Met l yX9_likedManies (Cond.code yX9_likedManies cX9_likedManies 4 (some .int) :: wG) rm_X9_likedManies (CP D cy ad ta tb σ0 [.ref (ad 0), .int a1]) (CQi D cy ad o.1 o.2) 0 0 (AA ad) := by
  refine Met.ofW (cc := cX9_likedManies) (maxL := 4) (ret := (some .int)) (by decide) rfl ?_
  intro p e s m args below meth c s₁ B hml hv
  obtain ⟨rfl, hE, hP⟩ := hv
  have hts := atoms_spec (ws := Cond.code yX9_likedManies cX9_likedManies 4 (some .int) :: wG) B.pre
  have F : CallFix p m c cX9_likedManies 4 s _ wG RX9 := ⟨B.exec, B.bytes, hml, findClass_of_methodNamed B.named, fun w hw => hts w (List.mem_cons_of_mem _ hw)⟩
  have hr := B.returns
  have hlocks := B.notSynchronized
  have hB : Bd D cy ad σ0 s.heap s.heap [] := ⟨hP, va_S.rf⟩
  have hl := lv_entry ([.ref (ad 0), .int a1] : List Value) (n := 4) (Nat.le_of_ble_eq_true rfl)
  rw [lg_entry_eq]
  generalize (lg_sl ([.ref (ad 0), .int a1] : List Value) ++ List.replicate (4 - (lg_sl ([.ref (ad 0), .int a1] : List Value)).length) Slot.unset).toArray = ls at hl ⊢
  have hl : lv_has ls 4 [(0, .ref (ad 0)), (1, .int a1)] := hl
  have B4 : ∀ (n4 : Nat) (σ0 : Mem) (H : Heap) (locs : List Loc) (ls : Array Slot) (x1 : Int32) (x2 : Int32) (x3 : Int32), f_X9_likedManies_b4 n4 σ0 x1 x2 x3 = some o → Bd D cy ad σ0 s.heap H locs → lv_has ls 4 [(0, .ref (ad 0)), (1, .int x1), (2, .int x2), (3, .int x3)] → W p l e rm_X9_likedManies s m ([.ref (ad 0), .int a1] : List Value).toArray below meth c H locs 0 0 (MQ below (CQi D cy ad o.1 o.2) ([.ref (ad 0), .int a1] : List Value).toArray s 0 0 (AA ad)) (F0 m 4 ls []) := by
    intro n4
    induction n4 with
    | zero => intro σ0 H locs ls x1 x2 x3 h hB hl; cases h
    | succ n4 ih4 =>
      have B34 : ∀ (σ0 : Mem) (H : Heap) (locs : List Loc) (ls : Array Slot) (x1 : Int32) (x2 : Int32) (x3 : Int32), f_X9_likedManies_b34 (f_X9_likedManies_b4 n4) σ0 x1 x2 x3 = some o → Bd D cy ad σ0 s.heap H locs → lv_has ls 4 [(0, .ref (ad 0)), (1, .int x1), (2, .int x2), (3, .int x3)] → W p l e rm_X9_likedManies s m ([.ref (ad 0), .int a1] : List Value).toArray below meth c H locs 0 0 (MQ below (CQi D cy ad o.1 o.2) ([.ref (ad 0), .int a1] : List Value).toArray s 0 0 (AA ad)) (F0 m 34 ls []) := by
        intro σ0 H locs ls x1 x2 x3 h hB hl
        unfold f_X9_likedManies_b34 at h
        refine lv_iinc (v := (x3 + (1 : Int32))) (lv' := [(3, .int (x3 + (1 : Int32))), (0, .ref (ad 0)), (1, .int x1), (2, .int x2)]) F.1 F.2.1 dX9_likedManies_34 hl (k := 3) rfl rfl (by decide) rfl (fun ls hl => ?_)
        refine lv_goto (tgt := 4) F.1 F.2.1 dX9_likedManies_37 (by decide) ?_
        exact ih4 σ0 _ _ _ x1 x2 (x3 + (1 : Int32)) h hB (lv_sub hl [1, 2, 3, 0] rfl)
      intro σ0 H locs ls x1 x2 x3 h hB hl
      rw [f_X9_likedManies_b4] at h
      refine lv_iload_n F.1 F.2.1 dX9_likedManies_4 rfl (lv_at hl 3 rfl) ?_
      refine lv_bipush (v := 9) F.1 F.2.1 dX9_likedManies_5 (by decide) ?_
      refine lv_icmp_gt (tgt := 40) F.1 F.2.1 dX9_likedManies_7 (by decide) (fun c1 => ?_) (fun c1 => ?_)
      · replace h := it_e c1 h
        refine lv_iload_n F.1 F.2.1 dX9_likedManies_40 rfl (lv_at hl 2 rfl) ?_
        exact q_iret F hlocks hr hB (so1 h) (so2 h) dX9_likedManies_41
      · replace h := ie_e c1 h
        refine lv_aload_n F.1 F.2.1 dX9_likedManies_10 rfl (lv_at hl 0 rfl) ?_
        refine lv_iload_n F.1 F.2.1 dX9_likedManies_11 rfl (lv_at hl 1 rfl) ?_
        refine lv_aload_n F.1 F.2.1 dX9_likedManies_12 rfl (lv_at hl 0 rfl) ?_
        refine gf_RX9_18 F hE hB po_0 rfl dX9_likedManies_13 ?_
        refine gf_RX9_358 F hE hB po_6 rfl dX9_likedManies_16 ?_
        refine lv_iload_n F.1 F.2.1 dX9_likedManies_19 rfl (lv_at hl 1 rfl) ?_
        obtain ⟨hi2, h⟩ := ck_e h
        refine q_iald F hE hB po_8 hi2 dX9_likedManies_20 ?_
        refine lv_iload_n F.1 F.2.1 dX9_likedManies_21 rfl (lv_at hl 3 rfl) ?_
        obtain ⟨v5, σ4, hc3, h⟩ := bi_e h
        refine q_ci hB (q_goV F hE hB (k_X9_couldHaveBeen hI σ0 x1 (σ0.1 8 x1.toNatClampNeg) x3 hc3) (ca_RX9_220 F.2.2.2.2 ⟨Nat.le_of_ble_eq_true rfl, Nat.le_of_ble_eq_true rfl⟩) rfl po_0 rfl hl.1 rfl (Nat.le_of_ble_eq_true rfl) dX9_likedManies_22 ⟨Nat.le_of_ble_eq_true rfl, Nat.le_of_ble_eq_true rfl⟩) (fun H locs hB => ?_)
        refine lv_if_eq (tgt := 34) F.1 F.2.1 dX9_likedManies_25 (by decide) (fun c6 => ?_) (fun c6 => ?_)
        · replace h := it_e c6 h
          exact B34 σ4 _ _ _ x1 x2 x3 h hB (lv_sub hl [0, 1, 2, 3] rfl)
        · replace h := ie_e c6 h
          refine lv_iload_n F.1 F.2.1 dX9_likedManies_28 rfl (lv_at hl 2 rfl) ?_
          refine lv_iconst (v := 1) F.1 F.2.1 dX9_likedManies_29 (by decide) ?_
          refine lv_iload_n F.1 F.2.1 dX9_likedManies_30 rfl (lv_at hl 3 rfl) ?_
          refine lv_ishl F.1 F.2.1 dX9_likedManies_31 ?_
          refine lv_ior F.1 F.2.1 dX9_likedManies_32 ?_
          refine lv_istore_n (lv' := [(2, .int (x2 ||| ((1 : Int32) <<< (x3 &&& 31)))), (0, .ref (ad 0)), (1, .int x1), (3, .int x3)]) F.1 F.2.1 dX9_likedManies_33 rfl hl (by decide) rfl (fun ls hl => ?_)
          exact B34 σ4 _ _ _ x1 (x2 ||| ((1 : Int32) <<< (x3 &&& 31))) x3 h hB (lv_sub hl [1, 2, 0, 3] rfl)
  unfold f_X9_likedManies at h
  refine lv_iconst (v := 0) F.1 F.2.1 dX9_likedManies_0 (by decide) ?_
  refine lv_istore_n (lv' := [(2, .int (0 : Int32)), (0, .ref (ad 0)), (1, .int a1)]) F.1 F.2.1 dX9_likedManies_1 rfl hl (by decide) rfl (fun ls hl => ?_)
  refine lv_iconst (v := 1) F.1 F.2.1 dX9_likedManies_2 (by decide) ?_
  refine lv_istore_n (lv' := [(3, .int (1 : Int32)), (2, .int (0 : Int32)), (0, .ref (ad 0)), (1, .int a1)]) F.1 F.2.1 dX9_likedManies_3 rfl hl (by decide) rfl (fun ls hl => ?_)
  exact B4 300 σ0 _ _ _ a1 (0 : Int32) (1 : Int32) h hB (lv_sub hl [2, 3, 1, 0] rfl)
def f_X9_liked (σ0 : Mem) (a1 : Int32) (a2 : Int32) : Option (Int32 × Mem) := (bp (f_X9_isBridge σ0 a1) (fun v2 => (if v2 = (0 : Int32) then (some ((-2 : Int32), σ0)) else (bp (f_X9_isWithin σ0 a2 (2 : Int32)) (fun v5 => (if v5 = (0 : Int32) then (some ((-2 : Int32), σ0)) else (if a2 = (0 : Int32) then (bi (f_X9_likedMarks σ0 a1) (fun v13 σ12 => (some (v13, σ12)))) else (bi (f_X9_likedManies σ0 a1) (fun v10 σ9 => (some (v10, σ9)))))))))))
set_option maxHeartbeats 4000000 in
set_option maxRecDepth 100000 in
theorem k_X9_liked {l : Launch} {D : va_G} {cy : Nat → ClassId} {ad : Nat → Nat} {ta tb : Nat} (hI : AdI ad) (σ0 : Mem) (a1 : Int32) (a2 : Int32) {o : Int32 × Mem} (h : f_X9_liked σ0 a1 a2 = some o) : Met l yX9_liked (Cond.code yX9_liked cX9_liked 3 (some .int) :: wG) rm_X9_liked (CP D cy ad ta tb σ0 [.ref (ad 0), .int a1, .int a2]) (CQi D cy ad o.1 o.2) 0 0 (AA ad) := by
  refine Met.ofW (cc := cX9_liked) (maxL := 3) (ret := (some .int)) (by decide) rfl ?_
  intro p e s m args below meth c s₁ B hml hv
  obtain ⟨rfl, hE, hP⟩ := hv
  have hts := atoms_spec (ws := Cond.code yX9_liked cX9_liked 3 (some .int) :: wG) B.pre
  have F : CallFix p m c cX9_liked 3 s _ wG RX9 := ⟨B.exec, B.bytes, hml, findClass_of_methodNamed B.named, fun w hw => hts w (List.mem_cons_of_mem _ hw)⟩
  have hr := B.returns
  have hlocks := B.notSynchronized
  have hB : Bd D cy ad σ0 s.heap s.heap [] := ⟨hP, va_S.rf⟩
  have hl := lv_entry ([.ref (ad 0), .int a1, .int a2] : List Value) (n := 3) (Nat.le_of_ble_eq_true rfl)
  rw [lg_entry_eq]
  generalize (lg_sl ([.ref (ad 0), .int a1, .int a2] : List Value) ++ List.replicate (3 - (lg_sl ([.ref (ad 0), .int a1, .int a2] : List Value)).length) Slot.unset).toArray = ls at hl ⊢
  have hl : lv_has ls 3 [(0, .ref (ad 0)), (1, .int a1), (2, .int a2)] := hl
  unfold f_X9_liked at h
  refine lv_aload_n F.1 F.2.1 dX9_liked_0 rfl (lv_at hl 0 rfl) ?_
  refine lv_iload_n F.1 F.2.1 dX9_liked_1 rfl (lv_at hl 1 rfl) ?_
  obtain ⟨v2, hc1, h⟩ := bp_e h
  refine q_ci hB (q_goV F hE hB (k_X9_isBridge hI σ0 a1 hc1) (ca_RX9_106 F.2.2.2.2 ⟨Nat.le_of_ble_eq_true rfl, Nat.le_of_ble_eq_true rfl⟩) rfl po_0 rfl hl.1 rfl (Nat.le_of_ble_eq_true rfl) dX9_liked_2 ⟨Nat.le_of_ble_eq_true rfl, Nat.le_of_ble_eq_true rfl⟩) (fun H locs hB => ?_)
  refine lv_if_eq (tgt := 16) F.1 F.2.1 dX9_liked_5 (by decide) (fun c3 => ?_) (fun c3 => ?_)
  · replace h := it_e c3 h
    refine lv_bipush (v := (-2)) F.1 F.2.1 dX9_liked_16 (by decide) ?_
    exact q_iret F hlocks hr hB (so1 h) (so2 h) dX9_liked_18
  · replace h := ie_e c3 h
    refine lv_iload_n F.1 F.2.1 dX9_liked_8 rfl (lv_at hl 2 rfl) ?_
    refine lv_iconst (v := 2) F.1 F.2.1 dX9_liked_9 (by decide) ?_
    obtain ⟨v5, hc4, h⟩ := bp_e h
    refine q_ci hB (q_goS F hE hB (k_X9_isWithin hI σ0 a2 (2 : Int32) hc4) (ca_RX9_84 F.2.2.2.2 ⟨Nat.le_of_ble_eq_true rfl, Nat.le_of_ble_eq_true rfl⟩) rfl hl.1 rfl (Nat.le_of_ble_eq_true rfl) dX9_liked_10 ⟨Nat.le_of_ble_eq_true rfl, Nat.le_of_ble_eq_true rfl⟩) (fun H locs hB => ?_)
    refine lv_if_ne (tgt := 19) F.1 F.2.1 dX9_liked_13 (by decide) (fun c6 => ?_) (fun c6 => ?_)
    · replace h := ie_e c6 h
      refine lv_iload_n F.1 F.2.1 dX9_liked_19 rfl (lv_at hl 2 rfl) ?_
      refine lv_if_ne (tgt := 31) F.1 F.2.1 dX9_liked_20 (by decide) (fun c7 => ?_) (fun c7 => ?_)
      · replace h := ie_e c7 h
        refine lv_aload_n F.1 F.2.1 dX9_liked_31 rfl (lv_at hl 0 rfl) ?_
        refine lv_iload_n F.1 F.2.1 dX9_liked_32 rfl (lv_at hl 1 rfl) ?_
        obtain ⟨v10, σ9, hc8, h⟩ := bi_e h
        refine q_ci hB (q_goV F hE hB (k_X9_likedManies hI σ0 a1 hc8) (ca_RX9_198 F.2.2.2.2 ⟨Nat.le_of_ble_eq_true rfl, Nat.le_of_ble_eq_true rfl⟩) rfl po_0 rfl hl.1 rfl (Nat.le_of_ble_eq_true rfl) dX9_liked_33 ⟨Nat.le_of_ble_eq_true rfl, Nat.le_of_ble_eq_true rfl⟩) (fun H locs hB => ?_)
        exact q_iret F hlocks hr hB (so1 h) (so2 h) dX9_liked_36
      · replace h := it_e c7 h
        refine lv_aload_n F.1 F.2.1 dX9_liked_23 rfl (lv_at hl 0 rfl) ?_
        refine lv_iload_n F.1 F.2.1 dX9_liked_24 rfl (lv_at hl 1 rfl) ?_
        obtain ⟨v13, σ12, hc11, h⟩ := bi_e h
        refine q_ci hB (q_goV F hE hB (k_X9_likedMarks hI σ0 a1 hc11) (ca_RX9_195 F.2.2.2.2 ⟨Nat.le_of_ble_eq_true rfl, Nat.le_of_ble_eq_true rfl⟩) rfl po_0 rfl hl.1 rfl (Nat.le_of_ble_eq_true rfl) dX9_liked_25 ⟨Nat.le_of_ble_eq_true rfl, Nat.le_of_ble_eq_true rfl⟩) (fun H locs hB => ?_)
        refine lv_goto (tgt := 36) F.1 F.2.1 dX9_liked_28 (by decide) ?_
        exact q_iret F hlocks hr hB (so1 h) (so2 h) dX9_liked_36
    · replace h := it_e c6 h
      refine lv_bipush (v := (-2)) F.1 F.2.1 dX9_liked_16 (by decide) ?_
      exact q_iret F hlocks hr hB (so1 h) (so2 h) dX9_liked_18
def f_X9_under_b90 (k39 : Mem → Int32 → Int32 → Int32 → Option (Int32 × Mem)) (σ0 : Mem) (x1 : Int32) (x2 : Int32) (x3 : Int32) : Option (Int32 × Mem) := (k39 σ0 x1 x2 (x3 + (1 : Int32)))
def f_X9_under_b39 : Nat → Mem → Int32 → Int32 → Int32 → Option (Int32 × Mem)
  | 0, _, _, _, _ => none
  | n39 + 1, σ0, x1, x2, x3 => (if (6 : Int32) ≤ x3 then (some (x2, σ0)) else (ck x3 6 (ck x3 6 (lt (ms σ0 62 x3.toNatClampNeg ((σ0.1 62 x3.toNatClampNeg) + (1 : Int32))) (fun σ12 => (bv (f_X9_tryLoad σ12 x1) (fun σ15 => (ck x3 6 (ck x3 6 (lt (ms σ15 62 x3.toNatClampNeg ((σ15.1 62 x3.toNatClampNeg) - (1 : Int32))) (fun σ18 => (bp (f_X6_allHold σ18 52) (fun v21 => (if v21 = (0 : Int32) then (f_X9_under_b90 (f_X9_under_b39 n39) σ18 x1 x2 x3) else (f_X9_under_b90 (f_X9_under_b39 n39) σ18 x1 (x2 ||| ((1 : Int32) <<< (x3 &&& 31))) x3)))))))))))))))
def f_X9_under_b31 (σ0 : Mem) (x1 : Int32) (y0 : Int32) : Option (Int32 × Mem) := (bv (f_X9_loadAsCarried σ0 x1) (fun σ8 => (f_X9_under_b39 300 σ8 x1 y0 (0 : Int32))))
def f_X9_under (σ0 : Mem) (a1 : Int32) : Option (Int32 × Mem) := (bp (f_X9_isBoat σ0 a1) (fun v2 => (if v2 = (0 : Int32) then (some ((-2 : Int32), σ0)) else (bp (f_X6_allHold σ0 46) (fun v5 => (if v5 = (0 : Int32) then (f_X9_under_b31 σ0 a1 (0 : Int32)) else (f_X9_under_b31 σ0 a1 (64 : Int32))))))))
set_option maxHeartbeats 4000000 in
set_option maxRecDepth 100000 in
theorem k_X9_under {l : Launch} {D : va_G} {cy : Nat → ClassId} {ad : Nat → Nat} {ta tb : Nat} (hI : AdI ad) (σ0 : Mem) (a1 : Int32) {o : Int32 × Mem} (h : f_X9_under σ0 a1 = some o) : Met l yX9_under (Cond.code yX9_under cX9_under 4 (some .int) :: wG) rm_X9_under (CP D cy ad ta tb σ0 [.ref (ad 0), .int a1]) (CQi D cy ad o.1 o.2) 0 0 (AA ad) := by
  refine Met.ofW (cc := cX9_under) (maxL := 4) (ret := (some .int)) (by decide) rfl ?_
  intro p e s m args below meth c s₁ B hml hv
  obtain ⟨rfl, hE, hP⟩ := hv
  have hts := atoms_spec (ws := Cond.code yX9_under cX9_under 4 (some .int) :: wG) B.pre
  have F : CallFix p m c cX9_under 4 s _ wG RX9 := ⟨B.exec, B.bytes, hml, findClass_of_methodNamed B.named, fun w hw => hts w (List.mem_cons_of_mem _ hw)⟩
  have hr := B.returns
  have hlocks := B.notSynchronized
  have hB : Bd D cy ad σ0 s.heap s.heap [] := ⟨hP, va_S.rf⟩
  have hl := lv_entry ([.ref (ad 0), .int a1] : List Value) (n := 4) (Nat.le_of_ble_eq_true rfl)
  rw [lg_entry_eq]
  generalize (lg_sl ([.ref (ad 0), .int a1] : List Value) ++ List.replicate (4 - (lg_sl ([.ref (ad 0), .int a1] : List Value)).length) Slot.unset).toArray = ls at hl ⊢
  have hl : lv_has ls 4 [(0, .ref (ad 0)), (1, .int a1)] := hl
  have B39 : ∀ (n39 : Nat) (σ0 : Mem) (H : Heap) (locs : List Loc) (ls : Array Slot) (x1 : Int32) (x2 : Int32) (x3 : Int32), f_X9_under_b39 n39 σ0 x1 x2 x3 = some o → Bd D cy ad σ0 s.heap H locs → lv_has ls 4 [(0, .ref (ad 0)), (1, .int x1), (2, .int x2), (3, .int x3)] → W p l e rm_X9_under s m ([.ref (ad 0), .int a1] : List Value).toArray below meth c H locs 0 0 (MQ below (CQi D cy ad o.1 o.2) ([.ref (ad 0), .int a1] : List Value).toArray s 0 0 (AA ad)) (F0 m 39 ls []) := by
    intro n39
    induction n39 with
    | zero => intro σ0 H locs ls x1 x2 x3 h hB hl; cases h
    | succ n39 ih39 =>
      have B90 : ∀ (σ0 : Mem) (H : Heap) (locs : List Loc) (ls : Array Slot) (x1 : Int32) (x2 : Int32) (x3 : Int32), f_X9_under_b90 (f_X9_under_b39 n39) σ0 x1 x2 x3 = some o → Bd D cy ad σ0 s.heap H locs → lv_has ls 4 [(0, .ref (ad 0)), (1, .int x1), (2, .int x2), (3, .int x3)] → W p l e rm_X9_under s m ([.ref (ad 0), .int a1] : List Value).toArray below meth c H locs 0 0 (MQ below (CQi D cy ad o.1 o.2) ([.ref (ad 0), .int a1] : List Value).toArray s 0 0 (AA ad)) (F0 m 90 ls []) := by
        intro σ0 H locs ls x1 x2 x3 h hB hl
        unfold f_X9_under_b90 at h
        refine lv_iinc (v := (x3 + (1 : Int32))) (lv' := [(3, .int (x3 + (1 : Int32))), (0, .ref (ad 0)), (1, .int x1), (2, .int x2)]) F.1 F.2.1 dX9_under_90 hl (k := 3) rfl rfl (by decide) rfl (fun ls hl => ?_)
        refine lv_goto (tgt := 39) F.1 F.2.1 dX9_under_93 (by decide) ?_
        exact ih39 σ0 _ _ _ x1 x2 (x3 + (1 : Int32)) h hB (lv_sub hl [1, 2, 3, 0] rfl)
      intro σ0 H locs ls x1 x2 x3 h hB hl
      rw [f_X9_under_b39] at h
      refine lv_iload_n F.1 F.2.1 dX9_under_39 rfl (lv_at hl 3 rfl) ?_
      refine lv_bipush (v := 6) F.1 F.2.1 dX9_under_40 (by decide) ?_
      refine lv_icmp_ge (tgt := 96) F.1 F.2.1 dX9_under_42 (by decide) (fun c9 => ?_) (fun c9 => ?_)
      · replace h := it_e c9 h
        refine lv_iload_n F.1 F.2.1 dX9_under_96 rfl (lv_at hl 2 rfl) ?_
        exact q_iret F hlocks hr hB (so1 h) (so2 h) dX9_under_97
      · replace h := ie_e c9 h
        refine lv_aload_n F.1 F.2.1 dX9_under_45 rfl (lv_at hl 0 rfl) ?_
        refine gf_RX9_73 F hE hB po_0 rfl dX9_under_46 ?_
        refine lv_iload_n F.1 F.2.1 dX9_under_49 rfl (lv_at hl 3 rfl) ?_
        refine lv_dup2_11 F.1 F.2.1 dX9_under_50 rfl rfl ?_
        obtain ⟨hi10, h⟩ := ck_e h
        refine q_iald F hE hB po_62 hi10 dX9_under_51 ?_
        refine lv_iconst (v := 1) F.1 F.2.1 dX9_under_52 (by decide) ?_
        refine lv_iadd F.1 F.2.1 dX9_under_53 ?_
        obtain ⟨hi11, h⟩ := ck_e h
        obtain ⟨σ12, e13, h⟩ := lt_e h
        refine q_iast F hE hI hB row_62 hi11 dX9_under_54 e13 (fun H locs hB => ?_)
        refine lv_aload_n F.1 F.2.1 dX9_under_55 rfl (lv_at hl 0 rfl) ?_
        refine lv_iload_n F.1 F.2.1 dX9_under_56 rfl (lv_at hl 1 rfl) ?_
        obtain ⟨σ15, hc14, h⟩ := bv_e h
        refine q_cv hB (q_goV F hE hB (k_X9_tryLoad hI σ12 x1 hc14) (ca_RX9_208 F.2.2.2.2 ⟨Nat.le_of_ble_eq_true rfl, Nat.le_of_ble_eq_true rfl⟩) rfl po_0 rfl hl.1 rfl (Nat.le_of_ble_eq_true rfl) dX9_under_57 ⟨Nat.le_of_ble_eq_true rfl, Nat.le_of_ble_eq_true rfl⟩) (fun H locs hB => ?_)
        refine lv_aload_n F.1 F.2.1 dX9_under_60 rfl (lv_at hl 0 rfl) ?_
        refine gf_RX9_73 F hE hB po_0 rfl dX9_under_61 ?_
        refine lv_iload_n F.1 F.2.1 dX9_under_64 rfl (lv_at hl 3 rfl) ?_
        refine lv_dup2_11 F.1 F.2.1 dX9_under_65 rfl rfl ?_
        obtain ⟨hi16, h⟩ := ck_e h
        refine q_iald F hE hB po_62 hi16 dX9_under_66 ?_
        refine lv_iconst (v := 1) F.1 F.2.1 dX9_under_67 (by decide) ?_
        refine lv_isub F.1 F.2.1 dX9_under_68 ?_
        obtain ⟨hi17, h⟩ := ck_e h
        obtain ⟨σ18, e19, h⟩ := lt_e h
        refine q_iast F hE hI hB row_62 hi17 dX9_under_69 e19 (fun H locs hB => ?_)
        refine lv_aload_n F.1 F.2.1 dX9_under_70 rfl (lv_at hl 0 rfl) ?_
        refine gf_RX9_39 F hE hB po_0 rfl dX9_under_71 ?_
        refine lv_aload_n F.1 F.2.1 dX9_under_74 rfl (lv_at hl 0 rfl) ?_
        refine gf_RX9_56 F hE hB po_0 rfl dX9_under_75 ?_
        obtain ⟨v21, hc20, h⟩ := bp_e h
        refine q_ci hB (q_goV F hE hB (k_X6_allHold hI σ18 52 (Or.inr rfl) hc20) (ca_RX9_201 F.2.2.2.2 ⟨Nat.le_of_ble_eq_true rfl, Nat.le_of_ble_eq_true rfl⟩) rfl po_33 rfl hl.1 rfl (Nat.le_of_ble_eq_true rfl) dX9_under_78 ⟨Nat.le_of_ble_eq_true rfl, Nat.le_of_ble_eq_true rfl⟩) (fun H locs hB => ?_)
        refine lv_if_eq (tgt := 90) F.1 F.2.1 dX9_under_81 (by decide) (fun c22 => ?_) (fun c22 => ?_)
        · replace h := it_e c22 h
          exact B90 σ18 _ _ _ x1 x2 x3 h hB (lv_sub hl [0, 1, 2, 3] rfl)
        · replace h := ie_e c22 h
          refine lv_iload_n F.1 F.2.1 dX9_under_84 rfl (lv_at hl 2 rfl) ?_
          refine lv_iconst (v := 1) F.1 F.2.1 dX9_under_85 (by decide) ?_
          refine lv_iload_n F.1 F.2.1 dX9_under_86 rfl (lv_at hl 3 rfl) ?_
          refine lv_ishl F.1 F.2.1 dX9_under_87 ?_
          refine lv_ior F.1 F.2.1 dX9_under_88 ?_
          refine lv_istore_n (lv' := [(2, .int (x2 ||| ((1 : Int32) <<< (x3 &&& 31)))), (0, .ref (ad 0)), (1, .int x1), (3, .int x3)]) F.1 F.2.1 dX9_under_89 rfl hl (by decide) rfl (fun ls hl => ?_)
          exact B90 σ18 _ _ _ x1 (x2 ||| ((1 : Int32) <<< (x3 &&& 31))) x3 h hB (lv_sub hl [1, 2, 0, 3] rfl)
  have B31 : ∀ (σ0 : Mem) (H : Heap) (locs : List Loc) (ls : Array Slot) (x1 : Int32) (y0 : Int32), f_X9_under_b31 σ0 x1 y0 = some o → Bd D cy ad σ0 s.heap H locs → lv_has ls 4 [(0, .ref (ad 0)), (1, .int x1)] → W p l e rm_X9_under s m ([.ref (ad 0), .int a1] : List Value).toArray below meth c H locs 0 0 (MQ below (CQi D cy ad o.1 o.2) ([.ref (ad 0), .int a1] : List Value).toArray s 0 0 (AA ad)) (F0 m 31 ls [.int y0]) := by
    intro σ0 H locs ls x1 y0 h hB hl
    unfold f_X9_under_b31 at h
    refine lv_istore_n (lv' := [(2, .int y0), (0, .ref (ad 0)), (1, .int x1)]) F.1 F.2.1 dX9_under_31 rfl hl (by decide) rfl (fun ls hl => ?_)
    refine lv_aload_n F.1 F.2.1 dX9_under_32 rfl (lv_at hl 1 rfl) ?_
    refine lv_iload_n F.1 F.2.1 dX9_under_33 rfl (lv_at hl 2 rfl) ?_
    obtain ⟨σ8, hc7, h⟩ := bv_e h
    refine q_cv hB (q_goV F hE hB (k_X9_loadAsCarried hI σ0 x1 hc7) (ca_RX9_205 F.2.2.2.2 ⟨Nat.le_of_ble_eq_true rfl, Nat.le_of_ble_eq_true rfl⟩) rfl po_0 rfl hl.1 rfl (Nat.le_of_ble_eq_true rfl) dX9_under_34 ⟨Nat.le_of_ble_eq_true rfl, Nat.le_of_ble_eq_true rfl⟩) (fun H locs hB => ?_)
    refine lv_iconst (v := 0) F.1 F.2.1 dX9_under_37 (by decide) ?_
    refine lv_istore_n (lv' := [(3, .int (0 : Int32)), (2, .int y0), (0, .ref (ad 0)), (1, .int x1)]) F.1 F.2.1 dX9_under_38 rfl hl (by decide) rfl (fun ls hl => ?_)
    exact B39 300 σ8 _ _ _ x1 y0 (0 : Int32) h hB (lv_sub hl [2, 3, 1, 0] rfl)
  unfold f_X9_under at h
  refine lv_aload_n F.1 F.2.1 dX9_under_0 rfl (lv_at hl 0 rfl) ?_
  refine lv_iload_n F.1 F.2.1 dX9_under_1 rfl (lv_at hl 1 rfl) ?_
  obtain ⟨v2, hc1, h⟩ := bp_e h
  refine q_ci hB (q_goV F hE hB (k_X9_isBoat hI σ0 a1 hc1) (ca_RX9_114 F.2.2.2.2 ⟨Nat.le_of_ble_eq_true rfl, Nat.le_of_ble_eq_true rfl⟩) rfl po_0 rfl hl.1 rfl (Nat.le_of_ble_eq_true rfl) dX9_under_2 ⟨Nat.le_of_ble_eq_true rfl, Nat.le_of_ble_eq_true rfl⟩) (fun H locs hB => ?_)
  refine lv_if_ne (tgt := 11) F.1 F.2.1 dX9_under_5 (by decide) (fun c3 => ?_) (fun c3 => ?_)
  · replace h := ie_e c3 h
    refine lv_aload_n F.1 F.2.1 dX9_under_11 rfl (lv_at hl 0 rfl) ?_
    refine gf_RX9_39 F hE hB po_0 rfl dX9_under_12 ?_
    refine lv_aload_n F.1 F.2.1 dX9_under_15 rfl (lv_at hl 0 rfl) ?_
    refine gf_RX9_52 F hE hB po_0 rfl dX9_under_16 ?_
    obtain ⟨v5, hc4, h⟩ := bp_e h
    refine q_ci hB (q_goV F hE hB (k_X6_allHold hI σ0 46 (Or.inl rfl) hc4) (ca_RX9_201 F.2.2.2.2 ⟨Nat.le_of_ble_eq_true rfl, Nat.le_of_ble_eq_true rfl⟩) rfl po_33 rfl hl.1 rfl (Nat.le_of_ble_eq_true rfl) dX9_under_19 ⟨Nat.le_of_ble_eq_true rfl, Nat.le_of_ble_eq_true rfl⟩) (fun H locs hB => ?_)
    refine lv_if_eq (tgt := 30) F.1 F.2.1 dX9_under_22 (by decide) (fun c6 => ?_) (fun c6 => ?_)
    · replace h := it_e c6 h
      refine lv_iconst (v := 0) F.1 F.2.1 dX9_under_30 (by decide) ?_
      exact B31 σ0 _ _ _ a1 (0 : Int32) h hB (lv_sub hl [0, 1] rfl)
    · replace h := ie_e c6 h
      refine lv_bipush (v := 64) F.1 F.2.1 dX9_under_25 (by decide) ?_
      refine lv_goto (tgt := 31) F.1 F.2.1 dX9_under_27 (by decide) ?_
      exact B31 σ0 _ _ _ a1 (64 : Int32) h hB (lv_sub hl [0, 1] rfl)
  · replace h := it_e c3 h
    refine lv_bipush (v := (-2)) F.1 F.2.1 dX9_under_8 (by decide) ?_
    exact q_iret F hlocks hr hB (so1 h) (so2 h) dX9_under_10
def f_X9_tallyPlaces_b2 : Nat → Mem → Int32 → Int32 → Option (Mem)
  | 0, _, _, _ => none
  | n2 + 1, σ0, x1, x2 => (if (σ0.1 10 2) ≤ x2 then (some σ0) else (bp (f_X8_placeOf σ0 52 x1 x2) (fun v3 => (ck (((x2 * (10 : Int32)) + v3) + (1 : Int32)) 80 (ck (((x2 * (10 : Int32)) + v3) + (1 : Int32)) 80 (lt (ms σ0 63 (((x2 * (10 : Int32)) + v3) + (1 : Int32)).toNatClampNeg ((σ0.1 63 (((x2 * (10 : Int32)) + v3) + (1 : Int32)).toNatClampNeg) + (1 : Int32))) (fun σ6 => (f_X9_tallyPlaces_b2 n2 σ6 x1 (x2 + (1 : Int32))))))))))
def f_X9_tallyPlaces (σ0 : Mem) (a1 : Int32) : Option (Mem) := (f_X9_tallyPlaces_b2 300 σ0 a1 (0 : Int32))
set_option maxHeartbeats 4000000 in
set_option maxRecDepth 100000 in
theorem k_X9_tallyPlaces {l : Launch} {D : va_G} {cy : Nat → ClassId} {ad : Nat → Nat} {ta tb : Nat} (hI : AdI ad) (σ0 : Mem) (a1 : Int32) {o : Mem} (h : f_X9_tallyPlaces σ0 a1 = some o) : Met l yX9_tallyPlaces (Cond.code yX9_tallyPlaces cX9_tallyPlaces 3 none :: wG) rm_X9_tallyPlaces (CP D cy ad ta tb σ0 [.ref (ad 0), .int a1]) (CQv D cy ad o) 0 0 (AA ad) := by
  refine Met.ofW (cc := cX9_tallyPlaces) (maxL := 3) (ret := none) (by decide) rfl ?_
  intro p e s m args below meth c s₁ B hml hv
  obtain ⟨rfl, hE, hP⟩ := hv
  have hts := atoms_spec (ws := Cond.code yX9_tallyPlaces cX9_tallyPlaces 3 none :: wG) B.pre
  have F : CallFix p m c cX9_tallyPlaces 3 s _ wG RX9 := ⟨B.exec, B.bytes, hml, findClass_of_methodNamed B.named, fun w hw => hts w (List.mem_cons_of_mem _ hw)⟩
  have hr := B.returns
  have hlocks := B.notSynchronized
  have hB : Bd D cy ad σ0 s.heap s.heap [] := ⟨hP, va_S.rf⟩
  have hl := lv_entry ([.ref (ad 0), .int a1] : List Value) (n := 3) (Nat.le_of_ble_eq_true rfl)
  rw [lg_entry_eq]
  generalize (lg_sl ([.ref (ad 0), .int a1] : List Value) ++ List.replicate (3 - (lg_sl ([.ref (ad 0), .int a1] : List Value)).length) Slot.unset).toArray = ls at hl ⊢
  have hl : lv_has ls 3 [(0, .ref (ad 0)), (1, .int a1)] := hl
  have B2 : ∀ (n2 : Nat) (σ0 : Mem) (H : Heap) (locs : List Loc) (ls : Array Slot) (x1 : Int32) (x2 : Int32), f_X9_tallyPlaces_b2 n2 σ0 x1 x2 = some o → Bd D cy ad σ0 s.heap H locs → lv_has ls 3 [(0, .ref (ad 0)), (1, .int x1), (2, .int x2)] → W p l e rm_X9_tallyPlaces s m ([.ref (ad 0), .int a1] : List Value).toArray below meth c H locs 0 0 (MQ below (CQv D cy ad o) ([.ref (ad 0), .int a1] : List Value).toArray s 0 0 (AA ad)) (F0 m 2 ls []) := by
    intro n2
    induction n2 with
    | zero => intro σ0 H locs ls x1 x2 h hB hl; cases h
    | succ n2 ih2 =>
      intro σ0 H locs ls x1 x2 h hB hl
      rw [f_X9_tallyPlaces_b2] at h
      refine lv_iload_n F.1 F.2.1 dX9_tallyPlaces_2 rfl (lv_at hl 2 rfl) ?_
      refine lv_aload_n F.1 F.2.1 dX9_tallyPlaces_3 rfl (lv_at hl 0 rfl) ?_
      refine gf_RX9_25 F hE hB po_0 rfl dX9_tallyPlaces_4 ?_
      refine gf_RX9_168 F hE hB po_10 rfl dX9_tallyPlaces_7 ?_
      refine lv_icmp_ge (tgt := 44) F.1 F.2.1 dX9_tallyPlaces_10 (by decide) (fun c1 => ?_) (fun c1 => ?_)
      · replace h := it_e c1 h
        exact q_vret F hlocks hr hB (Option.some.inj h) dX9_tallyPlaces_44
      · replace h := ie_e c1 h
        refine lv_aload_n F.1 F.2.1 dX9_tallyPlaces_13 rfl (lv_at hl 0 rfl) ?_
        refine gf_RX9_77 F hE hB po_0 rfl dX9_tallyPlaces_14 ?_
        refine lv_iload_n F.1 F.2.1 dX9_tallyPlaces_17 rfl (lv_at hl 2 rfl) ?_
        refine lv_bipush (v := 10) F.1 F.2.1 dX9_tallyPlaces_18 (by decide) ?_
        refine lv_imul F.1 F.2.1 dX9_tallyPlaces_20 ?_
        refine lv_aload_n F.1 F.2.1 dX9_tallyPlaces_21 rfl (lv_at hl 0 rfl) ?_
        refine gf_RX9_56 F hE hB po_0 rfl dX9_tallyPlaces_22 ?_
        refine lv_iload_n F.1 F.2.1 dX9_tallyPlaces_25 rfl (lv_at hl 1 rfl) ?_
        refine lv_iload_n F.1 F.2.1 dX9_tallyPlaces_26 rfl (lv_at hl 2 rfl) ?_
        obtain ⟨v3, hc2, h⟩ := bp_e h
        refine q_ci hB (q_goV F hE hB (k_X8_placeOf hI σ0 52 (Or.inr rfl) x1 x2 hc2) (ca_RX9_153 F.2.2.2.2 ⟨Nat.le_of_ble_eq_true rfl, Nat.le_of_ble_eq_true rfl⟩) rfl po_52 rfl hl.1 rfl (Nat.le_of_ble_eq_true rfl) dX9_tallyPlaces_27 ⟨Nat.le_of_ble_eq_true rfl, Nat.le_of_ble_eq_true rfl⟩) (fun H locs hB => ?_)
        refine lv_iadd F.1 F.2.1 dX9_tallyPlaces_30 ?_
        refine lv_iconst (v := 1) F.1 F.2.1 dX9_tallyPlaces_31 (by decide) ?_
        refine lv_iadd F.1 F.2.1 dX9_tallyPlaces_32 ?_
        refine lv_dup2_11 F.1 F.2.1 dX9_tallyPlaces_33 rfl rfl ?_
        obtain ⟨hi4, h⟩ := ck_e h
        refine q_iald F hE hB po_63 hi4 dX9_tallyPlaces_34 ?_
        refine lv_iconst (v := 1) F.1 F.2.1 dX9_tallyPlaces_35 (by decide) ?_
        refine lv_iadd F.1 F.2.1 dX9_tallyPlaces_36 ?_
        obtain ⟨hi5, h⟩ := ck_e h
        obtain ⟨σ6, e7, h⟩ := lt_e h
        refine q_iast F hE hI hB row_63 hi5 dX9_tallyPlaces_37 e7 (fun H locs hB => ?_)
        refine lv_iinc (v := (x2 + (1 : Int32))) (lv' := [(2, .int (x2 + (1 : Int32))), (0, .ref (ad 0)), (1, .int x1)]) F.1 F.2.1 dX9_tallyPlaces_38 hl (k := 2) rfl rfl (by decide) rfl (fun ls hl => ?_)
        refine lv_goto (tgt := 2) F.1 F.2.1 dX9_tallyPlaces_41 (by decide) ?_
        exact ih2 σ6 _ _ _ x1 (x2 + (1 : Int32)) h hB (lv_sub hl [1, 2, 0] rfl)
  unfold f_X9_tallyPlaces at h
  refine lv_iconst (v := 0) F.1 F.2.1 dX9_tallyPlaces_0 (by decide) ?_
  refine lv_istore_n (lv' := [(2, .int (0 : Int32)), (0, .ref (ad 0)), (1, .int a1)]) F.1 F.2.1 dX9_tallyPlaces_1 rfl hl (by decide) rfl (fun ls hl => ?_)
  exact B2 300 σ0 _ _ _ a1 (0 : Int32) h hB (lv_sub hl [1, 2, 0] rfl)
def f_X9_greatestTally_b4 (σ0 : Mem) : Nat → Int32 → Int32 → Int32 → Option (Int32)
  | 0, _, _, _ => none
  | n4 + 1, x1, x2, x3 => (if (10 : Int32) ≤ x3 then (some x2) else (ck ((x1 * (10 : Int32)) + x3) 80 (f_X9_greatestTally_b4 σ0 n4 x1 (if x2 < (σ0.1 63 ((x1 * (10 : Int32)) + x3).toNatClampNeg) then (σ0.1 63 ((x1 * (10 : Int32)) + x3).toNatClampNeg) else x2) (x3 + (1 : Int32)))))
def f_X9_greatestTally (σ0 : Mem) (a1 : Int32) : Option (Int32) := (f_X9_greatestTally_b4 σ0 300 a1 (0 : Int32) (0 : Int32))
set_option maxHeartbeats 4000000 in
set_option maxRecDepth 100000 in
theorem k_X9_greatestTally {l : Launch} {D : va_G} {cy : Nat → ClassId} {ad : Nat → Nat} {ta tb : Nat} (hI : AdI ad) (σ0 : Mem) (a1 : Int32) {o : Int32} (h : f_X9_greatestTally σ0 a1 = some o) : Met l yX9_greatestTally (Cond.code yX9_greatestTally cX9_greatestTally 4 (some .int) :: wG) rm_X9_greatestTally (CP D cy ad ta tb σ0 [.ref (ad 0), .int a1]) (CQi D cy ad o σ0) 0 0 (AA ad) := by
  refine Met.ofW (cc := cX9_greatestTally) (maxL := 4) (ret := (some .int)) (by decide) rfl ?_
  intro p e s m args below meth c s₁ B hml hv
  obtain ⟨rfl, hE, hP⟩ := hv
  have hts := atoms_spec (ws := Cond.code yX9_greatestTally cX9_greatestTally 4 (some .int) :: wG) B.pre
  have F : CallFix p m c cX9_greatestTally 4 s _ wG RX9 := ⟨B.exec, B.bytes, hml, findClass_of_methodNamed B.named, fun w hw => hts w (List.mem_cons_of_mem _ hw)⟩
  have hr := B.returns
  have hlocks := B.notSynchronized
  have hB : Bd D cy ad σ0 s.heap s.heap [] := ⟨hP, va_S.rf⟩
  have hl := lv_entry ([.ref (ad 0), .int a1] : List Value) (n := 4) (Nat.le_of_ble_eq_true rfl)
  rw [lg_entry_eq]
  generalize (lg_sl ([.ref (ad 0), .int a1] : List Value) ++ List.replicate (4 - (lg_sl ([.ref (ad 0), .int a1] : List Value)).length) Slot.unset).toArray = ls at hl ⊢
  have hl : lv_has ls 4 [(0, .ref (ad 0)), (1, .int a1)] := hl
  have B4 : ∀ (n4 : Nat) (H : Heap) (locs : List Loc) (ls : Array Slot) (x1 : Int32) (x2 : Int32) (x3 : Int32), f_X9_greatestTally_b4 σ0 n4 x1 x2 x3 = some o → Bd D cy ad σ0 s.heap H locs → lv_has ls 4 [(0, .ref (ad 0)), (1, .int x1), (2, .int x2), (3, .int x3)] → W p l e rm_X9_greatestTally s m ([.ref (ad 0), .int a1] : List Value).toArray below meth c H locs 0 0 (MQ below (CQi D cy ad o σ0) ([.ref (ad 0), .int a1] : List Value).toArray s 0 0 (AA ad)) (F0 m 4 ls []) := by
    intro n4
    induction n4 with
    | zero => intro H locs ls x1 x2 x3 h hB hl; cases h
    | succ n4 ih4 =>
      intro H locs ls x1 x2 x3 h hB hl
      rw [f_X9_greatestTally_b4] at h
      refine lv_iload_n F.1 F.2.1 dX9_greatestTally_4 rfl (lv_at hl 3 rfl) ?_
      refine lv_bipush (v := 10) F.1 F.2.1 dX9_greatestTally_5 (by decide) ?_
      refine lv_icmp_ge (tgt := 32) F.1 F.2.1 dX9_greatestTally_7 (by decide) (fun c1 => ?_) (fun c1 => ?_)
      · replace h := it_e c1 h
        refine lv_iload_n F.1 F.2.1 dX9_greatestTally_32 rfl (lv_at hl 2 rfl) ?_
        exact q_iret F hlocks hr hB (Option.some.inj h) rfl dX9_greatestTally_33
      · replace h := ie_e c1 h
        refine lv_iload_n F.1 F.2.1 dX9_greatestTally_10 rfl (lv_at hl 2 rfl) ?_
        refine lv_aload_n F.1 F.2.1 dX9_greatestTally_11 rfl (lv_at hl 0 rfl) ?_
        refine gf_RX9_77 F hE hB po_0 rfl dX9_greatestTally_12 ?_
        refine lv_iload_n F.1 F.2.1 dX9_greatestTally_15 rfl (lv_at hl 1 rfl) ?_
        refine lv_bipush (v := 10) F.1 F.2.1 dX9_greatestTally_16 (by decide) ?_
        refine lv_imul F.1 F.2.1 dX9_greatestTally_18 ?_
        refine lv_iload_n F.1 F.2.1 dX9_greatestTally_19 rfl (lv_at hl 3 rfl) ?_
        refine lv_iadd F.1 F.2.1 dX9_greatestTally_20 ?_
        obtain ⟨hi2, h⟩ := ck_e h
        refine q_iald F hE hB po_63 hi2 dX9_greatestTally_21 ?_
        refine va_mmax F.1 F.2.1 (by rw [F.2.2.1, hl.1]) F.2.2.2.1 (F.2.2.2.2 _ wm_l_RX9_401) (F.2.2.2.2 _ wm_max_s) (F.2.2.2.2 _ wm_math_i) (F.2.2.2.2 _ wm_max_c) (Nat.le_of_ble_eq_true rfl) (Nat.le_of_ble_eq_true rfl) (Nat.zero_le _) (Nat.zero_le _) dX9_greatestTally_22 ?_
        refine lv_istore_n (lv' := [(2, .int (if x2 < (σ0.1 63 ((x1 * (10 : Int32)) + x3).toNatClampNeg) then (σ0.1 63 ((x1 * (10 : Int32)) + x3).toNatClampNeg) else x2)), (0, .ref (ad 0)), (1, .int x1), (3, .int x3)]) F.1 F.2.1 dX9_greatestTally_25 rfl hl (by decide) rfl (fun ls hl => ?_)
        refine lv_iinc (v := (x3 + (1 : Int32))) (lv' := [(3, .int (x3 + (1 : Int32))), (2, .int (if x2 < (σ0.1 63 ((x1 * (10 : Int32)) + x3).toNatClampNeg) then (σ0.1 63 ((x1 * (10 : Int32)) + x3).toNatClampNeg) else x2)), (0, .ref (ad 0)), (1, .int x1)]) F.1 F.2.1 dX9_greatestTally_26 hl (k := 3) rfl rfl (by decide) rfl (fun ls hl => ?_)
        refine lv_goto (tgt := 4) F.1 F.2.1 dX9_greatestTally_29 (by decide) ?_
        exact ih4 _ _ _ x1 (if x2 < (σ0.1 63 ((x1 * (10 : Int32)) + x3).toNatClampNeg) then (σ0.1 63 ((x1 * (10 : Int32)) + x3).toNatClampNeg) else x2) (x3 + (1 : Int32)) h hB (lv_sub hl [2, 3, 1, 0] rfl)
  unfold f_X9_greatestTally at h
  refine lv_iconst (v := 0) F.1 F.2.1 dX9_greatestTally_0 (by decide) ?_
  refine lv_istore_n (lv' := [(2, .int (0 : Int32)), (0, .ref (ad 0)), (1, .int a1)]) F.1 F.2.1 dX9_greatestTally_1 rfl hl (by decide) rfl (fun ls hl => ?_)
  refine lv_iconst (v := 0) F.1 F.2.1 dX9_greatestTally_2 (by decide) ?_
  refine lv_istore_n (lv' := [(3, .int (0 : Int32)), (2, .int (0 : Int32)), (0, .ref (ad 0)), (1, .int a1)]) F.1 F.2.1 dX9_greatestTally_3 rfl hl (by decide) rfl (fun ls hl => ?_)
  exact B4 300 _ _ _ a1 (0 : Int32) (0 : Int32) h hB (lv_sub hl [2, 3, 1, 0] rfl)
def f_X9_ask_b108 (k74 : Mem → Int32 → Int32 → Int32 → Option (Int32 × Mem)) (σ0 : Mem) (x3 : Int32) (x4 : Int32) (x5 : Int32) : Option (Int32 × Mem) := (k74 σ0 x3 x4 (x5 + (1 : Int32)))
def f_X9_ask_b74 : Nat → Mem → Int32 → Int32 → Int32 → Option (Int32 × Mem)
  | 0, _, _, _, _ => none
  | n74 + 1, σ0, x3, x4, x5 => (if (σ0.1 10 2) ≤ x5 then (some (x3, σ0)) else (bp (f_X9_greatestTally σ0 x5) (fun v12 => (if x4 ≤ v12 then (f_X9_ask_b108 (f_X9_ask_b74 n74) σ0 x3 x4 x5) else (f_X9_ask_b108 (f_X9_ask_b74 n74) σ0 x5 v12 x5)))))
def f_X9_ask_b59 (k30 : Mem → Int32 → Int32 → Int32 → Option (Int32 × Mem)) (σ0 : Mem) (x1 : Int32) (x2 : Int32) (x3 : Int32) : Option (Int32 × Mem) := (k30 σ0 x1 x2 (x3 + (1 : Int32)))
def f_X9_ask_b30 : Nat → Mem → Int32 → Int32 → Int32 → Option (Int32 × Mem)
  | 0, _, _, _, _ => none
  | n30 + 1, σ0, x1, x2, x3 => (if (6 : Int32) ≤ x3 then (f_X9_ask_b74 300 σ0 (-1 : Int32) (7 : Int32) (0 : Int32)) else (ck x1 8 (bi (f_X9_couldHaveBeen σ0 x1 x3 (σ0.1 9 x1.toNatClampNeg)) (fun v17 σ16 => (if v17 = (0 : Int32) then (f_X9_ask_b59 (f_X9_ask_b30 n30) σ16 x1 x2 x3) else (bv (f_X9_tallyPlaces σ16 x2) (fun σ20 => (f_X9_ask_b59 (f_X9_ask_b30 n30) σ20 x1 x2 x3))))))))
def f_X9_ask (σ0 : Mem) (a1 : Int32) (a2 : Int32) : Option (Int32 × Mem) := (bp (f_X9_isBridge σ0 a1) (fun v2 => (if v2 = (0 : Int32) then (some ((-2 : Int32), σ0)) else (bp (f_X9_isWithin σ0 a2 (100 : Int32)) (fun v5 => (if v5 = (0 : Int32) then (some ((-2 : Int32), σ0)) else (bv (f_J7_fill_53178 σ0 63 80 (0 : Int32)) (fun σ8 => (f_X9_ask_b30 300 σ8 a1 a2 (0 : Int32))))))))))
set_option maxHeartbeats 4000000 in
set_option maxRecDepth 100000 in
theorem k_X9_ask {l : Launch} {D : va_G} {cy : Nat → ClassId} {ad : Nat → Nat} {ta tb : Nat} (hI : AdI ad) (σ0 : Mem) (a1 : Int32) (a2 : Int32) {o : Int32 × Mem} (h : f_X9_ask σ0 a1 a2 = some o) : Met l yX9_ask (Cond.code yX9_ask cX9_ask 7 (some .int) :: wG) rm_X9_ask (CP D cy ad ta tb σ0 [.ref (ad 0), .int a1, .int a2]) (CQi D cy ad o.1 o.2) 0 0 (AA ad) := by
  refine Met.ofW (cc := cX9_ask) (maxL := 7) (ret := (some .int)) (by decide) rfl ?_
  intro p e s m args below meth c s₁ B hml hv
  obtain ⟨rfl, hE, hP⟩ := hv
  have hts := atoms_spec (ws := Cond.code yX9_ask cX9_ask 7 (some .int) :: wG) B.pre
  have F : CallFix p m c cX9_ask 7 s _ wG RX9 := ⟨B.exec, B.bytes, hml, findClass_of_methodNamed B.named, fun w hw => hts w (List.mem_cons_of_mem _ hw)⟩
  have hr := B.returns
  have hlocks := B.notSynchronized
  have hB : Bd D cy ad σ0 s.heap s.heap [] := ⟨hP, va_S.rf⟩
  have hl := lv_entry ([.ref (ad 0), .int a1, .int a2] : List Value) (n := 7) (Nat.le_of_ble_eq_true rfl)
  rw [lg_entry_eq]
  generalize (lg_sl ([.ref (ad 0), .int a1, .int a2] : List Value) ++ List.replicate (7 - (lg_sl ([.ref (ad 0), .int a1, .int a2] : List Value)).length) Slot.unset).toArray = ls at hl ⊢
  have hl : lv_has ls 7 [(0, .ref (ad 0)), (1, .int a1), (2, .int a2)] := hl
  have B74 : ∀ (n74 : Nat) (σ0 : Mem) (H : Heap) (locs : List Loc) (ls : Array Slot) (x3 : Int32) (x4 : Int32) (x5 : Int32), f_X9_ask_b74 n74 σ0 x3 x4 x5 = some o → Bd D cy ad σ0 s.heap H locs → lv_has ls 7 [(0, .ref (ad 0)), (3, .int x3), (4, .int x4), (5, .int x5)] → W p l e rm_X9_ask s m ([.ref (ad 0), .int a1, .int a2] : List Value).toArray below meth c H locs 0 0 (MQ below (CQi D cy ad o.1 o.2) ([.ref (ad 0), .int a1, .int a2] : List Value).toArray s 0 0 (AA ad)) (F0 m 74 ls []) := by
    intro n74
    induction n74 with
    | zero => intro σ0 H locs ls x3 x4 x5 h hB hl; cases h
    | succ n74 ih74 =>
      have B108 : ∀ (σ0 : Mem) (H : Heap) (locs : List Loc) (ls : Array Slot) (x3 : Int32) (x4 : Int32) (x5 : Int32), f_X9_ask_b108 (f_X9_ask_b74 n74) σ0 x3 x4 x5 = some o → Bd D cy ad σ0 s.heap H locs → lv_has ls 7 [(0, .ref (ad 0)), (3, .int x3), (4, .int x4), (5, .int x5)] → W p l e rm_X9_ask s m ([.ref (ad 0), .int a1, .int a2] : List Value).toArray below meth c H locs 0 0 (MQ below (CQi D cy ad o.1 o.2) ([.ref (ad 0), .int a1, .int a2] : List Value).toArray s 0 0 (AA ad)) (F0 m 108 ls []) := by
        intro σ0 H locs ls x3 x4 x5 h hB hl
        unfold f_X9_ask_b108 at h
        refine lv_iinc (v := (x5 + (1 : Int32))) (lv' := [(5, .int (x5 + (1 : Int32))), (0, .ref (ad 0)), (3, .int x3), (4, .int x4)]) F.1 F.2.1 dX9_ask_108 hl (k := 3) rfl rfl (by decide) rfl (fun ls hl => ?_)
        refine lv_goto (tgt := 74) F.1 F.2.1 dX9_ask_111 (by decide) ?_
        exact ih74 σ0 _ _ _ x3 x4 (x5 + (1 : Int32)) h hB (lv_sub hl [1, 2, 3, 0] rfl)
      intro σ0 H locs ls x3 x4 x5 h hB hl
      rw [f_X9_ask_b74] at h
      refine lv_iload F.1 F.2.1 dX9_ask_74 (lv_at hl 3 rfl) ?_
      refine lv_aload_n F.1 F.2.1 dX9_ask_76 rfl (lv_at hl 0 rfl) ?_
      refine gf_RX9_25 F hE hB po_0 rfl dX9_ask_77 ?_
      refine gf_RX9_168 F hE hB po_10 rfl dX9_ask_80 ?_
      refine lv_icmp_ge (tgt := 114) F.1 F.2.1 dX9_ask_83 (by decide) (fun c10 => ?_) (fun c10 => ?_)
      · replace h := it_e c10 h
        refine lv_iload_n F.1 F.2.1 dX9_ask_114 rfl (lv_at hl 1 rfl) ?_
        exact q_iret F hlocks hr hB (so1 h) (so2 h) dX9_ask_115
      · replace h := ie_e c10 h
        refine lv_aload_n F.1 F.2.1 dX9_ask_86 rfl (lv_at hl 0 rfl) ?_
        refine lv_iload F.1 F.2.1 dX9_ask_87 (lv_at hl 3 rfl) ?_
        obtain ⟨v12, hc11, h⟩ := bp_e h
        refine q_ci hB (q_goV F hE hB (k_X9_greatestTally hI σ0 x5 hc11) (ca_RX9_227 F.2.2.2.2 ⟨Nat.le_of_ble_eq_true rfl, Nat.le_of_ble_eq_true rfl⟩) rfl po_0 rfl hl.1 rfl (Nat.le_of_ble_eq_true rfl) dX9_ask_89 ⟨Nat.le_of_ble_eq_true rfl, Nat.le_of_ble_eq_true rfl⟩) (fun H locs hB => ?_)
        refine lv_istore (lv' := [(6, .int v12), (0, .ref (ad 0)), (3, .int x3), (4, .int x4), (5, .int x5)]) F.1 F.2.1 dX9_ask_92 hl (by decide) rfl (fun ls hl => ?_)
        refine lv_iload F.1 F.2.1 dX9_ask_94 (lv_at hl 0 rfl) ?_
        refine lv_iload F.1 F.2.1 dX9_ask_96 (lv_at hl 3 rfl) ?_
        refine lv_icmp_ge (tgt := 108) F.1 F.2.1 dX9_ask_98 (by decide) (fun c13 => ?_) (fun c13 => ?_)
        · replace h := it_e c13 h
          exact B108 σ0 _ _ _ x3 x4 x5 h hB (lv_sub hl [1, 2, 3, 4] rfl)
        · replace h := ie_e c13 h
          refine lv_iload F.1 F.2.1 dX9_ask_101 (lv_at hl 0 rfl) ?_
          refine lv_istore (lv' := [(4, .int v12), (6, .int v12), (0, .ref (ad 0)), (3, .int x3), (5, .int x5)]) F.1 F.2.1 dX9_ask_103 hl (by decide) rfl (fun ls hl => ?_)
          refine lv_iload F.1 F.2.1 dX9_ask_105 (lv_at hl 4 rfl) ?_
          refine lv_istore_n (lv' := [(3, .int x5), (4, .int v12), (6, .int v12), (0, .ref (ad 0)), (5, .int x5)]) F.1 F.2.1 dX9_ask_107 rfl hl (by decide) rfl (fun ls hl => ?_)
          exact B108 σ0 _ _ _ x5 v12 x5 h hB (lv_sub hl [3, 0, 1, 4] rfl)
  have B30 : ∀ (n30 : Nat) (σ0 : Mem) (H : Heap) (locs : List Loc) (ls : Array Slot) (x1 : Int32) (x2 : Int32) (x3 : Int32), f_X9_ask_b30 n30 σ0 x1 x2 x3 = some o → Bd D cy ad σ0 s.heap H locs → lv_has ls 7 [(0, .ref (ad 0)), (1, .int x1), (2, .int x2), (3, .int x3)] → W p l e rm_X9_ask s m ([.ref (ad 0), .int a1, .int a2] : List Value).toArray below meth c H locs 0 0 (MQ below (CQi D cy ad o.1 o.2) ([.ref (ad 0), .int a1, .int a2] : List Value).toArray s 0 0 (AA ad)) (F0 m 30 ls []) := by
    intro n30
    induction n30 with
    | zero => intro σ0 H locs ls x1 x2 x3 h hB hl; cases h
    | succ n30 ih30 =>
      have B59 : ∀ (σ0 : Mem) (H : Heap) (locs : List Loc) (ls : Array Slot) (x1 : Int32) (x2 : Int32) (x3 : Int32), f_X9_ask_b59 (f_X9_ask_b30 n30) σ0 x1 x2 x3 = some o → Bd D cy ad σ0 s.heap H locs → lv_has ls 7 [(0, .ref (ad 0)), (1, .int x1), (2, .int x2), (3, .int x3)] → W p l e rm_X9_ask s m ([.ref (ad 0), .int a1, .int a2] : List Value).toArray below meth c H locs 0 0 (MQ below (CQi D cy ad o.1 o.2) ([.ref (ad 0), .int a1, .int a2] : List Value).toArray s 0 0 (AA ad)) (F0 m 59 ls []) := by
        intro σ0 H locs ls x1 x2 x3 h hB hl
        unfold f_X9_ask_b59 at h
        refine lv_iinc (v := (x3 + (1 : Int32))) (lv' := [(3, .int (x3 + (1 : Int32))), (0, .ref (ad 0)), (1, .int x1), (2, .int x2)]) F.1 F.2.1 dX9_ask_59 hl (k := 3) rfl rfl (by decide) rfl (fun ls hl => ?_)
        refine lv_goto (tgt := 30) F.1 F.2.1 dX9_ask_62 (by decide) ?_
        exact ih30 σ0 _ _ _ x1 x2 (x3 + (1 : Int32)) h hB (lv_sub hl [1, 2, 3, 0] rfl)
      intro σ0 H locs ls x1 x2 x3 h hB hl
      rw [f_X9_ask_b30] at h
      refine lv_iload_n F.1 F.2.1 dX9_ask_30 rfl (lv_at hl 3 rfl) ?_
      refine lv_bipush (v := 6) F.1 F.2.1 dX9_ask_31 (by decide) ?_
      refine lv_icmp_ge (tgt := 65) F.1 F.2.1 dX9_ask_33 (by decide) (fun c9 => ?_) (fun c9 => ?_)
      · replace h := it_e c9 h
        refine lv_iconst (v := (-1)) F.1 F.2.1 dX9_ask_65 (by decide) ?_
        refine lv_istore_n (lv' := [(3, .int (-1 : Int32)), (0, .ref (ad 0)), (1, .int x1), (2, .int x2)]) F.1 F.2.1 dX9_ask_66 rfl hl (by decide) rfl (fun ls hl => ?_)
        refine lv_bipush (v := 7) F.1 F.2.1 dX9_ask_67 (by decide) ?_
        refine lv_istore (lv' := [(4, .int (7 : Int32)), (3, .int (-1 : Int32)), (0, .ref (ad 0)), (1, .int x1), (2, .int x2)]) F.1 F.2.1 dX9_ask_69 hl (by decide) rfl (fun ls hl => ?_)
        refine lv_iconst (v := 0) F.1 F.2.1 dX9_ask_71 (by decide) ?_
        refine lv_istore (lv' := [(5, .int (0 : Int32)), (4, .int (7 : Int32)), (3, .int (-1 : Int32)), (0, .ref (ad 0)), (1, .int x1), (2, .int x2)]) F.1 F.2.1 dX9_ask_72 hl (by decide) rfl (fun ls hl => ?_)
        exact B74 300 σ0 _ _ _ (-1 : Int32) (7 : Int32) (0 : Int32) h hB (lv_sub hl [3, 2, 1, 0] rfl)
      · replace h := ie_e c9 h
        refine lv_aload_n F.1 F.2.1 dX9_ask_36 rfl (lv_at hl 0 rfl) ?_
        refine lv_iload_n F.1 F.2.1 dX9_ask_37 rfl (lv_at hl 1 rfl) ?_
        refine lv_iload_n F.1 F.2.1 dX9_ask_38 rfl (lv_at hl 3 rfl) ?_
        refine lv_aload_n F.1 F.2.1 dX9_ask_39 rfl (lv_at hl 0 rfl) ?_
        refine gf_RX9_18 F hE hB po_0 rfl dX9_ask_40 ?_
        refine gf_RX9_217 F hE hB po_6 rfl dX9_ask_43 ?_
        refine lv_iload_n F.1 F.2.1 dX9_ask_46 rfl (lv_at hl 1 rfl) ?_
        obtain ⟨hi14, h⟩ := ck_e h
        refine q_iald F hE hB po_9 hi14 dX9_ask_47 ?_
        obtain ⟨v17, σ16, hc15, h⟩ := bi_e h
        refine q_ci hB (q_goV F hE hB (k_X9_couldHaveBeen hI σ0 x1 x3 (σ0.1 9 x1.toNatClampNeg) hc15) (ca_RX9_220 F.2.2.2.2 ⟨Nat.le_of_ble_eq_true rfl, Nat.le_of_ble_eq_true rfl⟩) rfl po_0 rfl hl.1 rfl (Nat.le_of_ble_eq_true rfl) dX9_ask_48 ⟨Nat.le_of_ble_eq_true rfl, Nat.le_of_ble_eq_true rfl⟩) (fun H locs hB => ?_)
        refine lv_if_eq (tgt := 59) F.1 F.2.1 dX9_ask_51 (by decide) (fun c18 => ?_) (fun c18 => ?_)
        · replace h := it_e c18 h
          exact B59 σ16 _ _ _ x1 x2 x3 h hB (lv_sub hl [0, 1, 2, 3] rfl)
        · replace h := ie_e c18 h
          refine lv_aload_n F.1 F.2.1 dX9_ask_54 rfl (lv_at hl 0 rfl) ?_
          refine lv_iload_n F.1 F.2.1 dX9_ask_55 rfl (lv_at hl 2 rfl) ?_
          obtain ⟨σ20, hc19, h⟩ := bv_e h
          refine q_cv hB (q_goV F hE hB (k_X9_tallyPlaces hI σ16 x2 hc19) (ca_RX9_224 F.2.2.2.2 ⟨Nat.le_of_ble_eq_true rfl, Nat.le_of_ble_eq_true rfl⟩) rfl po_0 rfl hl.1 rfl (Nat.le_of_ble_eq_true rfl) dX9_ask_56 ⟨Nat.le_of_ble_eq_true rfl, Nat.le_of_ble_eq_true rfl⟩) (fun H locs hB => ?_)
          exact B59 σ20 _ _ _ x1 x2 x3 h hB (lv_sub hl [0, 1, 2, 3] rfl)
  unfold f_X9_ask at h
  refine lv_aload_n F.1 F.2.1 dX9_ask_0 rfl (lv_at hl 0 rfl) ?_
  refine lv_iload_n F.1 F.2.1 dX9_ask_1 rfl (lv_at hl 1 rfl) ?_
  obtain ⟨v2, hc1, h⟩ := bp_e h
  refine q_ci hB (q_goV F hE hB (k_X9_isBridge hI σ0 a1 hc1) (ca_RX9_106 F.2.2.2.2 ⟨Nat.le_of_ble_eq_true rfl, Nat.le_of_ble_eq_true rfl⟩) rfl po_0 rfl hl.1 rfl (Nat.le_of_ble_eq_true rfl) dX9_ask_2 ⟨Nat.le_of_ble_eq_true rfl, Nat.le_of_ble_eq_true rfl⟩) (fun H locs hB => ?_)
  refine lv_if_eq (tgt := 17) F.1 F.2.1 dX9_ask_5 (by decide) (fun c3 => ?_) (fun c3 => ?_)
  · replace h := it_e c3 h
    refine lv_bipush (v := (-2)) F.1 F.2.1 dX9_ask_17 (by decide) ?_
    exact q_iret F hlocks hr hB (so1 h) (so2 h) dX9_ask_19
  · replace h := ie_e c3 h
    refine lv_iload_n F.1 F.2.1 dX9_ask_8 rfl (lv_at hl 2 rfl) ?_
    refine lv_bipush (v := 100) F.1 F.2.1 dX9_ask_9 (by decide) ?_
    obtain ⟨v5, hc4, h⟩ := bp_e h
    refine q_ci hB (q_goS F hE hB (k_X9_isWithin hI σ0 a2 (100 : Int32) hc4) (ca_RX9_84 F.2.2.2.2 ⟨Nat.le_of_ble_eq_true rfl, Nat.le_of_ble_eq_true rfl⟩) rfl hl.1 rfl (Nat.le_of_ble_eq_true rfl) dX9_ask_11 ⟨Nat.le_of_ble_eq_true rfl, Nat.le_of_ble_eq_true rfl⟩) (fun H locs hB => ?_)
    refine lv_if_ne (tgt := 20) F.1 F.2.1 dX9_ask_14 (by decide) (fun c6 => ?_) (fun c6 => ?_)
    · replace h := ie_e c6 h
      refine lv_aload_n F.1 F.2.1 dX9_ask_20 rfl (lv_at hl 0 rfl) ?_
      refine gf_RX9_77 F hE hB po_0 rfl dX9_ask_21 ?_
      refine lv_iconst (v := 0) F.1 F.2.1 dX9_ask_24 (by decide) ?_
      obtain ⟨σ8, hc7, h⟩ := bv_e h
      refine q_cv hB (q_goS F hE hB (k_J7_fill_53178 hI σ0 63 80 row_63 (0 : Int32) hc7) (ca_RX9_211 F.2.2.2.2 ⟨Nat.le_of_ble_eq_true rfl, Nat.le_of_ble_eq_true rfl⟩) rfl hl.1 rfl (Nat.le_of_ble_eq_true rfl) dX9_ask_25 ⟨Nat.le_of_ble_eq_true rfl, Nat.le_of_ble_eq_true rfl⟩) (fun H locs hB => ?_)
      refine lv_iconst (v := 0) F.1 F.2.1 dX9_ask_28 (by decide) ?_
      refine lv_istore_n (lv' := [(3, .int (0 : Int32)), (0, .ref (ad 0)), (1, .int a1), (2, .int a2)]) F.1 F.2.1 dX9_ask_29 rfl hl (by decide) rfl (fun ls hl => ?_)
      exact B30 300 σ8 _ _ _ a1 a2 (0 : Int32) h hB (lv_sub hl [1, 2, 3, 0] rfl)
    · replace h := it_e c6 h
      refine lv_bipush (v := (-2)) F.1 F.2.1 dX9_ask_17 (by decide) ?_
      exact q_iret F hlocks hr hB (so1 h) (so2 h) dX9_ask_19
