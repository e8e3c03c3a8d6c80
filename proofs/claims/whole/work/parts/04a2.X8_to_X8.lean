def f_X8_run_b56 (k29 : Mem → Nat → Int32 → Int32 → Option (Mem)) (σ0 : Mem) (r0 : Nat) (x2 : Int32) : Option (Mem) := (bi (f_X8_letGoOn σ0 r0 x2) (fun v12 σ11 => (k29 σ11 r0 v12 (x2 + (1 : Int32)))))
def f_X8_run_b45 (k29 : Mem → Nat → Int32 → Int32 → Option (Mem)) (σ0 : Mem) (r0 : Nat) (x2 : Int32) : Option (Mem) := (if (10 : Int32) ≤ x2 then (f_X8_run_b56 k29 σ0 r0 x2) else (bv (f_X8_letStart σ0 r0 x2) (fun σ14 => (f_X8_run_b56 k29 σ14 r0 x2))))
def f_X8_run_b29 : Nat → Mem → Nat → Int32 → Int32 → Option (Mem)
  | 0, _, _, _, _ => none
  | n29 + 1, σ0, r0, x1, x2 => (if (100 : Int32) ≤ x2 then (some σ0) else (if x1 = (0 : Int32) then (if (10 : Int32) ≤ x2 then (some σ0) else (f_X8_run_b45 (f_X8_run_b29 n29) σ0 r0 x2)) else (f_X8_run_b45 (f_X8_run_b29 n29) σ0 r0 x2)))
def f_X8_run (σ0 : Mem) (q0 : Nat) : Option (Mem) := (bv (f_J7_fill_53178 σ0 (q0 + 3) 9 (0 : Int32)) (fun σ2 => (bv (f_J7_fill_53178 σ2 (q0 + 4) 64 (100 : Int32)) (fun σ4 => (bv (f_J7_fill_53178 σ4 (q0 + 5) 8 (0 : Int32)) (fun σ6 => (f_X8_run_b29 300 σ6 q0 (1 : Int32) (0 : Int32))))))))
set_option maxHeartbeats 4000000 in
set_option maxRecDepth 100000 in
theorem k_X8_run {l : Launch} {D : va_G} {cy : Nat → ClassId} {ad : Nat → Nat} {ta tb : Nat} (hI : AdI ad) (σ0 : Mem) (q0 : Nat) (hq0 : isVoy q0) {o : Mem} (h : f_X8_run σ0 q0 = some o) : Met l yX8_run (Cond.code yX8_run cX8_run 3 none :: wG) rm_X8_run (CP D cy ad ta tb σ0 [.ref (ad q0)]) (CQv D cy ad o) 0 0 (AA ad) := by
  refine Met.ofW (cc := cX8_run) (maxL := 3) (ret := none) (by decide) rfl ?_
  intro p e s m args below meth c s₁ B hml hv
  obtain ⟨rfl, hE, hP⟩ := hv
  have hts := atoms_spec (ws := Cond.code yX8_run cX8_run 3 none :: wG) B.pre
  have F : CallFix p m c cX8_run 3 s _ wG RX8 := ⟨B.exec, B.bytes, hml, findClass_of_methodNamed B.named, fun w hw => hts w (List.mem_cons_of_mem _ hw)⟩
  have hr := B.returns
  have hlocks := B.notSynchronized
  have hB : Bd D cy ad σ0 s.heap s.heap [] := ⟨hP, va_S.rf⟩
  have hl := lv_entry ([.ref (ad q0)] : List Value) (n := 3) (Nat.le_of_ble_eq_true rfl)
  rw [lg_entry_eq]
  generalize (lg_sl ([.ref (ad q0)] : List Value) ++ List.replicate (3 - (lg_sl ([.ref (ad q0)] : List Value)).length) Slot.unset).toArray = ls at hl ⊢
  have hl : lv_has ls 3 [(0, .ref (ad q0))] := hl
  have B29 : ∀ (n29 : Nat) (σ0 : Mem) (H : Heap) (locs : List Loc) (ls : Array Slot) (r0 : Nat) (x1 : Int32) (x2 : Int32) (hr0 : isVoy r0), f_X8_run_b29 n29 σ0 r0 x1 x2 = some o → Bd D cy ad σ0 s.heap H locs → lv_has ls 3 [(0, .ref (ad r0)), (1, .int x1), (2, .int x2)] → W p l e rm_X8_run s m ([.ref (ad q0)] : List Value).toArray below meth c H locs 0 0 (MQ below (CQv D cy ad o) ([.ref (ad q0)] : List Value).toArray s 0 0 (AA ad)) (F0 m 29 ls []) := by
    intro n29
    induction n29 with
    | zero => intro σ0 H locs ls r0 x1 x2 hr0 h hB hl; cases h
    | succ n29 ih29 =>
      have B56 : ∀ (σ0 : Mem) (H : Heap) (locs : List Loc) (ls : Array Slot) (r0 : Nat) (x2 : Int32) (hr0 : isVoy r0), f_X8_run_b56 (f_X8_run_b29 n29) σ0 r0 x2 = some o → Bd D cy ad σ0 s.heap H locs → lv_has ls 3 [(0, .ref (ad r0)), (2, .int x2)] → W p l e rm_X8_run s m ([.ref (ad q0)] : List Value).toArray below meth c H locs 0 0 (MQ below (CQv D cy ad o) ([.ref (ad q0)] : List Value).toArray s 0 0 (AA ad)) (F0 m 56 ls []) := by
        intro σ0 H locs ls r0 x2 hr0 h hB hl
        unfold f_X8_run_b56 at h
        refine lv_aload_n F.1 F.2.1 dX8_run_56 rfl (lv_at hl 0 rfl) ?_
        refine lv_iload_n F.1 F.2.1 dX8_run_57 rfl (lv_at hl 1 rfl) ?_
        obtain ⟨v12, σ11, hc10, h⟩ := bi_e h
        refine q_ci hB (q_goV F hE hB (k_X8_letGoOn hI σ0 r0 hr0 x2 hc10) (ca_RX8_54 F.2.2.2.2 ⟨Nat.le_of_ble_eq_true rfl, Nat.le_of_ble_eq_true rfl⟩) rfl (po_Voy hr0) rfl hl.1 rfl (Nat.le_of_ble_eq_true rfl) dX8_run_58 ⟨Nat.le_of_ble_eq_true rfl, Nat.le_of_ble_eq_true rfl⟩) (fun H locs hB => ?_)
        refine lv_istore_n (lv' := [(1, .int v12), (0, .ref (ad r0)), (2, .int x2)]) F.1 F.2.1 dX8_run_61 rfl hl (by decide) rfl (fun ls hl => ?_)
        refine lv_iinc (v := (x2 + (1 : Int32))) (lv' := [(2, .int (x2 + (1 : Int32))), (1, .int v12), (0, .ref (ad r0))]) F.1 F.2.1 dX8_run_62 hl (k := 2) rfl rfl (by decide) rfl (fun ls hl => ?_)
        refine lv_goto (tgt := 29) F.1 F.2.1 dX8_run_65 (by decide) ?_
        exact ih29 σ11 _ _ _ r0 v12 (x2 + (1 : Int32)) hr0 h hB (lv_sub hl [2, 1, 0] rfl)
      have B45 : ∀ (σ0 : Mem) (H : Heap) (locs : List Loc) (ls : Array Slot) (r0 : Nat) (x2 : Int32) (hr0 : isVoy r0), f_X8_run_b45 (f_X8_run_b29 n29) σ0 r0 x2 = some o → Bd D cy ad σ0 s.heap H locs → lv_has ls 3 [(0, .ref (ad r0)), (2, .int x2)] → W p l e rm_X8_run s m ([.ref (ad q0)] : List Value).toArray below meth c H locs 0 0 (MQ below (CQv D cy ad o) ([.ref (ad q0)] : List Value).toArray s 0 0 (AA ad)) (F0 m 45 ls []) := by
        intro σ0 H locs ls r0 x2 hr0 h hB hl
        unfold f_X8_run_b45 at h
        refine lv_iload_n F.1 F.2.1 dX8_run_45 rfl (lv_at hl 1 rfl) ?_
        refine lv_bipush (v := 10) F.1 F.2.1 dX8_run_46 (by decide) ?_
        refine lv_icmp_ge (tgt := 56) F.1 F.2.1 dX8_run_48 (by decide) (fun c9 => ?_) (fun c9 => ?_)
        · replace h := it_e c9 h
          exact B56 σ0 _ _ _ r0 x2 hr0 h hB (lv_sub hl [0, 1] rfl)
        · replace h := ie_e c9 h
          refine lv_aload_n F.1 F.2.1 dX8_run_51 rfl (lv_at hl 0 rfl) ?_
          refine lv_iload_n F.1 F.2.1 dX8_run_52 rfl (lv_at hl 1 rfl) ?_
          obtain ⟨σ14, hc13, h⟩ := bv_e h
          refine q_cv hB (q_goV F hE hB (k_X8_letStart hI σ0 r0 hr0 x2 hc13) (ca_RX8_50 F.2.2.2.2 ⟨Nat.le_of_ble_eq_true rfl, Nat.le_of_ble_eq_true rfl⟩) rfl (po_Voy hr0) rfl hl.1 rfl (Nat.le_of_ble_eq_true rfl) dX8_run_53 ⟨Nat.le_of_ble_eq_true rfl, Nat.le_of_ble_eq_true rfl⟩) (fun H locs hB => ?_)
          exact B56 σ14 _ _ _ r0 x2 hr0 h hB (lv_sub hl [0, 1] rfl)
      intro σ0 H locs ls r0 x1 x2 hr0 h hB hl
      rw [f_X8_run_b29] at h
      refine lv_iload_n F.1 F.2.1 dX8_run_29 rfl (lv_at hl 2 rfl) ?_
      refine lv_bipush (v := 100) F.1 F.2.1 dX8_run_30 (by decide) ?_
      refine lv_icmp_ge (tgt := 68) F.1 F.2.1 dX8_run_32 (by decide) (fun c7 => ?_) (fun c7 => ?_)
      · replace h := it_e c7 h
        exact q_vret F hlocks hr hB (Option.some.inj h) dX8_run_68
      · replace h := ie_e c7 h
        refine lv_iload_n F.1 F.2.1 dX8_run_35 rfl (lv_at hl 1 rfl) ?_
        refine lv_if_ne (tgt := 45) F.1 F.2.1 dX8_run_36 (by decide) (fun c8 => ?_) (fun c8 => ?_)
        · replace h := ie_e c8 h
          exact B45 σ0 _ _ _ r0 x2 hr0 h hB (lv_sub hl [0, 2] rfl)
        · replace h := it_e c8 h
          refine lv_iload_n F.1 F.2.1 dX8_run_39 rfl (lv_at hl 2 rfl) ?_
          refine lv_bipush (v := 10) F.1 F.2.1 dX8_run_40 (by decide) ?_
          refine lv_icmp_ge (tgt := 68) F.1 F.2.1 dX8_run_42 (by decide) (fun c15 => ?_) (fun c15 => ?_)
          · replace h := it_e c15 h
            exact q_vret F hlocks hr hB (Option.some.inj h) dX8_run_68
          · replace h := ie_e c15 h
            exact B45 σ0 _ _ _ r0 x2 hr0 h hB (lv_sub hl [0, 2] rfl)
  unfold f_X8_run at h
  refine lv_aload_n F.1 F.2.1 dX8_run_0 rfl (lv_at hl 0 rfl) ?_
  refine gf_RX8_18 F hE hB (po_Voy hq0) rfl dX8_run_1 ?_
  refine lv_iconst (v := 0) F.1 F.2.1 dX8_run_4 (by decide) ?_
  obtain ⟨σ2, hc1, h⟩ := bv_e h
  refine q_cv hB (q_goS F hE hB (k_J7_fill_53178 hI σ0 (q0 + 3) 9 (row_Voy_3 hq0) (0 : Int32) hc1) (ca_RX8_44 F.2.2.2.2 ⟨Nat.le_of_ble_eq_true rfl, Nat.le_of_ble_eq_true rfl⟩) rfl hl.1 rfl (Nat.le_of_ble_eq_true rfl) dX8_run_5 ⟨Nat.le_of_ble_eq_true rfl, Nat.le_of_ble_eq_true rfl⟩) (fun H locs hB => ?_)
  refine lv_aload_n F.1 F.2.1 dX8_run_8 rfl (lv_at hl 0 rfl) ?_
  refine gf_RX8_21 F hE hB (po_Voy hq0) rfl dX8_run_9 ?_
  refine lv_bipush (v := 100) F.1 F.2.1 dX8_run_12 (by decide) ?_
  obtain ⟨σ4, hc3, h⟩ := bv_e h
  refine q_cv hB (q_goS F hE hB (k_J7_fill_53178 hI σ2 (q0 + 4) 64 (row_Voy_4 hq0) (100 : Int32) hc3) (ca_RX8_44 F.2.2.2.2 ⟨Nat.le_of_ble_eq_true rfl, Nat.le_of_ble_eq_true rfl⟩) rfl hl.1 rfl (Nat.le_of_ble_eq_true rfl) dX8_run_14 ⟨Nat.le_of_ble_eq_true rfl, Nat.le_of_ble_eq_true rfl⟩) (fun H locs hB => ?_)
  refine lv_aload_n F.1 F.2.1 dX8_run_17 rfl (lv_at hl 0 rfl) ?_
  refine gf_RX8_24 F hE hB (po_Voy hq0) rfl dX8_run_18 ?_
  refine lv_iconst (v := 0) F.1 F.2.1 dX8_run_21 (by decide) ?_
  obtain ⟨σ6, hc5, h⟩ := bv_e h
  refine q_cv hB (q_goS F hE hB (k_J7_fill_53178 hI σ4 (q0 + 5) 8 (row_Voy_5 hq0) (0 : Int32) hc5) (ca_RX8_44 F.2.2.2.2 ⟨Nat.le_of_ble_eq_true rfl, Nat.le_of_ble_eq_true rfl⟩) rfl hl.1 rfl (Nat.le_of_ble_eq_true rfl) dX8_run_22 ⟨Nat.le_of_ble_eq_true rfl, Nat.le_of_ble_eq_true rfl⟩) (fun H locs hB => ?_)
  refine lv_iconst (v := 1) F.1 F.2.1 dX8_run_25 (by decide) ?_
  refine lv_istore_n (lv' := [(1, .int (1 : Int32)), (0, .ref (ad q0))]) F.1 F.2.1 dX8_run_26 rfl hl (by decide) rfl (fun ls hl => ?_)
  refine lv_iconst (v := 0) F.1 F.2.1 dX8_run_27 (by decide) ?_
  refine lv_istore_n (lv' := [(2, .int (0 : Int32)), (1, .int (1 : Int32)), (0, .ref (ad q0))]) F.1 F.2.1 dX8_run_28 rfl hl (by decide) rfl (fun ls hl => ?_)
  exact B29 300 σ6 _ _ _ q0 (1 : Int32) (0 : Int32) hq0 h hB (lv_sub hl [2, 1, 0] rfl)
def f_X8_isLifted (σ0 : Mem) (q0 : Nat) (a1 : Int32) (a2 : Int32) : Option (Int32) := (ck a1 8 (if (((σ0.1 (q0 + 1) a1.toNatClampNeg) >>> (a2 &&& 31)) &&& (1 : Int32)) = (0 : Int32) then (some (0 : Int32)) else (some (1 : Int32))))
set_option maxHeartbeats 4000000 in
set_option maxRecDepth 100000 in
theorem k_X8_isLifted {l : Launch} {D : va_G} {cy : Nat → ClassId} {ad : Nat → Nat} {ta tb : Nat} (hI : AdI ad) (σ0 : Mem) (q0 : Nat) (hq0 : isVoy q0) (a1 : Int32) (a2 : Int32) {o : Int32} (h : f_X8_isLifted σ0 q0 a1 a2 = some o) : Met l yX8_isLifted (Cond.code yX8_isLifted cX8_isLifted 3 (some .boolean) :: wG) rm_X8_isLifted (CP D cy ad ta tb σ0 [.ref (ad q0), .int a1, .int a2]) (CQi D cy ad o σ0) 0 0 (AA ad) := by
  refine Met.ofW (cc := cX8_isLifted) (maxL := 3) (ret := (some .boolean)) (by decide) rfl ?_
  intro p e s m args below meth c s₁ B hml hv
  obtain ⟨rfl, hE, hP⟩ := hv
  have hts := atoms_spec (ws := Cond.code yX8_isLifted cX8_isLifted 3 (some .boolean) :: wG) B.pre
  have F : CallFix p m c cX8_isLifted 3 s _ wG RX8 := ⟨B.exec, B.bytes, hml, findClass_of_methodNamed B.named, fun w hw => hts w (List.mem_cons_of_mem _ hw)⟩
  have hr := B.returns
  have hlocks := B.notSynchronized
  have hB : Bd D cy ad σ0 s.heap s.heap [] := ⟨hP, va_S.rf⟩
  have hl := lv_entry ([.ref (ad q0), .int a1, .int a2] : List Value) (n := 3) (Nat.le_of_ble_eq_true rfl)
  rw [lg_entry_eq]
  generalize (lg_sl ([.ref (ad q0), .int a1, .int a2] : List Value) ++ List.replicate (3 - (lg_sl ([.ref (ad q0), .int a1, .int a2] : List Value)).length) Slot.unset).toArray = ls at hl ⊢
  have hl : lv_has ls 3 [(0, .ref (ad q0)), (1, .int a1), (2, .int a2)] := hl
  unfold f_X8_isLifted at h
  refine lv_aload_n F.1 F.2.1 dX8_isLifted_0 rfl (lv_at hl 0 rfl) ?_
  refine gf_RX8_9 F hE hB (po_Voy hq0) rfl dX8_isLifted_1 ?_
  refine lv_iload_n F.1 F.2.1 dX8_isLifted_4 rfl (lv_at hl 1 rfl) ?_
  obtain ⟨hi1, h⟩ := ck_e h
  refine q_iald F hE hB (po_row (row_Voy_1 hq0)) hi1 dX8_isLifted_5 ?_
  refine lv_iload_n F.1 F.2.1 dX8_isLifted_6 rfl (lv_at hl 2 rfl) ?_
  refine lv_ishr F.1 F.2.1 dX8_isLifted_7 ?_
  refine lv_iconst (v := 1) F.1 F.2.1 dX8_isLifted_8 (by decide) ?_
  refine lv_iand F.1 F.2.1 dX8_isLifted_9 ?_
  refine lv_if_eq (tgt := 17) F.1 F.2.1 dX8_isLifted_10 (by decide) (fun c2 => ?_) (fun c2 => ?_)
  · replace h := it_e c2 h
    refine lv_iconst (v := 0) F.1 F.2.1 dX8_isLifted_17 (by decide) ?_
    exact q_zret F hlocks hr rfl hB (Option.some.inj h) rfl dX8_isLifted_18
  · replace h := ie_e c2 h
    refine lv_iconst (v := 1) F.1 F.2.1 dX8_isLifted_13 (by decide) ?_
    refine lv_goto (tgt := 18) F.1 F.2.1 dX8_isLifted_14 (by decide) ?_
    exact q_zret F hlocks hr rfl hB (Option.some.inj h) rfl dX8_isLifted_18
def f_X8_hasSlipped (σ0 : Mem) (q0 : Nat) (a1 : Int32) (a2 : Int32) : Option (Int32) := (ck a1 8 (if (((σ0.1 (q0 + 5) a1.toNatClampNeg) >>> (a2 &&& 31)) &&& (1 : Int32)) = (0 : Int32) then (some (0 : Int32)) else (some (1 : Int32))))
set_option maxHeartbeats 4000000 in
set_option maxRecDepth 100000 in
theorem k_X8_hasSlipped {l : Launch} {D : va_G} {cy : Nat → ClassId} {ad : Nat → Nat} {ta tb : Nat} (hI : AdI ad) (σ0 : Mem) (q0 : Nat) (hq0 : isVoy q0) (a1 : Int32) (a2 : Int32) {o : Int32} (h : f_X8_hasSlipped σ0 q0 a1 a2 = some o) : Met l yX8_hasSlipped (Cond.code yX8_hasSlipped cX8_hasSlipped 3 (some .boolean) :: wG) rm_X8_hasSlipped (CP D cy ad ta tb σ0 [.ref (ad q0), .int a1, .int a2]) (CQi D cy ad o σ0) 0 0 (AA ad) := by
  refine Met.ofW (cc := cX8_hasSlipped) (maxL := 3) (ret := (some .boolean)) (by decide) rfl ?_
  intro p e s m args below meth c s₁ B hml hv
  obtain ⟨rfl, hE, hP⟩ := hv
  have hts := atoms_spec (ws := Cond.code yX8_hasSlipped cX8_hasSlipped 3 (some .boolean) :: wG) B.pre
  have F : CallFix p m c cX8_hasSlipped 3 s _ wG RX8 := ⟨B.exec, B.bytes, hml, findClass_of_methodNamed B.named, fun w hw => hts w (List.mem_cons_of_mem _ hw)⟩
  have hr := B.returns
  have hlocks := B.notSynchronized
  have hB : Bd D cy ad σ0 s.heap s.heap [] := ⟨hP, va_S.rf⟩
  have hl := lv_entry ([.ref (ad q0), .int a1, .int a2] : List Value) (n := 3) (Nat.le_of_ble_eq_true rfl)
  rw [lg_entry_eq]
  generalize (lg_sl ([.ref (ad q0), .int a1, .int a2] : List Value) ++ List.replicate (3 - (lg_sl ([.ref (ad q0), .int a1, .int a2] : List Value)).length) Slot.unset).toArray = ls at hl ⊢
  have hl : lv_has ls 3 [(0, .ref (ad q0)), (1, .int a1), (2, .int a2)] := hl
  unfold f_X8_hasSlipped at h
  refine lv_aload_n F.1 F.2.1 dX8_hasSlipped_0 rfl (lv_at hl 0 rfl) ?_
  refine gf_RX8_24 F hE hB (po_Voy hq0) rfl dX8_hasSlipped_1 ?_
  refine lv_iload_n F.1 F.2.1 dX8_hasSlipped_4 rfl (lv_at hl 1 rfl) ?_
  obtain ⟨hi1, h⟩ := ck_e h
  refine q_iald F hE hB (po_row (row_Voy_5 hq0)) hi1 dX8_hasSlipped_5 ?_
  refine lv_iload_n F.1 F.2.1 dX8_hasSlipped_6 rfl (lv_at hl 2 rfl) ?_
  refine lv_ishr F.1 F.2.1 dX8_hasSlipped_7 ?_
  refine lv_iconst (v := 1) F.1 F.2.1 dX8_hasSlipped_8 (by decide) ?_
  refine lv_iand F.1 F.2.1 dX8_hasSlipped_9 ?_
  refine lv_if_eq (tgt := 17) F.1 F.2.1 dX8_hasSlipped_10 (by decide) (fun c2 => ?_) (fun c2 => ?_)
  · replace h := it_e c2 h
    refine lv_iconst (v := 0) F.1 F.2.1 dX8_hasSlipped_17 (by decide) ?_
    exact q_zret F hlocks hr rfl hB (Option.some.inj h) rfl dX8_hasSlipped_18
  · replace h := ie_e c2 h
    refine lv_iconst (v := 1) F.1 F.2.1 dX8_hasSlipped_13 (by decide) ?_
    refine lv_goto (tgt := 18) F.1 F.2.1 dX8_hasSlipped_14 (by decide) ?_
    exact q_zret F hlocks hr rfl hB (Option.some.inj h) rfl dX8_hasSlipped_18
def f_X8_passStep (σ0 : Mem) (q0 : Nat) (a1 : Int32) (a2 : Int32) : Option (Int32) := (ck ((a1 * (8 : Int32)) + a2) 64 (some (σ0.1 (q0 + 4) ((a1 * (8 : Int32)) + a2).toNatClampNeg)))
set_option maxHeartbeats 4000000 in
set_option maxRecDepth 100000 in
theorem k_X8_passStep {l : Launch} {D : va_G} {cy : Nat → ClassId} {ad : Nat → Nat} {ta tb : Nat} (hI : AdI ad) (σ0 : Mem) (q0 : Nat) (hq0 : isVoy q0) (a1 : Int32) (a2 : Int32) {o : Int32} (h : f_X8_passStep σ0 q0 a1 a2 = some o) : Met l yX8_passStep (Cond.code yX8_passStep cX8_passStep 3 (some .int) :: wG) rm_X8_passStep (CP D cy ad ta tb σ0 [.ref (ad q0), .int a1, .int a2]) (CQi D cy ad o σ0) 0 0 (AA ad) := by
  refine Met.ofW (cc := cX8_passStep) (maxL := 3) (ret := (some .int)) (by decide) rfl ?_
  intro p e s m args below meth c s₁ B hml hv
  obtain ⟨rfl, hE, hP⟩ := hv
  have hts := atoms_spec (ws := Cond.code yX8_passStep cX8_passStep 3 (some .int) :: wG) B.pre
  have F : CallFix p m c cX8_passStep 3 s _ wG RX8 := ⟨B.exec, B.bytes, hml, findClass_of_methodNamed B.named, fun w hw => hts w (List.mem_cons_of_mem _ hw)⟩
  have hr := B.returns
  have hlocks := B.notSynchronized
  have hB : Bd D cy ad σ0 s.heap s.heap [] := ⟨hP, va_S.rf⟩
  have hl := lv_entry ([.ref (ad q0), .int a1, .int a2] : List Value) (n := 3) (Nat.le_of_ble_eq_true rfl)
  rw [lg_entry_eq]
  generalize (lg_sl ([.ref (ad q0), .int a1, .int a2] : List Value) ++ List.replicate (3 - (lg_sl ([.ref (ad q0), .int a1, .int a2] : List Value)).length) Slot.unset).toArray = ls at hl ⊢
  have hl : lv_has ls 3 [(0, .ref (ad q0)), (1, .int a1), (2, .int a2)] := hl
  unfold f_X8_passStep at h
  refine lv_aload_n F.1 F.2.1 dX8_passStep_0 rfl (lv_at hl 0 rfl) ?_
  refine gf_RX8_21 F hE hB (po_Voy hq0) rfl dX8_passStep_1 ?_
  refine lv_iload_n F.1 F.2.1 dX8_passStep_4 rfl (lv_at hl 1 rfl) ?_
  refine lv_bipush (v := 8) F.1 F.2.1 dX8_passStep_5 (by decide) ?_
  refine lv_imul F.1 F.2.1 dX8_passStep_7 ?_
  refine lv_iload_n F.1 F.2.1 dX8_passStep_8 rfl (lv_at hl 2 rfl) ?_
  refine lv_iadd F.1 F.2.1 dX8_passStep_9 ?_
  obtain ⟨hi1, h⟩ := ck_e h
  refine q_iald F hE hB (po_row (row_Voy_4 hq0)) hi1 dX8_passStep_10 ?_
  exact q_iret F hlocks hr hB (Option.some.inj h) rfl dX8_passStep_11
def f_X8_placeOf_b14 (σ0 : Mem) : Nat → Nat → Int32 → Int32 → Int32 → Option (Int32)
  | 0, _, _, _, _ => none
  | n14 + 1, r0, x1, x2, x3 => (if (σ0.1 r0 5) ≤ x3 then (some x3) else (bp (f_X8_passStep σ0 r0 x3 x2) (fun v5 => (if x1 < v5 then (some x3) else (f_X8_placeOf_b14 σ0 n14 r0 x1 x2 (x3 + (1 : Int32)))))))
def f_X8_placeOf (σ0 : Mem) (q0 : Nat) (a1 : Int32) (a2 : Int32) : Option (Int32) := (ck a2 8 (if (σ0.1 (q0 + 2) a2.toNatClampNeg) ≤ a1 then (f_X8_placeOf_b14 σ0 300 q0 a1 a2 (0 : Int32)) else (some (-1 : Int32))))
set_option maxHeartbeats 4000000 in
set_option maxRecDepth 100000 in
theorem k_X8_placeOf {l : Launch} {D : va_G} {cy : Nat → ClassId} {ad : Nat → Nat} {ta tb : Nat} (hI : AdI ad) (σ0 : Mem) (q0 : Nat) (hq0 : isVoy q0) (a1 : Int32) (a2 : Int32) {o : Int32} (h : f_X8_placeOf σ0 q0 a1 a2 = some o) : Met l yX8_placeOf (Cond.code yX8_placeOf cX8_placeOf 4 (some .int) :: wG) rm_X8_placeOf (CP D cy ad ta tb σ0 [.ref (ad q0), .int a1, .int a2]) (CQi D cy ad o σ0) 0 0 (AA ad) := by
  refine Met.ofW (cc := cX8_placeOf) (maxL := 4) (ret := (some .int)) (by decide) rfl ?_
  intro p e s m args below meth c s₁ B hml hv
  obtain ⟨rfl, hE, hP⟩ := hv
  have hts := atoms_spec (ws := Cond.code yX8_placeOf cX8_placeOf 4 (some .int) :: wG) B.pre
  have F : CallFix p m c cX8_placeOf 4 s _ wG RX8 := ⟨B.exec, B.bytes, hml, findClass_of_methodNamed B.named, fun w hw => hts w (List.mem_cons_of_mem _ hw)⟩
  have hr := B.returns
  have hlocks := B.notSynchronized
  have hB : Bd D cy ad σ0 s.heap s.heap [] := ⟨hP, va_S.rf⟩
  have hl := lv_entry ([.ref (ad q0), .int a1, .int a2] : List Value) (n := 4) (Nat.le_of_ble_eq_true rfl)
  rw [lg_entry_eq]
  generalize (lg_sl ([.ref (ad q0), .int a1, .int a2] : List Value) ++ List.replicate (4 - (lg_sl ([.ref (ad q0), .int a1, .int a2] : List Value)).length) Slot.unset).toArray = ls at hl ⊢
  have hl : lv_has ls 4 [(0, .ref (ad q0)), (1, .int a1), (2, .int a2)] := hl
  have B14 : ∀ (n14 : Nat) (H : Heap) (locs : List Loc) (ls : Array Slot) (r0 : Nat) (x1 : Int32) (x2 : Int32) (x3 : Int32) (hr0 : isVoy r0), f_X8_placeOf_b14 σ0 n14 r0 x1 x2 x3 = some o → Bd D cy ad σ0 s.heap H locs → lv_has ls 4 [(0, .ref (ad r0)), (1, .int x1), (2, .int x2), (3, .int x3)] → W p l e rm_X8_placeOf s m ([.ref (ad q0), .int a1, .int a2] : List Value).toArray below meth c H locs 0 0 (MQ below (CQi D cy ad o σ0) ([.ref (ad q0), .int a1, .int a2] : List Value).toArray s 0 0 (AA ad)) (F0 m 14 ls []) := by
    intro n14
    induction n14 with
    | zero => intro H locs ls r0 x1 x2 x3 hr0 h hB hl; cases h
    | succ n14 ih14 =>
      intro H locs ls r0 x1 x2 x3 hr0 h hB hl
      rw [f_X8_placeOf_b14] at h
      refine lv_iload_n F.1 F.2.1 dX8_placeOf_14 rfl (lv_at hl 3 rfl) ?_
      refine lv_aload_n F.1 F.2.1 dX8_placeOf_15 rfl (lv_at hl 0 rfl) ?_
      refine gf_RX8_27 F hE hB (po_Voy hr0) rfl dX8_placeOf_16 ?_
      refine lv_icmp_ge (tgt := 38) F.1 F.2.1 dX8_placeOf_19 (by decide) (fun c3 => ?_) (fun c3 => ?_)
      · replace h := it_e c3 h
        refine lv_iload_n F.1 F.2.1 dX8_placeOf_38 rfl (lv_at hl 3 rfl) ?_
        exact q_iret F hlocks hr hB (Option.some.inj h) rfl dX8_placeOf_39
      · replace h := ie_e c3 h
        refine lv_aload_n F.1 F.2.1 dX8_placeOf_22 rfl (lv_at hl 0 rfl) ?_
        refine lv_iload_n F.1 F.2.1 dX8_placeOf_23 rfl (lv_at hl 3 rfl) ?_
        refine lv_iload_n F.1 F.2.1 dX8_placeOf_24 rfl (lv_at hl 2 rfl) ?_
        obtain ⟨v5, hc4, h⟩ := bp_e h
        refine q_ci hB (q_goV F hE hB (k_X8_passStep hI σ0 r0 hr0 x3 x2 hc4) (ca_RX8_66 F.2.2.2.2 ⟨Nat.le_of_ble_eq_true rfl, Nat.le_of_ble_eq_true rfl⟩) rfl (po_Voy hr0) rfl hl.1 rfl (Nat.le_of_ble_eq_true rfl) dX8_placeOf_25 ⟨Nat.le_of_ble_eq_true rfl, Nat.le_of_ble_eq_true rfl⟩) (fun H locs hB => ?_)
        refine lv_iload_n F.1 F.2.1 dX8_placeOf_28 rfl (lv_at hl 1 rfl) ?_
        refine lv_icmp_gt (tgt := 38) F.1 F.2.1 dX8_placeOf_29 (by decide) (fun c6 => ?_) (fun c6 => ?_)
        · replace h := it_e c6 h
          refine lv_iload_n F.1 F.2.1 dX8_placeOf_38 rfl (lv_at hl 3 rfl) ?_
          exact q_iret F hlocks hr hB (Option.some.inj h) rfl dX8_placeOf_39
        · replace h := ie_e c6 h
          refine lv_iinc (v := (x3 + (1 : Int32))) (lv' := [(3, .int (x3 + (1 : Int32))), (0, .ref (ad r0)), (1, .int x1), (2, .int x2)]) F.1 F.2.1 dX8_placeOf_32 hl (k := 3) rfl rfl (by decide) rfl (fun ls hl => ?_)
          refine lv_goto (tgt := 14) F.1 F.2.1 dX8_placeOf_35 (by decide) ?_
          exact ih14 _ _ _ r0 x1 x2 (x3 + (1 : Int32)) hr0 h hB (lv_sub hl [1, 2, 3, 0] rfl)
  unfold f_X8_placeOf at h
  refine lv_aload_n F.1 F.2.1 dX8_placeOf_0 rfl (lv_at hl 0 rfl) ?_
  refine gf_RX8_15 F hE hB (po_Voy hq0) rfl dX8_placeOf_1 ?_
  refine lv_iload_n F.1 F.2.1 dX8_placeOf_4 rfl (lv_at hl 2 rfl) ?_
  obtain ⟨hi1, h⟩ := ck_e h
  refine q_iald F hE hB (po_row (row_Voy_2 hq0)) hi1 dX8_placeOf_5 ?_
  refine lv_iload_n F.1 F.2.1 dX8_placeOf_6 rfl (lv_at hl 1 rfl) ?_
  refine lv_icmp_le (tgt := 12) F.1 F.2.1 dX8_placeOf_7 (by decide) (fun c2 => ?_) (fun c2 => ?_)
  · replace h := it_e c2 h
    refine lv_iconst (v := 0) F.1 F.2.1 dX8_placeOf_12 (by decide) ?_
    refine lv_istore_n (lv' := [(3, .int (0 : Int32)), (0, .ref (ad q0)), (1, .int a1), (2, .int a2)]) F.1 F.2.1 dX8_placeOf_13 rfl hl (by decide) rfl (fun ls hl => ?_)
    exact B14 300 _ _ _ q0 a1 a2 (0 : Int32) hq0 h hB (lv_sub hl [1, 2, 3, 0] rfl)
  · replace h := ie_e c2 h
    refine lv_iconst (v := (-1)) F.1 F.2.1 dX8_placeOf_10 (by decide) ?_
    exact q_iret F hlocks hr hB (Option.some.inj h) rfl dX8_placeOf_11
def f_X8_isThrough (σ0 : Mem) (q0 : Nat) (a1 : Int32) (a2 : Int32) : Option (Int32) := (bp (f_X8_placeOf σ0 q0 a1 a2) (fun v2 => (if v2 = (σ0.1 q0 5) then (some (1 : Int32)) else (some (0 : Int32)))))
set_option maxHeartbeats 4000000 in
set_option maxRecDepth 100000 in
theorem k_X8_isThrough {l : Launch} {D : va_G} {cy : Nat → ClassId} {ad : Nat → Nat} {ta tb : Nat} (hI : AdI ad) (σ0 : Mem) (q0 : Nat) (hq0 : isVoy q0) (a1 : Int32) (a2 : Int32) {o : Int32} (h : f_X8_isThrough σ0 q0 a1 a2 = some o) : Met l yX8_isThrough (Cond.code yX8_isThrough cX8_isThrough 3 (some .boolean) :: wG) rm_X8_isThrough (CP D cy ad ta tb σ0 [.ref (ad q0), .int a1, .int a2]) (CQi D cy ad o σ0) 0 0 (AA ad) := by
  refine Met.ofW (cc := cX8_isThrough) (maxL := 3) (ret := (some .boolean)) (by decide) rfl ?_
  intro p e s m args below meth c s₁ B hml hv
  obtain ⟨rfl, hE, hP⟩ := hv
  have hts := atoms_spec (ws := Cond.code yX8_isThrough cX8_isThrough 3 (some .boolean) :: wG) B.pre
  have F : CallFix p m c cX8_isThrough 3 s _ wG RX8 := ⟨B.exec, B.bytes, hml, findClass_of_methodNamed B.named, fun w hw => hts w (List.mem_cons_of_mem _ hw)⟩
  have hr := B.returns
  have hlocks := B.notSynchronized
  have hB : Bd D cy ad σ0 s.heap s.heap [] := ⟨hP, va_S.rf⟩
  have hl := lv_entry ([.ref (ad q0), .int a1, .int a2] : List Value) (n := 3) (Nat.le_of_ble_eq_true rfl)
  rw [lg_entry_eq]
  generalize (lg_sl ([.ref (ad q0), .int a1, .int a2] : List Value) ++ List.replicate (3 - (lg_sl ([.ref (ad q0), .int a1, .int a2] : List Value)).length) Slot.unset).toArray = ls at hl ⊢
  have hl : lv_has ls 3 [(0, .ref (ad q0)), (1, .int a1), (2, .int a2)] := hl
  unfold f_X8_isThrough at h
  refine lv_aload_n F.1 F.2.1 dX8_isThrough_0 rfl (lv_at hl 0 rfl) ?_
  refine lv_iload_n F.1 F.2.1 dX8_isThrough_1 rfl (lv_at hl 1 rfl) ?_
  refine lv_iload_n F.1 F.2.1 dX8_isThrough_2 rfl (lv_at hl 2 rfl) ?_
  obtain ⟨v2, hc1, h⟩ := bp_e h
  refine q_ci hB (q_goV F hE hB (k_X8_placeOf hI σ0 q0 hq0 a1 a2 hc1) (ca_RX8_70 F.2.2.2.2 ⟨Nat.le_of_ble_eq_true rfl, Nat.le_of_ble_eq_true rfl⟩) rfl (po_Voy hq0) rfl hl.1 rfl (Nat.le_of_ble_eq_true rfl) dX8_isThrough_3 ⟨Nat.le_of_ble_eq_true rfl, Nat.le_of_ble_eq_true rfl⟩) (fun H locs hB => ?_)
  refine lv_aload_n F.1 F.2.1 dX8_isThrough_6 rfl (lv_at hl 0 rfl) ?_
  refine gf_RX8_27 F hE hB (po_Voy hq0) rfl dX8_isThrough_7 ?_
  refine lv_icmp_ne (tgt := 17) F.1 F.2.1 dX8_isThrough_10 (by decide) (fun c3 => ?_) (fun c3 => ?_)
  · replace h := ie_e c3 h
    refine lv_iconst (v := 0) F.1 F.2.1 dX8_isThrough_17 (by decide) ?_
    exact q_zret F hlocks hr rfl hB (Option.some.inj h) rfl dX8_isThrough_18
  · replace h := it_e c3 h
    refine lv_iconst (v := 1) F.1 F.2.1 dX8_isThrough_13 (by decide) ?_
    refine lv_goto (tgt := 18) F.1 F.2.1 dX8_isThrough_14 (by decide) ?_
    exact q_zret F hlocks hr rfl hB (Option.some.inj h) rfl dX8_isThrough_18
def f_X8_throughBits_b27 (σ0 : Mem) (k4 : Nat → Int32 → Int32 → Int32 → Option (Int32)) (r0 : Nat) (x1 : Int32) (x2 : Int32) (x3 : Int32) : Option (Int32) := (k4 r0 x1 x2 (x3 + (1 : Int32)))
def f_X8_throughBits_b4 (σ0 : Mem) : Nat → Nat → Int32 → Int32 → Int32 → Option (Int32)
  | 0, _, _, _, _ => none
  | n4 + 1, r0, x1, x2, x3 => (if (σ0.1 r0 6) ≤ x3 then (some x2) else (bp (f_X8_isThrough σ0 r0 x1 x3) (fun v3 => (if v3 = (0 : Int32) then (f_X8_throughBits_b27 σ0 (f_X8_throughBits_b4 σ0 n4) r0 x1 x2 x3) else (f_X8_throughBits_b27 σ0 (f_X8_throughBits_b4 σ0 n4) r0 x1 (x2 ||| ((1 : Int32) <<< (x3 &&& 31))) x3)))))
def f_X8_throughBits (σ0 : Mem) (q0 : Nat) (a1 : Int32) : Option (Int32) := (f_X8_throughBits_b4 σ0 300 q0 a1 (0 : Int32) (0 : Int32))
set_option maxHeartbeats 4000000 in
set_option maxRecDepth 100000 in
theorem k_X8_throughBits {l : Launch} {D : va_G} {cy : Nat → ClassId} {ad : Nat → Nat} {ta tb : Nat} (hI : AdI ad) (σ0 : Mem) (q0 : Nat) (hq0 : isVoy q0) (a1 : Int32) {o : Int32} (h : f_X8_throughBits σ0 q0 a1 = some o) : Met l yX8_throughBits (Cond.code yX8_throughBits cX8_throughBits 4 (some .int) :: wG) rm_X8_throughBits (CP D cy ad ta tb σ0 [.ref (ad q0), .int a1]) (CQi D cy ad o σ0) 0 0 (AA ad) := by
  refine Met.ofW (cc := cX8_throughBits) (maxL := 4) (ret := (some .int)) (by decide) rfl ?_
  intro p e s m args below meth c s₁ B hml hv
  obtain ⟨rfl, hE, hP⟩ := hv
  have hts := atoms_spec (ws := Cond.code yX8_throughBits cX8_throughBits 4 (some .int) :: wG) B.pre
  have F : CallFix p m c cX8_throughBits 4 s _ wG RX8 := ⟨B.exec, B.bytes, hml, findClass_of_methodNamed B.named, fun w hw => hts w (List.mem_cons_of_mem _ hw)⟩
  have hr := B.returns
  have hlocks := B.notSynchronized
  have hB : Bd D cy ad σ0 s.heap s.heap [] := ⟨hP, va_S.rf⟩
  have hl := lv_entry ([.ref (ad q0), .int a1] : List Value) (n := 4) (Nat.le_of_ble_eq_true rfl)
  rw [lg_entry_eq]
  generalize (lg_sl ([.ref (ad q0), .int a1] : List Value) ++ List.replicate (4 - (lg_sl ([.ref (ad q0), .int a1] : List Value)).length) Slot.unset).toArray = ls at hl ⊢
  have hl : lv_has ls 4 [(0, .ref (ad q0)), (1, .int a1)] := hl
  have B4 : ∀ (n4 : Nat) (H : Heap) (locs : List Loc) (ls : Array Slot) (r0 : Nat) (x1 : Int32) (x2 : Int32) (x3 : Int32) (hr0 : isVoy r0), f_X8_throughBits_b4 σ0 n4 r0 x1 x2 x3 = some o → Bd D cy ad σ0 s.heap H locs → lv_has ls 4 [(0, .ref (ad r0)), (1, .int x1), (2, .int x2), (3, .int x3)] → W p l e rm_X8_throughBits s m ([.ref (ad q0), .int a1] : List Value).toArray below meth c H locs 0 0 (MQ below (CQi D cy ad o σ0) ([.ref (ad q0), .int a1] : List Value).toArray s 0 0 (AA ad)) (F0 m 4 ls []) := by
    intro n4
    induction n4 with
    | zero => intro H locs ls r0 x1 x2 x3 hr0 h hB hl; cases h
    | succ n4 ih4 =>
      have B27 : ∀ (H : Heap) (locs : List Loc) (ls : Array Slot) (r0 : Nat) (x1 : Int32) (x2 : Int32) (x3 : Int32) (hr0 : isVoy r0), f_X8_throughBits_b27 σ0 (f_X8_throughBits_b4 σ0 n4) r0 x1 x2 x3 = some o → Bd D cy ad σ0 s.heap H locs → lv_has ls 4 [(0, .ref (ad r0)), (1, .int x1), (2, .int x2), (3, .int x3)] → W p l e rm_X8_throughBits s m ([.ref (ad q0), .int a1] : List Value).toArray below meth c H locs 0 0 (MQ below (CQi D cy ad o σ0) ([.ref (ad q0), .int a1] : List Value).toArray s 0 0 (AA ad)) (F0 m 27 ls []) := by
        intro H locs ls r0 x1 x2 x3 hr0 h hB hl
        unfold f_X8_throughBits_b27 at h
        refine lv_iinc (v := (x3 + (1 : Int32))) (lv' := [(3, .int (x3 + (1 : Int32))), (0, .ref (ad r0)), (1, .int x1), (2, .int x2)]) F.1 F.2.1 dX8_throughBits_27 hl (k := 3) rfl rfl (by decide) rfl (fun ls hl => ?_)
        refine lv_goto (tgt := 4) F.1 F.2.1 dX8_throughBits_30 (by decide) ?_
        exact ih4 _ _ _ r0 x1 x2 (x3 + (1 : Int32)) hr0 h hB (lv_sub hl [1, 2, 3, 0] rfl)
      intro H locs ls r0 x1 x2 x3 hr0 h hB hl
      rw [f_X8_throughBits_b4] at h
      refine lv_iload_n F.1 F.2.1 dX8_throughBits_4 rfl (lv_at hl 3 rfl) ?_
      refine lv_aload_n F.1 F.2.1 dX8_throughBits_5 rfl (lv_at hl 0 rfl) ?_
      refine gf_RX8_31 F hE hB (po_Voy hr0) rfl dX8_throughBits_6 ?_
      refine lv_icmp_ge (tgt := 33) F.1 F.2.1 dX8_throughBits_9 (by decide) (fun c1 => ?_) (fun c1 => ?_)
      · replace h := it_e c1 h
        refine lv_iload_n F.1 F.2.1 dX8_throughBits_33 rfl (lv_at hl 2 rfl) ?_
        exact q_iret F hlocks hr hB (Option.some.inj h) rfl dX8_throughBits_34
      · replace h := ie_e c1 h
        refine lv_aload_n F.1 F.2.1 dX8_throughBits_12 rfl (lv_at hl 0 rfl) ?_
        refine lv_iload_n F.1 F.2.1 dX8_throughBits_13 rfl (lv_at hl 1 rfl) ?_
        refine lv_iload_n F.1 F.2.1 dX8_throughBits_14 rfl (lv_at hl 3 rfl) ?_
        obtain ⟨v3, hc2, h⟩ := bp_e h
        refine q_ci hB (q_goV F hE hB (k_X8_isThrough hI σ0 r0 hr0 x1 x3 hc2) (ca_RX8_73 F.2.2.2.2 ⟨Nat.le_of_ble_eq_true rfl, Nat.le_of_ble_eq_true rfl⟩) rfl (po_Voy hr0) rfl hl.1 rfl (Nat.le_of_ble_eq_true rfl) dX8_throughBits_15 ⟨Nat.le_of_ble_eq_true rfl, Nat.le_of_ble_eq_true rfl⟩) (fun H locs hB => ?_)
        refine lv_if_eq (tgt := 27) F.1 F.2.1 dX8_throughBits_18 (by decide) (fun c4 => ?_) (fun c4 => ?_)
        · replace h := it_e c4 h
          exact B27 _ _ _ r0 x1 x2 x3 hr0 h hB (lv_sub hl [0, 1, 2, 3] rfl)
        · replace h := ie_e c4 h
          refine lv_iload_n F.1 F.2.1 dX8_throughBits_21 rfl (lv_at hl 2 rfl) ?_
          refine lv_iconst (v := 1) F.1 F.2.1 dX8_throughBits_22 (by decide) ?_
          refine lv_iload_n F.1 F.2.1 dX8_throughBits_23 rfl (lv_at hl 3 rfl) ?_
          refine lv_ishl F.1 F.2.1 dX8_throughBits_24 ?_
          refine lv_ior F.1 F.2.1 dX8_throughBits_25 ?_
          refine lv_istore_n (lv' := [(2, .int (x2 ||| ((1 : Int32) <<< (x3 &&& 31)))), (0, .ref (ad r0)), (1, .int x1), (3, .int x3)]) F.1 F.2.1 dX8_throughBits_26 rfl hl (by decide) rfl (fun ls hl => ?_)
          exact B27 _ _ _ r0 x1 (x2 ||| ((1 : Int32) <<< (x3 &&& 31))) x3 hr0 h hB (lv_sub hl [1, 2, 0, 3] rfl)
  unfold f_X8_throughBits at h
  refine lv_iconst (v := 0) F.1 F.2.1 dX8_throughBits_0 (by decide) ?_
  refine lv_istore_n (lv' := [(2, .int (0 : Int32)), (0, .ref (ad q0)), (1, .int a1)]) F.1 F.2.1 dX8_throughBits_1 rfl hl (by decide) rfl (fun ls hl => ?_)
  refine lv_iconst (v := 0) F.1 F.2.1 dX8_throughBits_2 (by decide) ?_
  refine lv_istore_n (lv' := [(3, .int (0 : Int32)), (2, .int (0 : Int32)), (0, .ref (ad q0)), (1, .int a1)]) F.1 F.2.1 dX8_throughBits_3 rfl hl (by decide) rfl (fun ls hl => ?_)
  exact B4 300 _ _ _ q0 a1 (0 : Int32) (0 : Int32) hq0 h hB (lv_sub hl [2, 3, 1, 0] rfl)
def f_X8_throughCount (σ0 : Mem) (q0 : Nat) : Option (Int32) := (bp (f_X8_throughBits σ0 q0 (99 : Int32)) (fun v2 => (bp (f_J6_bitCount_0f7a4 σ0 v2) (fun v4 => (some v4)))))
set_option maxHeartbeats 4000000 in
set_option maxRecDepth 100000 in
theorem k_X8_throughCount {l : Launch} {D : va_G} {cy : Nat → ClassId} {ad : Nat → Nat} {ta tb : Nat} (hI : AdI ad) (σ0 : Mem) (q0 : Nat) (hq0 : isVoy q0) {o : Int32} (h : f_X8_throughCount σ0 q0 = some o) : Met l yX8_throughCount (Cond.code yX8_throughCount cX8_throughCount 1 (some .int) :: wG) rm_X8_throughCount (CP D cy ad ta tb σ0 [.ref (ad q0)]) (CQi D cy ad o σ0) 0 0 (AA ad) := by
  refine Met.ofW (cc := cX8_throughCount) (maxL := 1) (ret := (some .int)) (by decide) rfl ?_
  intro p e s m args below meth c s₁ B hml hv
  obtain ⟨rfl, hE, hP⟩ := hv
  have hts := atoms_spec (ws := Cond.code yX8_throughCount cX8_throughCount 1 (some .int) :: wG) B.pre
  have F : CallFix p m c cX8_throughCount 1 s _ wG RX8 := ⟨B.exec, B.bytes, hml, findClass_of_methodNamed B.named, fun w hw => hts w (List.mem_cons_of_mem _ hw)⟩
  have hr := B.returns
  have hlocks := B.notSynchronized
  have hB : Bd D cy ad σ0 s.heap s.heap [] := ⟨hP, va_S.rf⟩
  have hl := lv_entry ([.ref (ad q0)] : List Value) (n := 1) (Nat.le_of_ble_eq_true rfl)
  rw [lg_entry_eq]
  generalize (lg_sl ([.ref (ad q0)] : List Value) ++ List.replicate (1 - (lg_sl ([.ref (ad q0)] : List Value)).length) Slot.unset).toArray = ls at hl ⊢
  have hl : lv_has ls 1 [(0, .ref (ad q0))] := hl
  unfold f_X8_throughCount at h
  refine lv_aload_n F.1 F.2.1 dX8_throughCount_0 rfl (lv_at hl 0 rfl) ?_
  refine lv_bipush (v := 99) F.1 F.2.1 dX8_throughCount_1 (by decide) ?_
  obtain ⟨v2, hc1, h⟩ := bp_e h
  refine q_ci hB (q_goV F hE hB (k_X8_throughBits hI σ0 q0 hq0 (99 : Int32) hc1) (ca_RX8_76 F.2.2.2.2 ⟨Nat.le_of_ble_eq_true rfl, Nat.le_of_ble_eq_true rfl⟩) rfl (po_Voy hq0) rfl hl.1 rfl (Nat.le_of_ble_eq_true rfl) dX8_throughCount_3 ⟨Nat.le_of_ble_eq_true rfl, Nat.le_of_ble_eq_true rfl⟩) (fun H locs hB => ?_)
  obtain ⟨v4, hc3, h⟩ := bp_e h
  refine q_ci hB (q_goS F hE hB (k_J6_bitCount_0f7a4 hI σ0 v2 hc3) (ca_RX8_79 F.2.2.2.2 ⟨Nat.le_of_ble_eq_true rfl, Nat.le_of_ble_eq_true rfl⟩) rfl hl.1 rfl (Nat.le_of_ble_eq_true rfl) dX8_throughCount_6 ⟨Nat.le_of_ble_eq_true rfl, Nat.le_of_ble_eq_true rfl⟩) (fun H locs hB => ?_)
  exact q_iret F hlocks hr hB (Option.some.inj h) rfl dX8_throughCount_9
def f_X8_throughStep (σ0 : Mem) (q0 : Nat) (a1 : Int32) : Option (Int32) := (if (σ0.1 q0 5) = (0 : Int32) then (ck a1 8 (some (σ0.1 (q0 + 2) a1.toNatClampNeg))) else (bp (f_X8_passStep σ0 q0 ((σ0.1 q0 5) - (1 : Int32)) a1) (fun v3 => (some v3))))
set_option maxHeartbeats 4000000 in
set_option maxRecDepth 100000 in
theorem k_X8_throughStep {l : Launch} {D : va_G} {cy : Nat → ClassId} {ad : Nat → Nat} {ta tb : Nat} (hI : AdI ad) (σ0 : Mem) (q0 : Nat) (hq0 : isVoy q0) (a1 : Int32) {o : Int32} (h : f_X8_throughStep σ0 q0 a1 = some o) : Met l yX8_throughStep (Cond.code yX8_throughStep cX8_throughStep 2 (some .int) :: wG) rm_X8_throughStep (CP D cy ad ta tb σ0 [.ref (ad q0), .int a1]) (CQi D cy ad o σ0) 0 0 (AA ad) := by
  refine Met.ofW (cc := cX8_throughStep) (maxL := 2) (ret := (some .int)) (by decide) rfl ?_
  intro p e s m args below meth c s₁ B hml hv
  obtain ⟨rfl, hE, hP⟩ := hv
  have hts := atoms_spec (ws := Cond.code yX8_throughStep cX8_throughStep 2 (some .int) :: wG) B.pre
  have F : CallFix p m c cX8_throughStep 2 s _ wG RX8 := ⟨B.exec, B.bytes, hml, findClass_of_methodNamed B.named, fun w hw => hts w (List.mem_cons_of_mem _ hw)⟩
  have hr := B.returns
  have hlocks := B.notSynchronized
  have hB : Bd D cy ad σ0 s.heap s.heap [] := ⟨hP, va_S.rf⟩
  have hl := lv_entry ([.ref (ad q0), .int a1] : List Value) (n := 2) (Nat.le_of_ble_eq_true rfl)
  rw [lg_entry_eq]
  generalize (lg_sl ([.ref (ad q0), .int a1] : List Value) ++ List.replicate (2 - (lg_sl ([.ref (ad q0), .int a1] : List Value)).length) Slot.unset).toArray = ls at hl ⊢
  have hl : lv_has ls 2 [(0, .ref (ad q0)), (1, .int a1)] := hl
  unfold f_X8_throughStep at h
  refine lv_aload_n F.1 F.2.1 dX8_throughStep_0 rfl (lv_at hl 0 rfl) ?_
  refine gf_RX8_27 F hE hB (po_Voy hq0) rfl dX8_throughStep_1 ?_
  refine lv_if_ne (tgt := 16) F.1 F.2.1 dX8_throughStep_4 (by decide) (fun c1 => ?_) (fun c1 => ?_)
  · replace h := ie_e c1 h
    refine lv_aload_n F.1 F.2.1 dX8_throughStep_16 rfl (lv_at hl 0 rfl) ?_
    refine lv_aload_n F.1 F.2.1 dX8_throughStep_17 rfl (lv_at hl 0 rfl) ?_
    refine gf_RX8_27 F hE hB (po_Voy hq0) rfl dX8_throughStep_18 ?_
    refine lv_iconst (v := 1) F.1 F.2.1 dX8_throughStep_21 (by decide) ?_
    refine lv_isub F.1 F.2.1 dX8_throughStep_22 ?_
    refine lv_iload_n F.1 F.2.1 dX8_throughStep_23 rfl (lv_at hl 1 rfl) ?_
    obtain ⟨v3, hc2, h⟩ := bp_e h
    refine q_ci hB (q_goV F hE hB (k_X8_passStep hI σ0 q0 hq0 ((σ0.1 q0 5) - (1 : Int32)) a1 hc2) (ca_RX8_66 F.2.2.2.2 ⟨Nat.le_of_ble_eq_true rfl, Nat.le_of_ble_eq_true rfl⟩) rfl (po_Voy hq0) rfl hl.1 rfl (Nat.le_of_ble_eq_true rfl) dX8_throughStep_24 ⟨Nat.le_of_ble_eq_true rfl, Nat.le_of_ble_eq_true rfl⟩) (fun H locs hB => ?_)
    exact q_iret F hlocks hr hB (Option.some.inj h) rfl dX8_throughStep_27
  · replace h := it_e c1 h
    refine lv_aload_n F.1 F.2.1 dX8_throughStep_7 rfl (lv_at hl 0 rfl) ?_
    refine gf_RX8_15 F hE hB (po_Voy hq0) rfl dX8_throughStep_8 ?_
    refine lv_iload_n F.1 F.2.1 dX8_throughStep_11 rfl (lv_at hl 1 rfl) ?_
    obtain ⟨hi4, h⟩ := ck_e h
    refine q_iald F hE hB (po_row (row_Voy_2 hq0)) hi4 dX8_throughStep_12 ?_
    refine lv_goto (tgt := 27) F.1 F.2.1 dX8_throughStep_13 (by decide) ?_
    exact q_iret F hlocks hr hB (Option.some.inj h) rfl dX8_throughStep_27
def f_X8_waitOf (σ0 : Mem) (q0 : Nat) (a1 : Int32) : Option (Int32) := (if (σ0.1 q0 5) = (0 : Int32) then (some (0 : Int32)) else (bp (f_X8_throughStep σ0 q0 a1) (fun v3 => (ck a1 8 (bp (f_X8_placeOf σ0 q0 (99 : Int32) a1) (fun v6 => (some (((if (100 : Int32) < (v3 + (1 : Int32)) then (100 : Int32) else (v3 + (1 : Int32))) - (σ0.1 (q0 + 2) a1.toNatClampNeg)) - v6))))))))
set_option maxHeartbeats 4000000 in
set_option maxRecDepth 100000 in
theorem k_X8_waitOf {l : Launch} {D : va_G} {cy : Nat → ClassId} {ad : Nat → Nat} {ta tb : Nat} (hI : AdI ad) (σ0 : Mem) (q0 : Nat) (hq0 : isVoy q0) (a1 : Int32) {o : Int32} (h : f_X8_waitOf σ0 q0 a1 = some o) : Met l yX8_waitOf (Cond.code yX8_waitOf cX8_waitOf 3 (some .int) :: wG) rm_X8_waitOf (CP D cy ad ta tb σ0 [.ref (ad q0), .int a1]) (CQi D cy ad o σ0) 0 0 (AA ad) := by
  refine Met.ofW (cc := cX8_waitOf) (maxL := 3) (ret := (some .int)) (by decide) rfl ?_
  intro p e s m args below meth c s₁ B hml hv
  obtain ⟨rfl, hE, hP⟩ := hv
  have hts := atoms_spec (ws := Cond.code yX8_waitOf cX8_waitOf 3 (some .int) :: wG) B.pre
  have F : CallFix p m c cX8_waitOf 3 s _ wG RX8 := ⟨B.exec, B.bytes, hml, findClass_of_methodNamed B.named, fun w hw => hts w (List.mem_cons_of_mem _ hw)⟩
  have hr := B.returns
  have hlocks := B.notSynchronized
  have hB : Bd D cy ad σ0 s.heap s.heap [] := ⟨hP, va_S.rf⟩
  have hl := lv_entry ([.ref (ad q0), .int a1] : List Value) (n := 3) (Nat.le_of_ble_eq_true rfl)
  rw [lg_entry_eq]
  generalize (lg_sl ([.ref (ad q0), .int a1] : List Value) ++ List.replicate (3 - (lg_sl ([.ref (ad q0), .int a1] : List Value)).length) Slot.unset).toArray = ls at hl ⊢
  have hl : lv_has ls 3 [(0, .ref (ad q0)), (1, .int a1)] := hl
  unfold f_X8_waitOf at h
  refine lv_aload_n F.1 F.2.1 dX8_waitOf_0 rfl (lv_at hl 0 rfl) ?_
  refine gf_RX8_27 F hE hB (po_Voy hq0) rfl dX8_waitOf_1 ?_
  refine lv_if_ne (tgt := 9) F.1 F.2.1 dX8_waitOf_4 (by decide) (fun c1 => ?_) (fun c1 => ?_)
  · replace h := ie_e c1 h
    refine lv_aload_n F.1 F.2.1 dX8_waitOf_9 rfl (lv_at hl 0 rfl) ?_
    refine lv_iload_n F.1 F.2.1 dX8_waitOf_10 rfl (lv_at hl 1 rfl) ?_
    obtain ⟨v3, hc2, h⟩ := bp_e h
    refine q_ci hB (q_goV F hE hB (k_X8_throughStep hI σ0 q0 hq0 a1 hc2) (ca_RX8_84 F.2.2.2.2 ⟨Nat.le_of_ble_eq_true rfl, Nat.le_of_ble_eq_true rfl⟩) rfl (po_Voy hq0) rfl hl.1 rfl (Nat.le_of_ble_eq_true rfl) dX8_waitOf_11 ⟨Nat.le_of_ble_eq_true rfl, Nat.le_of_ble_eq_true rfl⟩) (fun H locs hB => ?_)
    refine lv_iconst (v := 1) F.1 F.2.1 dX8_waitOf_14 (by decide) ?_
    refine lv_iadd F.1 F.2.1 dX8_waitOf_15 ?_
    refine lv_bipush (v := 100) F.1 F.2.1 dX8_waitOf_16 (by decide) ?_
    refine va_mmin F.1 F.2.1 (by rw [F.2.2.1, hl.1]) F.2.2.2.1 (F.2.2.2.2 _ wm_l_RX8_87) (F.2.2.2.2 _ wm_min_s) (F.2.2.2.2 _ wm_math_i) (F.2.2.2.2 _ wm_min_c) (Nat.le_of_ble_eq_true rfl) (Nat.le_of_ble_eq_true rfl) (Nat.zero_le _) (Nat.zero_le _) dX8_waitOf_18 ?_
    refine lv_istore_n (lv' := [(2, .int (if (100 : Int32) < (v3 + (1 : Int32)) then (100 : Int32) else (v3 + (1 : Int32)))), (0, .ref (ad q0)), (1, .int a1)]) F.1 F.2.1 dX8_waitOf_21 rfl hl (by decide) rfl (fun ls hl => ?_)
    refine lv_iload_n F.1 F.2.1 dX8_waitOf_22 rfl (lv_at hl 0 rfl) ?_
    refine lv_aload_n F.1 F.2.1 dX8_waitOf_23 rfl (lv_at hl 1 rfl) ?_
    refine gf_RX8_15 F hE hB (po_Voy hq0) rfl dX8_waitOf_24 ?_
    refine lv_iload_n F.1 F.2.1 dX8_waitOf_27 rfl (lv_at hl 2 rfl) ?_
    obtain ⟨hi4, h⟩ := ck_e h
    refine q_iald F hE hB (po_row (row_Voy_2 hq0)) hi4 dX8_waitOf_28 ?_
    refine lv_isub F.1 F.2.1 dX8_waitOf_29 ?_
    refine lv_aload_n F.1 F.2.1 dX8_waitOf_30 rfl (lv_at hl 1 rfl) ?_
    refine lv_bipush (v := 99) F.1 F.2.1 dX8_waitOf_31 (by decide) ?_
    refine lv_iload_n F.1 F.2.1 dX8_waitOf_33 rfl (lv_at hl 2 rfl) ?_
    obtain ⟨v6, hc5, h⟩ := bp_e h
    refine q_ci hB (q_goV F hE hB (k_X8_placeOf hI σ0 q0 hq0 (99 : Int32) a1 hc5) (ca_RX8_70 F.2.2.2.2 ⟨Nat.le_of_ble_eq_true rfl, Nat.le_of_ble_eq_true rfl⟩) rfl (po_Voy hq0) rfl hl.1 rfl (Nat.le_of_ble_eq_true rfl) dX8_waitOf_34 ⟨Nat.le_of_ble_eq_true rfl, Nat.le_of_ble_eq_true rfl⟩) (fun H locs hB => ?_)
    refine lv_isub F.1 F.2.1 dX8_waitOf_37 ?_
    exact q_iret F hlocks hr hB (Option.some.inj h) rfl dX8_waitOf_38
  · replace h := it_e c1 h
    refine lv_iconst (v := 0) F.1 F.2.1 dX8_waitOf_7 (by decide) ?_
    exact q_iret F hlocks hr hB (Option.some.inj h) rfl dX8_waitOf_8
def f_X8_allWait_b4 (σ0 : Mem) : Nat → Nat → Int32 → Int32 → Option (Int32)
  | 0, _, _, _ => none
  | n4 + 1, r0, x1, x2 => (if (σ0.1 r0 6) ≤ x2 then (some x1) else (bp (f_X8_waitOf σ0 r0 x2) (fun v3 => (f_X8_allWait_b4 σ0 n4 r0 (x1 + v3) (x2 + (1 : Int32))))))
def f_X8_allWait (σ0 : Mem) (q0 : Nat) : Option (Int32) := (f_X8_allWait_b4 σ0 300 q0 (0 : Int32) (0 : Int32))
set_option maxHeartbeats 4000000 in
set_option maxRecDepth 100000 in
theorem k_X8_allWait {l : Launch} {D : va_G} {cy : Nat → ClassId} {ad : Nat → Nat} {ta tb : Nat} (hI : AdI ad) (σ0 : Mem) (q0 : Nat) (hq0 : isVoy q0) {o : Int32} (h : f_X8_allWait σ0 q0 = some o) : Met l yX8_allWait (Cond.code yX8_allWait cX8_allWait 3 (some .int) :: wG) rm_X8_allWait (CP D cy ad ta tb σ0 [.ref (ad q0)]) (CQi D cy ad o σ0) 0 0 (AA ad) := by
  refine Met.ofW (cc := cX8_allWait) (maxL := 3) (ret := (some .int)) (by decide) rfl ?_
  intro p e s m args below meth c s₁ B hml hv
  obtain ⟨rfl, hE, hP⟩ := hv
  have hts := atoms_spec (ws := Cond.code yX8_allWait cX8_allWait 3 (some .int) :: wG) B.pre
  have F : CallFix p m c cX8_allWait 3 s _ wG RX8 := ⟨B.exec, B.bytes, hml, findClass_of_methodNamed B.named, fun w hw => hts w (List.mem_cons_of_mem _ hw)⟩
  have hr := B.returns
  have hlocks := B.notSynchronized
  have hB : Bd D cy ad σ0 s.heap s.heap [] := ⟨hP, va_S.rf⟩
  have hl := lv_entry ([.ref (ad q0)] : List Value) (n := 3) (Nat.le_of_ble_eq_true rfl)
  rw [lg_entry_eq]
  generalize (lg_sl ([.ref (ad q0)] : List Value) ++ List.replicate (3 - (lg_sl ([.ref (ad q0)] : List Value)).length) Slot.unset).toArray = ls at hl ⊢
  have hl : lv_has ls 3 [(0, .ref (ad q0))] := hl
  have B4 : ∀ (n4 : Nat) (H : Heap) (locs : List Loc) (ls : Array Slot) (r0 : Nat) (x1 : Int32) (x2 : Int32) (hr0 : isVoy r0), f_X8_allWait_b4 σ0 n4 r0 x1 x2 = some o → Bd D cy ad σ0 s.heap H locs → lv_has ls 3 [(0, .ref (ad r0)), (1, .int x1), (2, .int x2)] → W p l e rm_X8_allWait s m ([.ref (ad q0)] : List Value).toArray below meth c H locs 0 0 (MQ below (CQi D cy ad o σ0) ([.ref (ad q0)] : List Value).toArray s 0 0 (AA ad)) (F0 m 4 ls []) := by
    intro n4
    induction n4 with
    | zero => intro H locs ls r0 x1 x2 hr0 h hB hl; cases h
    | succ n4 ih4 =>
      intro H locs ls r0 x1 x2 hr0 h hB hl
      rw [f_X8_allWait_b4] at h
      refine lv_iload_n F.1 F.2.1 dX8_allWait_4 rfl (lv_at hl 2 rfl) ?_
      refine lv_aload_n F.1 F.2.1 dX8_allWait_5 rfl (lv_at hl 0 rfl) ?_
      refine gf_RX8_31 F hE hB (po_Voy hr0) rfl dX8_allWait_6 ?_
      refine lv_icmp_ge (tgt := 26) F.1 F.2.1 dX8_allWait_9 (by decide) (fun c1 => ?_) (fun c1 => ?_)
      · replace h := it_e c1 h
        refine lv_iload_n F.1 F.2.1 dX8_allWait_26 rfl (lv_at hl 1 rfl) ?_
        exact q_iret F hlocks hr hB (Option.some.inj h) rfl dX8_allWait_27
      · replace h := ie_e c1 h
        refine lv_iload_n F.1 F.2.1 dX8_allWait_12 rfl (lv_at hl 1 rfl) ?_
        refine lv_aload_n F.1 F.2.1 dX8_allWait_13 rfl (lv_at hl 0 rfl) ?_
        refine lv_iload_n F.1 F.2.1 dX8_allWait_14 rfl (lv_at hl 2 rfl) ?_
        obtain ⟨v3, hc2, h⟩ := bp_e h
        refine q_ci hB (q_goV F hE hB (k_X8_waitOf hI σ0 r0 hr0 x2 hc2) (ca_RX8_92 F.2.2.2.2 ⟨Nat.le_of_ble_eq_true rfl, Nat.le_of_ble_eq_true rfl⟩) rfl (po_Voy hr0) rfl hl.1 rfl (Nat.le_of_ble_eq_true rfl) dX8_allWait_15 ⟨Nat.le_of_ble_eq_true rfl, Nat.le_of_ble_eq_true rfl⟩) (fun H locs hB => ?_)
        refine lv_iadd F.1 F.2.1 dX8_allWait_18 ?_
        refine lv_istore_n (lv' := [(1, .int (x1 + v3)), (0, .ref (ad r0)), (2, .int x2)]) F.1 F.2.1 dX8_allWait_19 rfl hl (by decide) rfl (fun ls hl => ?_)
        refine lv_iinc (v := (x2 + (1 : Int32))) (lv' := [(2, .int (x2 + (1 : Int32))), (1, .int (x1 + v3)), (0, .ref (ad r0))]) F.1 F.2.1 dX8_allWait_20 hl (k := 2) rfl rfl (by decide) rfl (fun ls hl => ?_)
        refine lv_goto (tgt := 4) F.1 F.2.1 dX8_allWait_23 (by decide) ?_
        exact ih4 _ _ _ r0 (x1 + v3) (x2 + (1 : Int32)) hr0 h hB (lv_sub hl [2, 1, 0] rfl)
  unfold f_X8_allWait at h
  refine lv_iconst (v := 0) F.1 F.2.1 dX8_allWait_0 (by decide) ?_
  refine lv_istore_n (lv' := [(1, .int (0 : Int32)), (0, .ref (ad q0))]) F.1 F.2.1 dX8_allWait_1 rfl hl (by decide) rfl (fun ls hl => ?_)
  refine lv_iconst (v := 0) F.1 F.2.1 dX8_allWait_2 (by decide) ?_
  refine lv_istore_n (lv' := [(2, .int (0 : Int32)), (1, .int (0 : Int32)), (0, .ref (ad q0))]) F.1 F.2.1 dX8_allWait_3 rfl hl (by decide) rfl (fun ls hl => ?_)
  exact B4 300 _ _ _ q0 (0 : Int32) (0 : Int32) hq0 h hB (lv_sub hl [2, 1, 0] rfl)
def f_X8_firstWaitOf_b2 (σ0 : Mem) : Nat → Nat → Int32 → Int32 → Option (Int32)
  | 0, _, _, _ => none
  | n2 + 1, r0, x1, x2 => (if (σ0.1 r0 5) ≤ x2 then (some (100 : Int32)) else (bp (f_X8_passStep σ0 r0 x2 x1) (fun v3 => (ck x1 8 (if v3 = ((σ0.1 (r0 + 2) x1.toNatClampNeg) + x2) then (f_X8_firstWaitOf_b2 σ0 n2 r0 x1 (x2 + (1 : Int32))) else (ck x1 8 (some ((σ0.1 (r0 + 2) x1.toNatClampNeg) + x2))))))))
def f_X8_firstWaitOf (σ0 : Mem) (q0 : Nat) (a1 : Int32) : Option (Int32) := (f_X8_firstWaitOf_b2 σ0 300 q0 a1 (0 : Int32))
set_option maxHeartbeats 4000000 in
set_option maxRecDepth 100000 in
theorem k_X8_firstWaitOf {l : Launch} {D : va_G} {cy : Nat → ClassId} {ad : Nat → Nat} {ta tb : Nat} (hI : AdI ad) (σ0 : Mem) (q0 : Nat) (hq0 : isVoy q0) (a1 : Int32) {o : Int32} (h : f_X8_firstWaitOf σ0 q0 a1 = some o) : Met l yX8_firstWaitOf (Cond.code yX8_firstWaitOf cX8_firstWaitOf 3 (some .int) :: wG) rm_X8_firstWaitOf (CP D cy ad ta tb σ0 [.ref (ad q0), .int a1]) (CQi D cy ad o σ0) 0 0 (AA ad) := by
  refine Met.ofW (cc := cX8_firstWaitOf) (maxL := 3) (ret := (some .int)) (by decide) rfl ?_
  intro p e s m args below meth c s₁ B hml hv
  obtain ⟨rfl, hE, hP⟩ := hv
  have hts := atoms_spec (ws := Cond.code yX8_firstWaitOf cX8_firstWaitOf 3 (some .int) :: wG) B.pre
  have F : CallFix p m c cX8_firstWaitOf 3 s _ wG RX8 := ⟨B.exec, B.bytes, hml, findClass_of_methodNamed B.named, fun w hw => hts w (List.mem_cons_of_mem _ hw)⟩
  have hr := B.returns
  have hlocks := B.notSynchronized
  have hB : Bd D cy ad σ0 s.heap s.heap [] := ⟨hP, va_S.rf⟩
  have hl := lv_entry ([.ref (ad q0), .int a1] : List Value) (n := 3) (Nat.le_of_ble_eq_true rfl)
  rw [lg_entry_eq]
  generalize (lg_sl ([.ref (ad q0), .int a1] : List Value) ++ List.replicate (3 - (lg_sl ([.ref (ad q0), .int a1] : List Value)).length) Slot.unset).toArray = ls at hl ⊢
  have hl : lv_has ls 3 [(0, .ref (ad q0)), (1, .int a1)] := hl
  have B2 : ∀ (n2 : Nat) (H : Heap) (locs : List Loc) (ls : Array Slot) (r0 : Nat) (x1 : Int32) (x2 : Int32) (hr0 : isVoy r0), f_X8_firstWaitOf_b2 σ0 n2 r0 x1 x2 = some o → Bd D cy ad σ0 s.heap H locs → lv_has ls 3 [(0, .ref (ad r0)), (1, .int x1), (2, .int x2)] → W p l e rm_X8_firstWaitOf s m ([.ref (ad q0), .int a1] : List Value).toArray below meth c H locs 0 0 (MQ below (CQi D cy ad o σ0) ([.ref (ad q0), .int a1] : List Value).toArray s 0 0 (AA ad)) (F0 m 2 ls []) := by
    intro n2
    induction n2 with
    | zero => intro H locs ls r0 x1 x2 hr0 h hB hl; cases h
    | succ n2 ih2 =>
      intro H locs ls r0 x1 x2 hr0 h hB hl
      rw [f_X8_firstWaitOf_b2] at h
      refine lv_iload_n F.1 F.2.1 dX8_firstWaitOf_2 rfl (lv_at hl 2 rfl) ?_
      refine lv_aload_n F.1 F.2.1 dX8_firstWaitOf_3 rfl (lv_at hl 0 rfl) ?_
      refine gf_RX8_27 F hE hB (po_Voy hr0) rfl dX8_firstWaitOf_4 ?_
      refine lv_icmp_ge (tgt := 42) F.1 F.2.1 dX8_firstWaitOf_7 (by decide) (fun c1 => ?_) (fun c1 => ?_)
      · replace h := it_e c1 h
        refine lv_bipush (v := 100) F.1 F.2.1 dX8_firstWaitOf_42 (by decide) ?_
        exact q_iret F hlocks hr hB (Option.some.inj h) rfl dX8_firstWaitOf_44
      · replace h := ie_e c1 h
        refine lv_aload_n F.1 F.2.1 dX8_firstWaitOf_10 rfl (lv_at hl 0 rfl) ?_
        refine lv_iload_n F.1 F.2.1 dX8_firstWaitOf_11 rfl (lv_at hl 2 rfl) ?_
        refine lv_iload_n F.1 F.2.1 dX8_firstWaitOf_12 rfl (lv_at hl 1 rfl) ?_
        obtain ⟨v3, hc2, h⟩ := bp_e h
        refine q_ci hB (q_goV F hE hB (k_X8_passStep hI σ0 r0 hr0 x2 x1 hc2) (ca_RX8_66 F.2.2.2.2 ⟨Nat.le_of_ble_eq_true rfl, Nat.le_of_ble_eq_true rfl⟩) rfl (po_Voy hr0) rfl hl.1 rfl (Nat.le_of_ble_eq_true rfl) dX8_firstWaitOf_13 ⟨Nat.le_of_ble_eq_true rfl, Nat.le_of_ble_eq_true rfl⟩) (fun H locs hB => ?_)
        refine lv_aload_n F.1 F.2.1 dX8_firstWaitOf_16 rfl (lv_at hl 0 rfl) ?_
        refine gf_RX8_15 F hE hB (po_Voy hr0) rfl dX8_firstWaitOf_17 ?_
        refine lv_iload_n F.1 F.2.1 dX8_firstWaitOf_20 rfl (lv_at hl 1 rfl) ?_
        obtain ⟨hi4, h⟩ := ck_e h
        refine q_iald F hE hB (po_row (row_Voy_2 hr0)) hi4 dX8_firstWaitOf_21 ?_
        refine lv_iload_n F.1 F.2.1 dX8_firstWaitOf_22 rfl (lv_at hl 2 rfl) ?_
        refine lv_iadd F.1 F.2.1 dX8_firstWaitOf_23 ?_
        refine lv_icmp_eq (tgt := 36) F.1 F.2.1 dX8_firstWaitOf_24 (by decide) (fun c5 => ?_) (fun c5 => ?_)
        · replace h := it_e c5 h
          refine lv_iinc (v := (x2 + (1 : Int32))) (lv' := [(2, .int (x2 + (1 : Int32))), (0, .ref (ad r0)), (1, .int x1)]) F.1 F.2.1 dX8_firstWaitOf_36 hl (k := 2) rfl rfl (by decide) rfl (fun ls hl => ?_)
          refine lv_goto (tgt := 2) F.1 F.2.1 dX8_firstWaitOf_39 (by decide) ?_
          exact ih2 _ _ _ r0 x1 (x2 + (1 : Int32)) hr0 h hB (lv_sub hl [1, 2, 0] rfl)
        · replace h := ie_e c5 h
          refine lv_aload_n F.1 F.2.1 dX8_firstWaitOf_27 rfl (lv_at hl 0 rfl) ?_
          refine gf_RX8_15 F hE hB (po_Voy hr0) rfl dX8_firstWaitOf_28 ?_
          refine lv_iload_n F.1 F.2.1 dX8_firstWaitOf_31 rfl (lv_at hl 1 rfl) ?_
          obtain ⟨hi6, h⟩ := ck_e h
          refine q_iald F hE hB (po_row (row_Voy_2 hr0)) hi6 dX8_firstWaitOf_32 ?_
          refine lv_iload_n F.1 F.2.1 dX8_firstWaitOf_33 rfl (lv_at hl 2 rfl) ?_
          refine lv_iadd F.1 F.2.1 dX8_firstWaitOf_34 ?_
          exact q_iret F hlocks hr hB (Option.some.inj h) rfl dX8_firstWaitOf_35
  unfold f_X8_firstWaitOf at h
  refine lv_iconst (v := 0) F.1 F.2.1 dX8_firstWaitOf_0 (by decide) ?_
  refine lv_istore_n (lv' := [(2, .int (0 : Int32)), (0, .ref (ad q0)), (1, .int a1)]) F.1 F.2.1 dX8_firstWaitOf_1 rfl hl (by decide) rfl (fun ls hl => ?_)
  exact B2 300 _ _ _ q0 a1 (0 : Int32) hq0 h hB (lv_sub hl [1, 2, 0] rfl)
