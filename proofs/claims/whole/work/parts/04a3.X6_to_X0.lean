def f_X6_isFull (σ0 : Mem) : Option (Int32) := (if (σ0.1 33 3) < (8 : Int32) then (some (0 : Int32)) else (some (1 : Int32)))
set_option maxHeartbeats 4000000 in
set_option maxRecDepth 100000 in
theorem k_X6_isFull {l : Launch} {D : va_G} {cy : Nat → ClassId} {ad : Nat → Nat} {ta tb : Nat} (hI : AdI ad) (σ0 : Mem) {o : Int32} (h : f_X6_isFull σ0 = some o) : Met l yX6_isFull (Cond.code yX6_isFull cX6_isFull 1 (some .boolean) :: wG) rm_X6_isFull (CP D cy ad ta tb σ0 [.ref (ad 33)]) (CQi D cy ad o σ0) 0 0 (AA ad) := by
  refine Met.ofW (cc := cX6_isFull) (maxL := 1) (ret := (some .boolean)) (by decide) rfl ?_
  intro p e s m args below meth c s₁ B hml hv
  obtain ⟨rfl, hE, hP⟩ := hv
  have hts := atoms_spec (ws := Cond.code yX6_isFull cX6_isFull 1 (some .boolean) :: wG) B.pre
  have F : CallFix p m c cX6_isFull 1 s _ wG RX6 := ⟨B.exec, B.bytes, hml, findClass_of_methodNamed B.named, fun w hw => hts w (List.mem_cons_of_mem _ hw)⟩
  have hr := B.returns
  have hlocks := B.notSynchronized
  have hB : Bd D cy ad σ0 s.heap s.heap [] := ⟨hP, va_S.rf⟩
  have hl := lv_entry ([.ref (ad 33)] : List Value) (n := 1) (Nat.le_of_ble_eq_true rfl)
  rw [lg_entry_eq]
  generalize (lg_sl ([.ref (ad 33)] : List Value) ++ List.replicate (1 - (lg_sl ([.ref (ad 33)] : List Value)).length) Slot.unset).toArray = ls at hl ⊢
  have hl : lv_has ls 1 [(0, .ref (ad 33))] := hl
  unfold f_X6_isFull at h
  refine lv_aload_n F.1 F.2.1 dX6_isFull_0 rfl (lv_at hl 0 rfl) ?_
  refine gf_RX6_21 F hE hB po_33 rfl dX6_isFull_1 ?_
  refine lv_bipush (v := 8) F.1 F.2.1 dX6_isFull_4 (by decide) ?_
  refine lv_icmp_lt (tgt := 13) F.1 F.2.1 dX6_isFull_6 (by decide) (fun c1 => ?_) (fun c1 => ?_)
  · replace h := it_e c1 h
    refine lv_iconst (v := 0) F.1 F.2.1 dX6_isFull_13 (by decide) ?_
    exact q_zret F hlocks hr rfl hB (Option.some.inj h) rfl dX6_isFull_14
  · replace h := ie_e c1 h
    refine lv_iconst (v := 1) F.1 F.2.1 dX6_isFull_9 (by decide) ?_
    refine lv_goto (tgt := 14) F.1 F.2.1 dX6_isFull_10 (by decide) ?_
    exact q_zret F hlocks hr rfl hB (Option.some.inj h) rfl dX6_isFull_14
def f_X6_append (σ0 : Mem) (a1 : Int32) (a2 : Int32) (a3 : Int32) : Option (Mem) := (bp (f_X6_isFull σ0) (fun v2 => (if v2 = (0 : Int32) then (ck (σ0.1 33 3) 8 (lt (ms σ0 34 (σ0.1 33 3).toNatClampNeg a1) (fun σ5 => (ck (σ5.1 33 3) 8 (lt (ms σ5 35 (σ5.1 33 3).toNatClampNeg a2) (fun σ8 => (ck (σ8.1 33 3) 8 (lt (ms σ8 36 (σ8.1 33 3).toNatClampNeg a3) (fun σ11 => (lt (ms σ11 33 3 ((σ11.1 33 3) + (1 : Int32))) (fun σ13 => (some σ13)))))))))))) else (some σ0))))
set_option maxHeartbeats 4000000 in
set_option maxRecDepth 100000 in
theorem k_X6_append {l : Launch} {D : va_G} {cy : Nat → ClassId} {ad : Nat → Nat} {ta tb : Nat} (hI : AdI ad) (σ0 : Mem) (a1 : Int32) (a2 : Int32) (a3 : Int32) {o : Mem} (h : f_X6_append σ0 a1 a2 a3 = some o) : Met l yX6_append (Cond.code yX6_append cX6_append 4 none :: wG) rm_X6_append (CP D cy ad ta tb σ0 [.ref (ad 33), .int a1, .int a2, .int a3]) (CQv D cy ad o) 0 0 (AA ad) := by
  refine Met.ofW (cc := cX6_append) (maxL := 4) (ret := none) (by decide) rfl ?_
  intro p e s m args below meth c s₁ B hml hv
  obtain ⟨rfl, hE, hP⟩ := hv
  have hts := atoms_spec (ws := Cond.code yX6_append cX6_append 4 none :: wG) B.pre
  have F : CallFix p m c cX6_append 4 s _ wG RX6 := ⟨B.exec, B.bytes, hml, findClass_of_methodNamed B.named, fun w hw => hts w (List.mem_cons_of_mem _ hw)⟩
  have hr := B.returns
  have hlocks := B.notSynchronized
  have hB : Bd D cy ad σ0 s.heap s.heap [] := ⟨hP, va_S.rf⟩
  have hl := lv_entry ([.ref (ad 33), .int a1, .int a2, .int a3] : List Value) (n := 4) (Nat.le_of_ble_eq_true rfl)
  rw [lg_entry_eq]
  generalize (lg_sl ([.ref (ad 33), .int a1, .int a2, .int a3] : List Value) ++ List.replicate (4 - (lg_sl ([.ref (ad 33), .int a1, .int a2, .int a3] : List Value)).length) Slot.unset).toArray = ls at hl ⊢
  have hl : lv_has ls 4 [(0, .ref (ad 33)), (1, .int a1), (2, .int a2), (3, .int a3)] := hl
  unfold f_X6_append at h
  refine lv_aload_n F.1 F.2.1 dX6_append_0 rfl (lv_at hl 0 rfl) ?_
  obtain ⟨v2, hc1, h⟩ := bp_e h
  refine q_ci hB (q_goV F hE hB (k_X6_isFull hI σ0 hc1) (ca_RX6_25 F.2.2.2.2 ⟨Nat.le_of_ble_eq_true rfl, Nat.le_of_ble_eq_true rfl⟩) rfl po_33 rfl hl.1 rfl (Nat.le_of_ble_eq_true rfl) dX6_append_1 ⟨Nat.le_of_ble_eq_true rfl, Nat.le_of_ble_eq_true rfl⟩) (fun H locs hB => ?_)
  refine lv_if_ne (tgt := 47) F.1 F.2.1 dX6_append_4 (by decide) (fun c3 => ?_) (fun c3 => ?_)
  · replace h := ie_e c3 h
    exact q_vret F hlocks hr hB (Option.some.inj h) dX6_append_47
  · replace h := it_e c3 h
    refine lv_aload_n F.1 F.2.1 dX6_append_7 rfl (lv_at hl 0 rfl) ?_
    refine gf_RX6_9 F hE hB po_33 rfl dX6_append_8 ?_
    refine lv_aload_n F.1 F.2.1 dX6_append_11 rfl (lv_at hl 0 rfl) ?_
    refine gf_RX6_21 F hE hB po_33 rfl dX6_append_12 ?_
    refine lv_iload_n F.1 F.2.1 dX6_append_15 rfl (lv_at hl 1 rfl) ?_
    obtain ⟨hi4, h⟩ := ck_e h
    obtain ⟨σ5, e6, h⟩ := lt_e h
    refine q_iast F hE hI hB row_34 hi4 dX6_append_16 e6 (fun H locs hB => ?_)
    refine lv_aload_n F.1 F.2.1 dX6_append_17 rfl (lv_at hl 0 rfl) ?_
    refine gf_RX6_15 F hE hB po_33 rfl dX6_append_18 ?_
    refine lv_aload_n F.1 F.2.1 dX6_append_21 rfl (lv_at hl 0 rfl) ?_
    refine gf_RX6_21 F hE hB po_33 rfl dX6_append_22 ?_
    refine lv_iload_n F.1 F.2.1 dX6_append_25 rfl (lv_at hl 2 rfl) ?_
    obtain ⟨hi7, h⟩ := ck_e h
    obtain ⟨σ8, e9, h⟩ := lt_e h
    refine q_iast F hE hI hB row_35 hi7 dX6_append_26 e9 (fun H locs hB => ?_)
    refine lv_aload_n F.1 F.2.1 dX6_append_27 rfl (lv_at hl 0 rfl) ?_
    refine gf_RX6_18 F hE hB po_33 rfl dX6_append_28 ?_
    refine lv_aload_n F.1 F.2.1 dX6_append_31 rfl (lv_at hl 0 rfl) ?_
    refine gf_RX6_21 F hE hB po_33 rfl dX6_append_32 ?_
    refine lv_iload_n F.1 F.2.1 dX6_append_35 rfl (lv_at hl 3 rfl) ?_
    obtain ⟨hi10, h⟩ := ck_e h
    obtain ⟨σ11, e12, h⟩ := lt_e h
    refine q_iast F hE hI hB row_36 hi10 dX6_append_36 e12 (fun H locs hB => ?_)
    refine lv_aload_n F.1 F.2.1 dX6_append_37 rfl (lv_at hl 0 rfl) ?_
    refine lv_dup F.1 F.2.1 dX6_append_38 rfl ?_
    refine gf_RX6_21 F hE hB po_33 rfl dX6_append_39 ?_
    refine lv_iconst (v := 1) F.1 F.2.1 dX6_append_42 (by decide) ?_
    refine lv_iadd F.1 F.2.1 dX6_append_43 ?_
    obtain ⟨σ13, e14, h⟩ := lt_e h
    refine pf_RX6_21 F hE hI hB po_33 rfl rfl (Nat.le_of_ble_eq_true rfl) rfl dX6_append_44 e14 (fun H locs hB => ?_)
    exact q_vret F hlocks hr hB (Option.some.inj h) dX6_append_47
def f_X6_allHold_b2 (σ0 : Mem) : Nat → Nat → Int32 → Option (Int32)
  | 0, _, _ => none
  | n2 + 1, r1, x2 => (if (σ0.1 33 3) ≤ x2 then (some (1 : Int32)) else (ck x2 8 (if (σ0.1 r1 6) ≤ (σ0.1 35 x2.toNatClampNeg) then (some (0 : Int32)) else (ck x2 8 (ck x2 8 (bp (f_X8_placeOf σ0 r1 (σ0.1 34 x2.toNatClampNeg) (σ0.1 35 x2.toNatClampNeg)) (fun v7 => (ck x2 8 (if v7 = (σ0.1 36 x2.toNatClampNeg) then (f_X6_allHold_b2 σ0 n2 r1 (x2 + (1 : Int32))) else (some (0 : Int32)))))))))))
def f_X6_allHold (σ0 : Mem) (q1 : Nat) : Option (Int32) := (f_X6_allHold_b2 σ0 300 q1 (0 : Int32))
set_option maxHeartbeats 4000000 in
set_option maxRecDepth 100000 in
theorem k_X6_allHold {l : Launch} {D : va_G} {cy : Nat → ClassId} {ad : Nat → Nat} {ta tb : Nat} (hI : AdI ad) (σ0 : Mem) (q1 : Nat) (hq1 : isVoy q1) {o : Int32} (h : f_X6_allHold σ0 q1 = some o) : Met l yX6_allHold (Cond.code yX6_allHold cX6_allHold 3 (some .boolean) :: wG) rm_X6_allHold (CP D cy ad ta tb σ0 [.ref (ad 33), .ref (ad q1)]) (CQi D cy ad o σ0) 0 0 (AA ad) := by
  refine Met.ofW (cc := cX6_allHold) (maxL := 3) (ret := (some .boolean)) (by decide) rfl ?_
  intro p e s m args below meth c s₁ B hml hv
  obtain ⟨rfl, hE, hP⟩ := hv
  have hts := atoms_spec (ws := Cond.code yX6_allHold cX6_allHold 3 (some .boolean) :: wG) B.pre
  have F : CallFix p m c cX6_allHold 3 s _ wG RX6 := ⟨B.exec, B.bytes, hml, findClass_of_methodNamed B.named, fun w hw => hts w (List.mem_cons_of_mem _ hw)⟩
  have hr := B.returns
  have hlocks := B.notSynchronized
  have hB : Bd D cy ad σ0 s.heap s.heap [] := ⟨hP, va_S.rf⟩
  have hl := lv_entry ([.ref (ad 33), .ref (ad q1)] : List Value) (n := 3) (Nat.le_of_ble_eq_true rfl)
  rw [lg_entry_eq]
  generalize (lg_sl ([.ref (ad 33), .ref (ad q1)] : List Value) ++ List.replicate (3 - (lg_sl ([.ref (ad 33), .ref (ad q1)] : List Value)).length) Slot.unset).toArray = ls at hl ⊢
  have hl : lv_has ls 3 [(0, .ref (ad 33)), (1, .ref (ad q1))] := hl
  have B2 : ∀ (n2 : Nat) (H : Heap) (locs : List Loc) (ls : Array Slot) (r1 : Nat) (x2 : Int32) (hr1 : isVoy r1), f_X6_allHold_b2 σ0 n2 r1 x2 = some o → Bd D cy ad σ0 s.heap H locs → lv_has ls 3 [(0, .ref (ad 33)), (1, .ref (ad r1)), (2, .int x2)] → W p l e rm_X6_allHold s m ([.ref (ad 33), .ref (ad q1)] : List Value).toArray below meth c H locs 0 0 (MQ below (CQi D cy ad o σ0) ([.ref (ad 33), .ref (ad q1)] : List Value).toArray s 0 0 (AA ad)) (F0 m 2 ls []) := by
    intro n2
    induction n2 with
    | zero => intro H locs ls r1 x2 hr1 h hB hl; cases h
    | succ n2 ih2 =>
      intro H locs ls r1 x2 hr1 h hB hl
      rw [f_X6_allHold_b2] at h
      refine lv_iload_n F.1 F.2.1 dX6_allHold_2 rfl (lv_at hl 2 rfl) ?_
      refine lv_aload_n F.1 F.2.1 dX6_allHold_3 rfl (lv_at hl 0 rfl) ?_
      refine gf_RX6_21 F hE hB po_33 rfl dX6_allHold_4 ?_
      refine lv_icmp_ge (tgt := 56) F.1 F.2.1 dX6_allHold_7 (by decide) (fun c1 => ?_) (fun c1 => ?_)
      · replace h := it_e c1 h
        refine lv_iconst (v := 1) F.1 F.2.1 dX6_allHold_56 (by decide) ?_
        exact q_zret F hlocks hr rfl hB (Option.some.inj h) rfl dX6_allHold_57
      · replace h := ie_e c1 h
        refine lv_aload_n F.1 F.2.1 dX6_allHold_10 rfl (lv_at hl 0 rfl) ?_
        refine gf_RX6_15 F hE hB po_33 rfl dX6_allHold_11 ?_
        refine lv_iload_n F.1 F.2.1 dX6_allHold_14 rfl (lv_at hl 2 rfl) ?_
        obtain ⟨hi2, h⟩ := ck_e h
        refine q_iald F hE hB po_35 hi2 dX6_allHold_15 ?_
        refine lv_aload_n F.1 F.2.1 dX6_allHold_16 rfl (lv_at hl 1 rfl) ?_
        refine gf_RX6_29 F hE hB (po_Voy hr1) rfl dX6_allHold_17 ?_
        refine lv_icmp_ge (tgt := 48) F.1 F.2.1 dX6_allHold_20 (by decide) (fun c3 => ?_) (fun c3 => ?_)
        · replace h := it_e c3 h
          refine lv_iconst (v := 0) F.1 F.2.1 dX6_allHold_48 (by decide) ?_
          exact q_zret F hlocks hr rfl hB (Option.some.inj h) rfl dX6_allHold_49
        · replace h := ie_e c3 h
          refine lv_aload_n F.1 F.2.1 dX6_allHold_23 rfl (lv_at hl 1 rfl) ?_
          refine lv_aload_n F.1 F.2.1 dX6_allHold_24 rfl (lv_at hl 0 rfl) ?_
          refine gf_RX6_9 F hE hB po_33 rfl dX6_allHold_25 ?_
          refine lv_iload_n F.1 F.2.1 dX6_allHold_28 rfl (lv_at hl 2 rfl) ?_
          obtain ⟨hi4, h⟩ := ck_e h
          refine q_iald F hE hB po_34 hi4 dX6_allHold_29 ?_
          refine lv_aload_n F.1 F.2.1 dX6_allHold_30 rfl (lv_at hl 0 rfl) ?_
          refine gf_RX6_15 F hE hB po_33 rfl dX6_allHold_31 ?_
          refine lv_iload_n F.1 F.2.1 dX6_allHold_34 rfl (lv_at hl 2 rfl) ?_
          obtain ⟨hi5, h⟩ := ck_e h
          refine q_iald F hE hB po_35 hi5 dX6_allHold_35 ?_
          obtain ⟨v7, hc6, h⟩ := bp_e h
          refine q_ci hB (q_goV F hE hB (k_X8_placeOf hI σ0 r1 hr1 (σ0.1 34 x2.toNatClampNeg) (σ0.1 35 x2.toNatClampNeg) hc6) (ca_RX6_34 F.2.2.2.2 ⟨Nat.le_of_ble_eq_true rfl, Nat.le_of_ble_eq_true rfl⟩) rfl (po_Voy hr1) rfl hl.1 rfl (Nat.le_of_ble_eq_true rfl) dX6_allHold_36 ⟨Nat.le_of_ble_eq_true rfl, Nat.le_of_ble_eq_true rfl⟩) (fun H locs hB => ?_)
          refine lv_aload_n F.1 F.2.1 dX6_allHold_39 rfl (lv_at hl 0 rfl) ?_
          refine gf_RX6_18 F hE hB po_33 rfl dX6_allHold_40 ?_
          refine lv_iload_n F.1 F.2.1 dX6_allHold_43 rfl (lv_at hl 2 rfl) ?_
          obtain ⟨hi8, h⟩ := ck_e h
          refine q_iald F hE hB po_36 hi8 dX6_allHold_44 ?_
          refine lv_icmp_eq (tgt := 50) F.1 F.2.1 dX6_allHold_45 (by decide) (fun c9 => ?_) (fun c9 => ?_)
          · replace h := it_e c9 h
            refine lv_iinc (v := (x2 + (1 : Int32))) (lv' := [(2, .int (x2 + (1 : Int32))), (0, .ref (ad 33)), (1, .ref (ad r1))]) F.1 F.2.1 dX6_allHold_50 hl (k := 2) rfl rfl (by decide) rfl (fun ls hl => ?_)
            refine lv_goto (tgt := 2) F.1 F.2.1 dX6_allHold_53 (by decide) ?_
            exact ih2 _ _ _ r1 (x2 + (1 : Int32)) hr1 h hB (lv_sub hl [1, 2, 0] rfl)
          · replace h := ie_e c9 h
            refine lv_iconst (v := 0) F.1 F.2.1 dX6_allHold_48 (by decide) ?_
            exact q_zret F hlocks hr rfl hB (Option.some.inj h) rfl dX6_allHold_49
  unfold f_X6_allHold at h
  refine lv_iconst (v := 0) F.1 F.2.1 dX6_allHold_0 (by decide) ?_
  refine lv_istore_n (lv' := [(2, .int (0 : Int32)), (0, .ref (ad 33)), (1, .ref (ad q1))]) F.1 F.2.1 dX6_allHold_1 rfl hl (by decide) rfl (fun ls hl => ?_)
  exact B2 300 _ _ _ q1 (0 : Int32) hq1 h hB (lv_sub hl [1, 2, 0] rfl)
def f_X0_keep_b5 : Nat → Mem → Int32 → Nat → Int64 → Int32 → Option (Mem)
  | 0, _, _, _, _, _ => none
  | n5 + 1, σ0, x1, r2, x3, x5 => (if (σ0.1 r2 6) ≤ x5 then (ck x1 256 (lt (mj σ0 x1.toNatClampNeg x3) (fun σ3 => (some σ3)))) else (bp (f_X8_throughStep σ0 r2 x5) (fun v6 => (f_X0_keep_b5 n5 σ0 x1 r2 (x3 ||| (v6.toInt64 <<< (((8 : Int32) * x5).toInt64 &&& 63))) (x5 + (1 : Int32))))))
def f_X0_keep (σ0 : Mem) (a1 : Int32) (q2 : Nat) : Option (Mem) := (f_X0_keep_b5 300 σ0 a1 q2 (0 : Int64) (0 : Int32))
set_option maxHeartbeats 4000000 in
set_option maxRecDepth 100000 in
theorem k_X0_keep {l : Launch} {D : va_G} {cy : Nat → ClassId} {ad : Nat → Nat} {ta tb : Nat} (hI : AdI ad) (σ0 : Mem) (a1 : Int32) (q2 : Nat) (hq2 : isVoy q2) {o : Mem} (h : f_X0_keep σ0 a1 q2 = some o) : Met l yX0_keep (Cond.code yX0_keep cX0_keep 6 none :: wG) rm_X0_keep (CP D cy ad ta tb σ0 [.ref (ad 58), .int a1, .ref (ad q2)]) (CQv D cy ad o) 0 0 (AA ad) := by
  refine Met.ofW (cc := cX0_keep) (maxL := 6) (ret := none) (by decide) rfl ?_
  intro p e s m args below meth c s₁ B hml hv
  obtain ⟨rfl, hE, hP⟩ := hv
  have hts := atoms_spec (ws := Cond.code yX0_keep cX0_keep 6 none :: wG) B.pre
  have F : CallFix p m c cX0_keep 6 s _ wG RX0 := ⟨B.exec, B.bytes, hml, findClass_of_methodNamed B.named, fun w hw => hts w (List.mem_cons_of_mem _ hw)⟩
  have hr := B.returns
  have hlocks := B.notSynchronized
  have hB : Bd D cy ad σ0 s.heap s.heap [] := ⟨hP, va_S.rf⟩
  have hl := lv_entry ([.ref (ad 58), .int a1, .ref (ad q2)] : List Value) (n := 6) (Nat.le_of_ble_eq_true rfl)
  rw [lg_entry_eq]
  generalize (lg_sl ([.ref (ad 58), .int a1, .ref (ad q2)] : List Value) ++ List.replicate (6 - (lg_sl ([.ref (ad 58), .int a1, .ref (ad q2)] : List Value)).length) Slot.unset).toArray = ls at hl ⊢
  have hl : lv_has ls 6 [(0, .ref (ad 58)), (1, .int a1), (2, .ref (ad q2))] := hl
  have B5 : ∀ (n5 : Nat) (σ0 : Mem) (H : Heap) (locs : List Loc) (ls : Array Slot) (x1 : Int32) (r2 : Nat) (x3 : Int64) (x5 : Int32) (hr2 : isVoy r2), f_X0_keep_b5 n5 σ0 x1 r2 x3 x5 = some o → Bd D cy ad σ0 s.heap H locs → lv_has ls 6 [(0, .ref (ad 58)), (1, .int x1), (2, .ref (ad r2)), (3, .long x3), (5, .int x5)] → W p l e rm_X0_keep s m ([.ref (ad 58), .int a1, .ref (ad q2)] : List Value).toArray below meth c H locs 0 0 (MQ below (CQv D cy ad o) ([.ref (ad 58), .int a1, .ref (ad q2)] : List Value).toArray s 0 0 (AA ad)) (F0 m 5 ls []) := by
    intro n5
    induction n5 with
    | zero => intro σ0 H locs ls x1 r2 x3 x5 hr2 h hB hl; cases h
    | succ n5 ih5 =>
      intro σ0 H locs ls x1 r2 x3 x5 hr2 h hB hl
      rw [f_X0_keep_b5] at h
      refine lv_iload F.1 F.2.1 dX0_keep_5 (lv_at hl 4 rfl) ?_
      refine lv_aload_n F.1 F.2.1 dX0_keep_7 rfl (lv_at hl 2 rfl) ?_
      refine gf_RX0_19 F hE hB (po_Voy hr2) rfl dX0_keep_8 ?_
      refine lv_icmp_ge (tgt := 36) F.1 F.2.1 dX0_keep_11 (by decide) (fun c1 => ?_) (fun c1 => ?_)
      · replace h := it_e c1 h
        refine lv_aload_n F.1 F.2.1 dX0_keep_36 rfl (lv_at hl 0 rfl) ?_
        refine gf_RX0_9 F hE hB po_58 rfl dX0_keep_37 ?_
        refine lv_iload_n F.1 F.2.1 dX0_keep_40 rfl (lv_at hl 1 rfl) ?_
        refine lv_lload_n F.1 F.2.1 dX0_keep_41 rfl (lv_at hl 3 rfl) ?_
        obtain ⟨hi2, h⟩ := ck_e h
        obtain ⟨σ3, e4, h⟩ := lt_e h
        refine q_last F hE hI hB hi2 dX0_keep_42 e4 (fun H locs hB => ?_)
        exact q_vret F hlocks hr hB (Option.some.inj h) dX0_keep_43
      · replace h := ie_e c1 h
        refine lv_lload_n F.1 F.2.1 dX0_keep_14 rfl (lv_at hl 3 rfl) ?_
        refine lv_aload_n F.1 F.2.1 dX0_keep_15 rfl (lv_at hl 2 rfl) ?_
        refine lv_iload F.1 F.2.1 dX0_keep_16 (lv_at hl 4 rfl) ?_
        obtain ⟨v6, hc5, h⟩ := bp_e h
        refine q_ci hB (q_goV F hE hB (k_X8_throughStep hI σ0 r2 hr2 x5 hc5) (ca_RX0_25 F.2.2.2.2 ⟨Nat.le_of_ble_eq_true rfl, Nat.le_of_ble_eq_true rfl⟩) rfl (po_Voy hr2) rfl hl.1 rfl (Nat.le_of_ble_eq_true rfl) dX0_keep_18 ⟨Nat.le_of_ble_eq_true rfl, Nat.le_of_ble_eq_true rfl⟩) (fun H locs hB => ?_)
        refine lv_i2l F.1 F.2.1 dX0_keep_21 rfl ?_
        refine lv_bipush (v := 8) F.1 F.2.1 dX0_keep_22 (by decide) ?_
        refine lv_iload F.1 F.2.1 dX0_keep_24 (lv_at hl 4 rfl) ?_
        refine lv_imul F.1 F.2.1 dX0_keep_26 ?_
        refine lv_lshl F.1 F.2.1 dX0_keep_27 rfl ?_
        refine lv_lor F.1 F.2.1 dX0_keep_28 ?_
        refine lv_lstore_n (lv' := [(3, .long (x3 ||| (v6.toInt64 <<< (((8 : Int32) * x5).toInt64 &&& 63)))), (0, .ref (ad 58)), (1, .int x1), (2, .ref (ad r2)), (5, .int x5)]) F.1 F.2.1 dX0_keep_29 rfl hl (by decide) rfl (fun ls hl => ?_)
        refine lv_iinc (v := (x5 + (1 : Int32))) (lv' := [(5, .int (x5 + (1 : Int32))), (3, .long (x3 ||| (v6.toInt64 <<< (((8 : Int32) * x5).toInt64 &&& 63)))), (0, .ref (ad 58)), (1, .int x1), (2, .ref (ad r2))]) F.1 F.2.1 dX0_keep_30 hl (k := 4) rfl rfl (by decide) rfl (fun ls hl => ?_)
        refine lv_goto (tgt := 5) F.1 F.2.1 dX0_keep_33 (by decide) ?_
        exact ih5 σ0 _ _ _ x1 r2 (x3 ||| (v6.toInt64 <<< (((8 : Int32) * x5).toInt64 &&& 63))) (x5 + (1 : Int32)) hr2 h hB (lv_sub hl [2, 3, 4, 1, 0] rfl)
  unfold f_X0_keep at h
  refine lv_lconst (v := 0) F.1 F.2.1 dX0_keep_0 (by decide) ?_
  refine lv_lstore_n (lv' := [(3, .long (0 : Int64)), (0, .ref (ad 58)), (1, .int a1), (2, .ref (ad q2))]) F.1 F.2.1 dX0_keep_1 rfl hl (by decide) rfl (fun ls hl => ?_)
  refine lv_iconst (v := 0) F.1 F.2.1 dX0_keep_2 (by decide) ?_
  refine lv_istore (lv' := [(5, .int (0 : Int32)), (3, .long (0 : Int64)), (0, .ref (ad 58)), (1, .int a1), (2, .ref (ad q2))]) F.1 F.2.1 dX0_keep_3 hl (by decide) rfl (fun ls hl => ?_)
  exact B5 300 σ0 _ _ _ a1 q2 (0 : Int64) (0 : Int32) hq2 h hB (lv_sub hl [2, 3, 4, 1, 0] rfl)
def f_X0_countBySize_b54 (k10 : Mem → Int32 → Int32 → Int32 → Option (Mem)) (σ0 : Mem) (x1 : Int32) (x2 : Int32) (x3 : Int32) : Option (Mem) := (k10 σ0 x1 x2 (x3 + (1 : Int32)))
def f_X0_countBySize_b10 : Nat → Mem → Int32 → Int32 → Int32 → Option (Mem)
  | 0, _, _, _, _ => none
  | n10 + 1, σ0, x1, x2, x3 => (if ((1 : Int32) <<< ((σ0.1 58 2) &&& 31)) ≤ x3 then (some σ0) else (ck x3 256 (if (0 : Int32) < (lg_cmp (((σ0.2 x3.toNatClampNeg) >>> (((8 : Int32) * x1).toInt64 &&& 63)) &&& (255 : Int64)) x2.toInt64) then (f_X0_countBySize_b54 (f_X0_countBySize_b10 n10) σ0 x1 x2 x3) else (bp (f_J6_bitCount_0f7a4 σ0 x3) (fun v7 => (ck v7 9 (ck v7 9 (lt (ms σ0 60 v7.toNatClampNeg ((σ0.1 60 v7.toNatClampNeg) + (1 : Int32))) (fun σ10 => (f_X0_countBySize_b54 (f_X0_countBySize_b10 n10) σ10 x1 x2 x3))))))))))
def f_X0_countBySize (σ0 : Mem) (a1 : Int32) (a2 : Int32) : Option (Mem) := (bv (f_J7_fill_53178 σ0 60 9 (0 : Int32)) (fun σ2 => (f_X0_countBySize_b10 300 σ2 a1 a2 (0 : Int32))))
set_option maxHeartbeats 4000000 in
set_option maxRecDepth 100000 in
theorem k_X0_countBySize {l : Launch} {D : va_G} {cy : Nat → ClassId} {ad : Nat → Nat} {ta tb : Nat} (hI : AdI ad) (σ0 : Mem) (a1 : Int32) (a2 : Int32) {o : Mem} (h : f_X0_countBySize σ0 a1 a2 = some o) : Met l yX0_countBySize (Cond.code yX0_countBySize cX0_countBySize 4 none :: wG) rm_X0_countBySize (CP D cy ad ta tb σ0 [.ref (ad 58), .int a1, .int a2]) (CQv D cy ad o) 0 0 (AA ad) := by
  refine Met.ofW (cc := cX0_countBySize) (maxL := 4) (ret := none) (by decide) rfl ?_
  intro p e s m args below meth c s₁ B hml hv
  obtain ⟨rfl, hE, hP⟩ := hv
  have hts := atoms_spec (ws := Cond.code yX0_countBySize cX0_countBySize 4 none :: wG) B.pre
  have F : CallFix p m c cX0_countBySize 4 s _ wG RX0 := ⟨B.exec, B.bytes, hml, findClass_of_methodNamed B.named, fun w hw => hts w (List.mem_cons_of_mem _ hw)⟩
  have hr := B.returns
  have hlocks := B.notSynchronized
  have hB : Bd D cy ad σ0 s.heap s.heap [] := ⟨hP, va_S.rf⟩
  have hl := lv_entry ([.ref (ad 58), .int a1, .int a2] : List Value) (n := 4) (Nat.le_of_ble_eq_true rfl)
  rw [lg_entry_eq]
  generalize (lg_sl ([.ref (ad 58), .int a1, .int a2] : List Value) ++ List.replicate (4 - (lg_sl ([.ref (ad 58), .int a1, .int a2] : List Value)).length) Slot.unset).toArray = ls at hl ⊢
  have hl : lv_has ls 4 [(0, .ref (ad 58)), (1, .int a1), (2, .int a2)] := hl
  have B10 : ∀ (n10 : Nat) (σ0 : Mem) (H : Heap) (locs : List Loc) (ls : Array Slot) (x1 : Int32) (x2 : Int32) (x3 : Int32), f_X0_countBySize_b10 n10 σ0 x1 x2 x3 = some o → Bd D cy ad σ0 s.heap H locs → lv_has ls 4 [(0, .ref (ad 58)), (1, .int x1), (2, .int x2), (3, .int x3)] → W p l e rm_X0_countBySize s m ([.ref (ad 58), .int a1, .int a2] : List Value).toArray below meth c H locs 0 0 (MQ below (CQv D cy ad o) ([.ref (ad 58), .int a1, .int a2] : List Value).toArray s 0 0 (AA ad)) (F0 m 10 ls []) := by
    intro n10
    induction n10 with
    | zero => intro σ0 H locs ls x1 x2 x3 h hB hl; cases h
    | succ n10 ih10 =>
      have B54 : ∀ (σ0 : Mem) (H : Heap) (locs : List Loc) (ls : Array Slot) (x1 : Int32) (x2 : Int32) (x3 : Int32), f_X0_countBySize_b54 (f_X0_countBySize_b10 n10) σ0 x1 x2 x3 = some o → Bd D cy ad σ0 s.heap H locs → lv_has ls 4 [(0, .ref (ad 58)), (1, .int x1), (2, .int x2), (3, .int x3)] → W p l e rm_X0_countBySize s m ([.ref (ad 58), .int a1, .int a2] : List Value).toArray below meth c H locs 0 0 (MQ below (CQv D cy ad o) ([.ref (ad 58), .int a1, .int a2] : List Value).toArray s 0 0 (AA ad)) (F0 m 54 ls []) := by
        intro σ0 H locs ls x1 x2 x3 h hB hl
        unfold f_X0_countBySize_b54 at h
        refine lv_iinc (v := (x3 + (1 : Int32))) (lv' := [(3, .int (x3 + (1 : Int32))), (0, .ref (ad 58)), (1, .int x1), (2, .int x2)]) F.1 F.2.1 dX0_countBySize_54 hl (k := 3) rfl rfl (by decide) rfl (fun ls hl => ?_)
        refine lv_goto (tgt := 10) F.1 F.2.1 dX0_countBySize_57 (by decide) ?_
        exact ih10 σ0 _ _ _ x1 x2 (x3 + (1 : Int32)) h hB (lv_sub hl [1, 2, 3, 0] rfl)
      intro σ0 H locs ls x1 x2 x3 h hB hl
      rw [f_X0_countBySize_b10] at h
      refine lv_iload_n F.1 F.2.1 dX0_countBySize_10 rfl (lv_at hl 3 rfl) ?_
      refine lv_iconst (v := 1) F.1 F.2.1 dX0_countBySize_11 (by decide) ?_
      refine lv_aload_n F.1 F.2.1 dX0_countBySize_12 rfl (lv_at hl 0 rfl) ?_
      refine gf_RX0_33 F hE hB po_58 rfl dX0_countBySize_13 ?_
      refine lv_ishl F.1 F.2.1 dX0_countBySize_16 ?_
      refine lv_icmp_ge (tgt := 60) F.1 F.2.1 dX0_countBySize_17 (by decide) (fun c3 => ?_) (fun c3 => ?_)
      · replace h := it_e c3 h
        exact q_vret F hlocks hr hB (Option.some.inj h) dX0_countBySize_60
      · replace h := ie_e c3 h
        refine lv_aload_n F.1 F.2.1 dX0_countBySize_20 rfl (lv_at hl 0 rfl) ?_
        refine gf_RX0_9 F hE hB po_58 rfl dX0_countBySize_21 ?_
        refine lv_iload_n F.1 F.2.1 dX0_countBySize_24 rfl (lv_at hl 3 rfl) ?_
        obtain ⟨hi4, h⟩ := ck_e h
        refine q_lald F hE hB hi4 dX0_countBySize_25 ?_
        refine lv_bipush (v := 8) F.1 F.2.1 dX0_countBySize_26 (by decide) ?_
        refine lv_iload_n F.1 F.2.1 dX0_countBySize_28 rfl (lv_at hl 1 rfl) ?_
        refine lv_imul F.1 F.2.1 dX0_countBySize_29 ?_
        refine lv_lshr F.1 F.2.1 dX0_countBySize_30 rfl ?_
        refine lv_ldc2 (v := 255) F.1 F.2.1 F.2.2.2.1 (F.2.2.2.2 _ wm_k_RX0_46) dX0_countBySize_31 ?_
        refine lv_land F.1 F.2.1 dX0_countBySize_34 ?_
        refine lv_iload_n F.1 F.2.1 dX0_countBySize_35 rfl (lv_at hl 2 rfl) ?_
        refine lv_i2l F.1 F.2.1 dX0_countBySize_36 rfl ?_
        refine W.lcmp F.1 F.2.1 dX0_countBySize_37 ?_
        refine lv_if_gt (tgt := 54) F.1 F.2.1 dX0_countBySize_38 (by decide) (fun c5 => ?_) (fun c5 => ?_)
        · replace h := it_e c5 h
          exact B54 σ0 _ _ _ x1 x2 x3 h hB (lv_sub hl [0, 1, 2, 3] rfl)
        · replace h := ie_e c5 h
          refine lv_aload_n F.1 F.2.1 dX0_countBySize_41 rfl (lv_at hl 0 rfl) ?_
          refine gf_RX0_15 F hE hB po_58 rfl dX0_countBySize_42 ?_
          refine lv_iload_n F.1 F.2.1 dX0_countBySize_45 rfl (lv_at hl 3 rfl) ?_
          obtain ⟨v7, hc6, h⟩ := bp_e h
          refine q_ci hB (q_goS F hE hB (k_J6_bitCount_0f7a4 hI σ0 x3 hc6) (ca_RX0_48 F.2.2.2.2 ⟨Nat.le_of_ble_eq_true rfl, Nat.le_of_ble_eq_true rfl⟩) rfl hl.1 rfl (Nat.le_of_ble_eq_true rfl) dX0_countBySize_46 ⟨Nat.le_of_ble_eq_true rfl, Nat.le_of_ble_eq_true rfl⟩) (fun H locs hB => ?_)
          refine lv_dup2_11 F.1 F.2.1 dX0_countBySize_49 rfl rfl ?_
          obtain ⟨hi8, h⟩ := ck_e h
          refine q_iald F hE hB po_60 hi8 dX0_countBySize_50 ?_
          refine lv_iconst (v := 1) F.1 F.2.1 dX0_countBySize_51 (by decide) ?_
          refine lv_iadd F.1 F.2.1 dX0_countBySize_52 ?_
          obtain ⟨hi9, h⟩ := ck_e h
          obtain ⟨σ10, e11, h⟩ := lt_e h
          refine q_iast F hE hI hB row_60 hi9 dX0_countBySize_53 e11 (fun H locs hB => ?_)
          exact B54 σ10 _ _ _ x1 x2 x3 h hB (lv_sub hl [0, 1, 2, 3] rfl)
  unfold f_X0_countBySize at h
  refine lv_aload_n F.1 F.2.1 dX0_countBySize_0 rfl (lv_at hl 0 rfl) ?_
  refine gf_RX0_15 F hE hB po_58 rfl dX0_countBySize_1 ?_
  refine lv_iconst (v := 0) F.1 F.2.1 dX0_countBySize_4 (by decide) ?_
  obtain ⟨σ2, hc1, h⟩ := bv_e h
  refine q_cv hB (q_goS F hE hB (k_J7_fill_53178 hI σ0 60 9 row_60 (0 : Int32) hc1) (ca_RX0_40 F.2.2.2.2 ⟨Nat.le_of_ble_eq_true rfl, Nat.le_of_ble_eq_true rfl⟩) rfl hl.1 rfl (Nat.le_of_ble_eq_true rfl) dX0_countBySize_5 ⟨Nat.le_of_ble_eq_true rfl, Nat.le_of_ble_eq_true rfl⟩) (fun H locs hB => ?_)
  refine lv_iconst (v := 0) F.1 F.2.1 dX0_countBySize_8 (by decide) ?_
  refine lv_istore_n (lv' := [(3, .int (0 : Int32)), (0, .ref (ad 58)), (1, .int a1), (2, .int a2)]) F.1 F.2.1 dX0_countBySize_9 rfl hl (by decide) rfl (fun ls hl => ?_)
  exact B10 300 σ2 _ _ _ a1 a2 (0 : Int32) h hB (lv_sub hl [1, 2, 3, 0] rfl)
def f_X0_power_b5 (σ0 : Mem) : Nat → Int32 → Int32 → Int64 → Int32 → Option (Int64)
  | 0, _, _, _, _ => none
  | n5 + 1, x0, x1, x2, x4 => (if x1 ≤ x4 then (some x2) else (f_X0_power_b5 σ0 n5 x0 x1 (x2 * x0.toInt64) (x4 + (1 : Int32))))
def f_X0_power (σ0 : Mem) (a0 : Int32) (a1 : Int32) : Option (Int64) := (f_X0_power_b5 σ0 300 a0 a1 (1 : Int64) (0 : Int32))
set_option maxHeartbeats 4000000 in
set_option maxRecDepth 100000 in
theorem k_X0_power {l : Launch} {D : va_G} {cy : Nat → ClassId} {ad : Nat → Nat} {ta tb : Nat} (hI : AdI ad) (σ0 : Mem) (a0 : Int32) (a1 : Int32) {o : Int64} (h : f_X0_power σ0 a0 a1 = some o) : Met l yX0_power (Cond.code yX0_power cX0_power 5 (some .long) :: wG) rm_X0_power (CP D cy ad ta tb σ0 [.int a0, .int a1]) (CQl D cy ad o σ0) 0 0 (AA ad) := by
  refine Met.ofW (cc := cX0_power) (maxL := 5) (ret := (some .long)) (by decide) rfl ?_
  intro p e s m args below meth c s₁ B hml hv
  obtain ⟨rfl, hE, hP⟩ := hv
  have hts := atoms_spec (ws := Cond.code yX0_power cX0_power 5 (some .long) :: wG) B.pre
  have F : CallFix p m c cX0_power 5 s _ wG RX0 := ⟨B.exec, B.bytes, hml, findClass_of_methodNamed B.named, fun w hw => hts w (List.mem_cons_of_mem _ hw)⟩
  have hr := B.returns
  have hlocks := B.notSynchronized
  have hB : Bd D cy ad σ0 s.heap s.heap [] := ⟨hP, va_S.rf⟩
  have hl := lv_entry ([.int a0, .int a1] : List Value) (n := 5) (Nat.le_of_ble_eq_true rfl)
  rw [lg_entry_eq]
  generalize (lg_sl ([.int a0, .int a1] : List Value) ++ List.replicate (5 - (lg_sl ([.int a0, .int a1] : List Value)).length) Slot.unset).toArray = ls at hl ⊢
  have hl : lv_has ls 5 [(0, .int a0), (1, .int a1)] := hl
  have B5 : ∀ (n5 : Nat) (H : Heap) (locs : List Loc) (ls : Array Slot) (x0 : Int32) (x1 : Int32) (x2 : Int64) (x4 : Int32), f_X0_power_b5 σ0 n5 x0 x1 x2 x4 = some o → Bd D cy ad σ0 s.heap H locs → lv_has ls 5 [(0, .int x0), (1, .int x1), (2, .long x2), (4, .int x4)] → W p l e rm_X0_power s m ([.int a0, .int a1] : List Value).toArray below meth c H locs 0 0 (MQ below (CQl D cy ad o σ0) ([.int a0, .int a1] : List Value).toArray s 0 0 (AA ad)) (F0 m 5 ls []) := by
    intro n5
    induction n5 with
    | zero => intro H locs ls x0 x1 x2 x4 h hB hl; cases h
    | succ n5 ih5 =>
      intro H locs ls x0 x1 x2 x4 h hB hl
      rw [f_X0_power_b5] at h
      refine lv_iload F.1 F.2.1 dX0_power_5 (lv_at hl 3 rfl) ?_
      refine lv_iload_n F.1 F.2.1 dX0_power_7 rfl (lv_at hl 1 rfl) ?_
      refine lv_icmp_ge (tgt := 22) F.1 F.2.1 dX0_power_8 (by decide) (fun c1 => ?_) (fun c1 => ?_)
      · replace h := it_e c1 h
        refine lv_lload_n F.1 F.2.1 dX0_power_22 rfl (lv_at hl 2 rfl) ?_
        exact q_lret F hlocks hr hB (Option.some.inj h) rfl dX0_power_23
      · replace h := ie_e c1 h
        refine lv_lload_n F.1 F.2.1 dX0_power_11 rfl (lv_at hl 2 rfl) ?_
        refine lv_iload_n F.1 F.2.1 dX0_power_12 rfl (lv_at hl 0 rfl) ?_
        refine lv_i2l F.1 F.2.1 dX0_power_13 rfl ?_
        refine lv_lmul F.1 F.2.1 dX0_power_14 ?_
        refine lv_lstore_n (lv' := [(2, .long (x2 * x0.toInt64)), (0, .int x0), (1, .int x1), (4, .int x4)]) F.1 F.2.1 dX0_power_15 rfl hl (by decide) rfl (fun ls hl => ?_)
        refine lv_iinc (v := (x4 + (1 : Int32))) (lv' := [(4, .int (x4 + (1 : Int32))), (2, .long (x2 * x0.toInt64)), (0, .int x0), (1, .int x1)]) F.1 F.2.1 dX0_power_16 hl (k := 3) rfl rfl (by decide) rfl (fun ls hl => ?_)
        refine lv_goto (tgt := 5) F.1 F.2.1 dX0_power_19 (by decide) ?_
        exact ih5 _ _ _ x0 x1 (x2 * x0.toInt64) (x4 + (1 : Int32)) h hB (lv_sub hl [2, 3, 1, 0] rfl)
  unfold f_X0_power at h
  refine lv_lconst (v := 1) F.1 F.2.1 dX0_power_0 (by decide) ?_
  refine lv_lstore_n (lv' := [(2, .long (1 : Int64)), (0, .int a0), (1, .int a1)]) F.1 F.2.1 dX0_power_1 rfl hl (by decide) rfl (fun ls hl => ?_)
  refine lv_iconst (v := 0) F.1 F.2.1 dX0_power_2 (by decide) ?_
  refine lv_istore (lv' := [(4, .int (0 : Int32)), (2, .long (1 : Int64)), (0, .int a0), (1, .int a1)]) F.1 F.2.1 dX0_power_3 hl (by decide) rfl (fun ls hl => ?_)
  exact B5 300 _ _ _ a0 a1 (1 : Int64) (0 : Int32) h hB (lv_sub hl [2, 3, 1, 0] rfl)
def f_X0_above_b12 : Nat → Mem → Int32 → Int64 → Int32 → Option (Int64 × Mem)
  | 0, _, _, _, _ => none
  | n12 + 1, σ0, x1, x4, x6 => (if (σ0.1 58 2) < x6 then (some (x4, σ0)) else (ck x6 9 (bp (f_X0_power σ0 x1 x6) (fun v6 => (bp (f_X0_power σ0 ((16 : Int32) - x1) ((σ0.1 58 2) - x6)) (fun v8 => (f_X0_above_b12 n12 σ0 x1 (x4 + (((σ0.1 60 x6.toNatClampNeg).toInt64 * v6) * v8)) (x6 + (1 : Int32)))))))))
def f_X0_above (σ0 : Mem) (a1 : Int32) (a2 : Int32) (a3 : Int32) : Option (Int64 × Mem) := (bv (f_X0_countBySize σ0 a2 a3) (fun σ2 => (f_X0_above_b12 300 σ2 a1 (0 : Int64) (0 : Int32))))
set_option maxHeartbeats 4000000 in
set_option maxRecDepth 100000 in
theorem k_X0_above {l : Launch} {D : va_G} {cy : Nat → ClassId} {ad : Nat → Nat} {ta tb : Nat} (hI : AdI ad) (σ0 : Mem) (a1 : Int32) (a2 : Int32) (a3 : Int32) {o : Int64 × Mem} (h : f_X0_above σ0 a1 a2 a3 = some o) : Met l yX0_above (Cond.code yX0_above cX0_above 7 (some .long) :: wG) rm_X0_above (CP D cy ad ta tb σ0 [.ref (ad 58), .int a1, .int a2, .int a3]) (CQl D cy ad o.1 o.2) 0 0 (AA ad) := by
  refine Met.ofW (cc := cX0_above) (maxL := 7) (ret := (some .long)) (by decide) rfl ?_
  intro p e s m args below meth c s₁ B hml hv
  obtain ⟨rfl, hE, hP⟩ := hv
  have hts := atoms_spec (ws := Cond.code yX0_above cX0_above 7 (some .long) :: wG) B.pre
  have F : CallFix p m c cX0_above 7 s _ wG RX0 := ⟨B.exec, B.bytes, hml, findClass_of_methodNamed B.named, fun w hw => hts w (List.mem_cons_of_mem _ hw)⟩
  have hr := B.returns
  have hlocks := B.notSynchronized
  have hB : Bd D cy ad σ0 s.heap s.heap [] := ⟨hP, va_S.rf⟩
  have hl := lv_entry ([.ref (ad 58), .int a1, .int a2, .int a3] : List Value) (n := 7) (Nat.le_of_ble_eq_true rfl)
  rw [lg_entry_eq]
  generalize (lg_sl ([.ref (ad 58), .int a1, .int a2, .int a3] : List Value) ++ List.replicate (7 - (lg_sl ([.ref (ad 58), .int a1, .int a2, .int a3] : List Value)).length) Slot.unset).toArray = ls at hl ⊢
  have hl : lv_has ls 7 [(0, .ref (ad 58)), (1, .int a1), (2, .int a2), (3, .int a3)] := hl
  have B12 : ∀ (n12 : Nat) (σ0 : Mem) (H : Heap) (locs : List Loc) (ls : Array Slot) (x1 : Int32) (x4 : Int64) (x6 : Int32), f_X0_above_b12 n12 σ0 x1 x4 x6 = some o → Bd D cy ad σ0 s.heap H locs → lv_has ls 7 [(0, .ref (ad 58)), (1, .int x1), (4, .long x4), (6, .int x6)] → W p l e rm_X0_above s m ([.ref (ad 58), .int a1, .int a2, .int a3] : List Value).toArray below meth c H locs 0 0 (MQ below (CQl D cy ad o.1 o.2) ([.ref (ad 58), .int a1, .int a2, .int a3] : List Value).toArray s 0 0 (AA ad)) (F0 m 12 ls []) := by
    intro n12
    induction n12 with
    | zero => intro σ0 H locs ls x1 x4 x6 h hB hl; cases h
    | succ n12 ih12 =>
      intro σ0 H locs ls x1 x4 x6 h hB hl
      rw [f_X0_above_b12] at h
      refine lv_iload F.1 F.2.1 dX0_above_12 (lv_at hl 3 rfl) ?_
      refine lv_aload_n F.1 F.2.1 dX0_above_14 rfl (lv_at hl 0 rfl) ?_
      refine gf_RX0_33 F hE hB po_58 rfl dX0_above_15 ?_
      refine lv_icmp_gt (tgt := 62) F.1 F.2.1 dX0_above_18 (by decide) (fun c3 => ?_) (fun c3 => ?_)
      · replace h := it_e c3 h
        refine lv_lload F.1 F.2.1 dX0_above_62 (lv_at hl 2 rfl) ?_
        exact q_lret F hlocks hr hB (so1 h) (so2 h) dX0_above_64
      · replace h := ie_e c3 h
        refine lv_lload F.1 F.2.1 dX0_above_21 (lv_at hl 2 rfl) ?_
        refine lv_aload_n F.1 F.2.1 dX0_above_23 rfl (lv_at hl 0 rfl) ?_
        refine gf_RX0_15 F hE hB po_58 rfl dX0_above_24 ?_
        refine lv_iload F.1 F.2.1 dX0_above_27 (lv_at hl 3 rfl) ?_
        obtain ⟨hi4, h⟩ := ck_e h
        refine q_iald F hE hB po_60 hi4 dX0_above_29 ?_
        refine lv_i2l F.1 F.2.1 dX0_above_30 rfl ?_
        refine lv_iload_n F.1 F.2.1 dX0_above_31 rfl (lv_at hl 1 rfl) ?_
        refine lv_iload F.1 F.2.1 dX0_above_32 (lv_at hl 3 rfl) ?_
        obtain ⟨v6, hc5, h⟩ := bp_e h
        refine q_cl hB (q_goS F hE hB (k_X0_power hI σ0 x1 x6 hc5) (ca_RX0_36 F.2.2.2.2 ⟨Nat.le_of_ble_eq_true rfl, Nat.le_of_ble_eq_true rfl⟩) rfl hl.1 rfl (Nat.le_of_ble_eq_true rfl) dX0_above_34 ⟨Nat.le_of_ble_eq_true rfl, Nat.le_of_ble_eq_true rfl⟩) (fun H locs hB => ?_)
        refine lv_lmul F.1 F.2.1 dX0_above_37 ?_
        refine lv_bipush (v := 16) F.1 F.2.1 dX0_above_38 (by decide) ?_
        refine lv_iload_n F.1 F.2.1 dX0_above_40 rfl (lv_at hl 1 rfl) ?_
        refine lv_isub F.1 F.2.1 dX0_above_41 ?_
        refine lv_aload_n F.1 F.2.1 dX0_above_42 rfl (lv_at hl 0 rfl) ?_
        refine gf_RX0_33 F hE hB po_58 rfl dX0_above_43 ?_
        refine lv_iload F.1 F.2.1 dX0_above_46 (lv_at hl 3 rfl) ?_
        refine lv_isub F.1 F.2.1 dX0_above_48 ?_
        obtain ⟨v8, hc7, h⟩ := bp_e h
        refine q_cl hB (q_goS F hE hB (k_X0_power hI σ0 ((16 : Int32) - x1) ((σ0.1 58 2) - x6) hc7) (ca_RX0_36 F.2.2.2.2 ⟨Nat.le_of_ble_eq_true rfl, Nat.le_of_ble_eq_true rfl⟩) rfl hl.1 rfl (Nat.le_of_ble_eq_true rfl) dX0_above_49 ⟨Nat.le_of_ble_eq_true rfl, Nat.le_of_ble_eq_true rfl⟩) (fun H locs hB => ?_)
        refine lv_lmul F.1 F.2.1 dX0_above_52 ?_
        refine lv_ladd F.1 F.2.1 dX0_above_53 ?_
        refine lv_lstore (lv' := [(4, .long (x4 + (((σ0.1 60 x6.toNatClampNeg).toInt64 * v6) * v8))), (0, .ref (ad 58)), (1, .int x1), (6, .int x6)]) F.1 F.2.1 dX0_above_54 hl (by decide) rfl (fun ls hl => ?_)
        refine lv_iinc (v := (x6 + (1 : Int32))) (lv' := [(6, .int (x6 + (1 : Int32))), (4, .long (x4 + (((σ0.1 60 x6.toNatClampNeg).toInt64 * v6) * v8))), (0, .ref (ad 58)), (1, .int x1)]) F.1 F.2.1 dX0_above_56 hl (k := 3) rfl rfl (by decide) rfl (fun ls hl => ?_)
        refine lv_goto (tgt := 12) F.1 F.2.1 dX0_above_59 (by decide) ?_
        exact ih12 σ0 _ _ _ x1 (x4 + (((σ0.1 60 x6.toNatClampNeg).toInt64 * v6) * v8)) (x6 + (1 : Int32)) h hB (lv_sub hl [2, 3, 1, 0] rfl)
  unfold f_X0_above at h
  refine lv_aload_n F.1 F.2.1 dX0_above_0 rfl (lv_at hl 0 rfl) ?_
  refine lv_iload_n F.1 F.2.1 dX0_above_1 rfl (lv_at hl 2 rfl) ?_
  refine lv_iload_n F.1 F.2.1 dX0_above_2 rfl (lv_at hl 3 rfl) ?_
  obtain ⟨σ2, hc1, h⟩ := bv_e h
  refine q_cv hB (q_goV F hE hB (k_X0_countBySize hI σ0 a2 a3 hc1) (ca_RX0_29 F.2.2.2.2 ⟨Nat.le_of_ble_eq_true rfl, Nat.le_of_ble_eq_true rfl⟩) rfl po_58 rfl hl.1 rfl (Nat.le_of_ble_eq_true rfl) dX0_above_3 ⟨Nat.le_of_ble_eq_true rfl, Nat.le_of_ble_eq_true rfl⟩) (fun H locs hB => ?_)
  refine lv_lconst (v := 0) F.1 F.2.1 dX0_above_6 (by decide) ?_
  refine lv_lstore (lv' := [(4, .long (0 : Int64)), (0, .ref (ad 58)), (1, .int a1), (2, .int a2), (3, .int a3)]) F.1 F.2.1 dX0_above_7 hl (by decide) rfl (fun ls hl => ?_)
  refine lv_iconst (v := 0) F.1 F.2.1 dX0_above_9 (by decide) ?_
  refine lv_istore (lv' := [(6, .int (0 : Int32)), (4, .long (0 : Int64)), (0, .ref (ad 58)), (1, .int a1), (2, .int a2), (3, .int a3)]) F.1 F.2.1 dX0_above_10 hl (by decide) rfl (fun ls hl => ?_)
  exact B12 300 σ2 _ _ _ a1 (0 : Int64) (0 : Int32) h hB (lv_sub hl [2, 3, 1, 0] rfl)
def f_X0_below (σ0 : Mem) : Option (Int64) := (bp (f_X0_power σ0 (16 : Int32) (σ0.1 58 2)) (fun v2 => (some v2)))
set_option maxHeartbeats 4000000 in
set_option maxRecDepth 100000 in
theorem k_X0_below {l : Launch} {D : va_G} {cy : Nat → ClassId} {ad : Nat → Nat} {ta tb : Nat} (hI : AdI ad) (σ0 : Mem) {o : Int64} (h : f_X0_below σ0 = some o) : Met l yX0_below (Cond.code yX0_below cX0_below 1 (some .long) :: wG) rm_X0_below (CP D cy ad ta tb σ0 [.ref (ad 58)]) (CQl D cy ad o σ0) 0 0 (AA ad) := by
  refine Met.ofW (cc := cX0_below) (maxL := 1) (ret := (some .long)) (by decide) rfl ?_
  intro p e s m args below meth c s₁ B hml hv
  obtain ⟨rfl, hE, hP⟩ := hv
  have hts := atoms_spec (ws := Cond.code yX0_below cX0_below 1 (some .long) :: wG) B.pre
  have F : CallFix p m c cX0_below 1 s _ wG RX0 := ⟨B.exec, B.bytes, hml, findClass_of_methodNamed B.named, fun w hw => hts w (List.mem_cons_of_mem _ hw)⟩
  have hr := B.returns
  have hlocks := B.notSynchronized
  have hB : Bd D cy ad σ0 s.heap s.heap [] := ⟨hP, va_S.rf⟩
  have hl := lv_entry ([.ref (ad 58)] : List Value) (n := 1) (Nat.le_of_ble_eq_true rfl)
  rw [lg_entry_eq]
  generalize (lg_sl ([.ref (ad 58)] : List Value) ++ List.replicate (1 - (lg_sl ([.ref (ad 58)] : List Value)).length) Slot.unset).toArray = ls at hl ⊢
  have hl : lv_has ls 1 [(0, .ref (ad 58))] := hl
  unfold f_X0_below at h
  refine lv_bipush (v := 16) F.1 F.2.1 dX0_below_0 (by decide) ?_
  refine lv_aload_n F.1 F.2.1 dX0_below_2 rfl (lv_at hl 0 rfl) ?_
  refine gf_RX0_33 F hE hB po_58 rfl dX0_below_3 ?_
  obtain ⟨v2, hc1, h⟩ := bp_e h
  refine q_cl hB (q_goS F hE hB (k_X0_power hI σ0 (16 : Int32) (σ0.1 58 2) hc1) (ca_RX0_36 F.2.2.2.2 ⟨Nat.le_of_ble_eq_true rfl, Nat.le_of_ble_eq_true rfl⟩) rfl hl.1 rfl (Nat.le_of_ble_eq_true rfl) dX0_below_6 ⟨Nat.le_of_ble_eq_true rfl, Nat.le_of_ble_eq_true rfl⟩) (fun H locs hB => ?_)
  exact q_lret F hlocks hr hB (Option.some.inj h) rfl dX0_below_9
