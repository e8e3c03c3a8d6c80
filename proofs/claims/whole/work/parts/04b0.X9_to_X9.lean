def f_X9_fillBeliefs_b61 (k27 : Mem → Int32 → Option (Mem)) : Nat → Mem → Int32 → Int32 → Option (Mem)
  | 0, _, _, _ => none
  | n61 + 1, σ0, x1, x2 => (if (σ0.1 6 3) ≤ x2 then (bv (f_X8_run σ0 52) (fun σ15 => (bv (f_X0_keep σ15 x1 52) (fun σ17 => (k27 σ17 (x1 + (1 : Int32))))))) else (ck x2 8 (ck x2 8 (bp (f_X9_liftBits σ0 x2 (σ0.1 8 x2.toNatClampNeg) (σ0.1 9 x2.toNatClampNeg)) (fun v21 => (ck x2 8 (lt (ms σ0 53 x2.toNatClampNeg v21) (fun σ23 => (f_X9_fillBeliefs_b61 k27 n61 σ23 x1 (x2 + (2 : Int32)))))))))))
def f_X9_fillBeliefs_b27 : Nat → Mem → Int32 → Option (Mem)
  | 0, _, _ => none
  | n27 + 1, σ0, x1 => (if ((1 : Int32) <<< ((σ0.1 21 3) &&& 31)) ≤ x1 then (bv (f_X4_carryAll σ0) (fun σ6 => (lt (ms σ6 58 3 (1 : Int32)) (fun σ7 => (some σ7))))) else (bv (f_X4_carryOnly σ0 x1) (fun σ10 => (bv (f_X8_takeOver σ10 52 46) (fun σ12 => (f_X9_fillBeliefs_b61 (f_X9_fillBeliefs_b27 n27) 300 σ12 x1 (0 : Int32)))))))
def f_X9_fillBeliefs (σ0 : Mem) : Option (Mem) := (if (σ0.1 58 3) = (0 : Int32) then (lt (ms σ0 58 2 (σ0.1 21 3)) (fun σ2 => (f_X9_fillBeliefs_b27 300 σ2 (0 : Int32)))) else (some σ0))
set_option maxHeartbeats 4000000 in
set_option maxRecDepth 100000 in
theorem k_X9_fillBeliefs {l : Launch} {D : va_G} {cy : Nat → ClassId} {ad : Nat → Nat} {ta tb : Nat} (hI : AdI ad) (σ0 : Mem) {o : Mem} (h : f_X9_fillBeliefs σ0 = some o) : Met l yX9_fillBeliefs (Cond.code yX9_fillBeliefs cX9_fillBeliefs 3 none :: wG) rm_X9_fillBeliefs (CP D cy ad ta tb σ0 [.ref (ad 0)]) (CQv D cy ad o) 0 0 (AA ad) := by
  refine Met.ofW (cc := cX9_fillBeliefs) (maxL := 3) (ret := none) (by decide) rfl ?_
  intro p e s m args below meth c s₁ B hml hv
  obtain ⟨rfl, hE, hP⟩ := hv
  have hts := atoms_spec (ws := Cond.code yX9_fillBeliefs cX9_fillBeliefs 3 none :: wG) B.pre
  have F : CallFix p m c cX9_fillBeliefs 3 s _ wG RX9 := ⟨B.exec, B.bytes, hml, findClass_of_methodNamed B.named, fun w hw => hts w (List.mem_cons_of_mem _ hw)⟩
  have hr := B.returns
  have hlocks := B.notSynchronized
  have hB : Bd D cy ad σ0 s.heap s.heap [] := ⟨hP, va_S.rf⟩
  have hl := lv_entry ([.ref (ad 0)] : List Value) (n := 3) (Nat.le_of_ble_eq_true rfl)
  rw [lg_entry_eq]
  generalize (lg_sl ([.ref (ad 0)] : List Value) ++ List.replicate (3 - (lg_sl ([.ref (ad 0)] : List Value)).length) Slot.unset).toArray = ls at hl ⊢
  have hl : lv_has ls 3 [(0, .ref (ad 0))] := hl
  have B27 : ∀ (n27 : Nat) (σ0 : Mem) (H : Heap) (locs : List Loc) (ls : Array Slot) (x1 : Int32), f_X9_fillBeliefs_b27 n27 σ0 x1 = some o → Bd D cy ad σ0 s.heap H locs → lv_has ls 3 [(0, .ref (ad 0)), (1, .int x1)] → W p l e rm_X9_fillBeliefs s m ([.ref (ad 0)] : List Value).toArray below meth c H locs 0 0 (MQ below (CQv D cy ad o) ([.ref (ad 0)] : List Value).toArray s 0 0 (AA ad)) (F0 m 27 ls []) := by
    intro n27
    induction n27 with
    | zero => intro σ0 H locs ls x1 h hB hl; cases h
    | succ n27 ih27 =>
      have B61 : ∀ (n61 : Nat) (σ0 : Mem) (H : Heap) (locs : List Loc) (ls : Array Slot) (x1 : Int32) (x2 : Int32), f_X9_fillBeliefs_b61 (f_X9_fillBeliefs_b27 n27) n61 σ0 x1 x2 = some o → Bd D cy ad σ0 s.heap H locs → lv_has ls 3 [(0, .ref (ad 0)), (1, .int x1), (2, .int x2)] → W p l e rm_X9_fillBeliefs s m ([.ref (ad 0)] : List Value).toArray below meth c H locs 0 0 (MQ below (CQv D cy ad o) ([.ref (ad 0)] : List Value).toArray s 0 0 (AA ad)) (F0 m 61 ls []) := by
        intro n61
        induction n61 with
        | zero => intro σ0 H locs ls x1 x2 h hB hl; cases h
        | succ n61 ih61 =>
          intro σ0 H locs ls x1 x2 h hB hl
          rw [f_X9_fillBeliefs_b61] at h
          refine lv_iload_n F.1 F.2.1 dX9_fillBeliefs_61 rfl (lv_at hl 2 rfl) ?_
          refine lv_aload_n F.1 F.2.1 dX9_fillBeliefs_62 rfl (lv_at hl 0 rfl) ?_
          refine gf_RX9_18 F hE hB po_0 rfl dX9_fillBeliefs_63 ?_
          refine gf_RX9_279 F hE hB po_6 rfl dX9_fillBeliefs_66 ?_
          refine lv_icmp_ge (tgt := 110) F.1 F.2.1 dX9_fillBeliefs_69 (by decide) (fun c13 => ?_) (fun c13 => ?_)
          · replace h := it_e c13 h
            refine lv_aload_n F.1 F.2.1 dX9_fillBeliefs_110 rfl (lv_at hl 0 rfl) ?_
            refine gf_RX9_56 F hE hB po_0 rfl dX9_fillBeliefs_111 ?_
            obtain ⟨σ15, hc14, h⟩ := bv_e h
            refine q_cv hB (q_goV F hE hB (k_X8_run hI σ0 52 (Or.inr rfl) hc14) (ca_RX9_364 F.2.2.2.2 ⟨Nat.le_of_ble_eq_true rfl, Nat.le_of_ble_eq_true rfl⟩) rfl po_52 rfl hl.1 rfl (Nat.le_of_ble_eq_true rfl) dX9_fillBeliefs_114 ⟨Nat.le_of_ble_eq_true rfl, Nat.le_of_ble_eq_true rfl⟩) (fun H locs hB => ?_)
            refine lv_aload_n F.1 F.2.1 dX9_fillBeliefs_117 rfl (lv_at hl 0 rfl) ?_
            refine gf_RX9_62 F hE hB po_0 rfl dX9_fillBeliefs_118 ?_
            refine lv_iload_n F.1 F.2.1 dX9_fillBeliefs_121 rfl (lv_at hl 1 rfl) ?_
            refine lv_aload_n F.1 F.2.1 dX9_fillBeliefs_122 rfl (lv_at hl 0 rfl) ?_
            refine gf_RX9_56 F hE hB po_0 rfl dX9_fillBeliefs_123 ?_
            obtain ⟨σ17, hc16, h⟩ := bv_e h
            refine q_cv hB (q_goV F hE hB (k_X0_keep hI σ15 x1 52 (Or.inr rfl) hc16) (ca_RX9_410 F.2.2.2.2 ⟨Nat.le_of_ble_eq_true rfl, Nat.le_of_ble_eq_true rfl⟩) rfl po_58 rfl hl.1 rfl (Nat.le_of_ble_eq_true rfl) dX9_fillBeliefs_126 ⟨Nat.le_of_ble_eq_true rfl, Nat.le_of_ble_eq_true rfl⟩) (fun H locs hB => ?_)
            refine lv_iinc (v := (x1 + (1 : Int32))) (lv' := [(1, .int (x1 + (1 : Int32))), (0, .ref (ad 0)), (2, .int x2)]) F.1 F.2.1 dX9_fillBeliefs_129 hl (k := 1) rfl rfl (by decide) rfl (fun ls hl => ?_)
            refine lv_goto (tgt := 27) F.1 F.2.1 dX9_fillBeliefs_132 (by decide) ?_
            exact ih27 σ17 _ _ _ (x1 + (1 : Int32)) h hB (lv_sub hl [1, 0] rfl)
          · replace h := ie_e c13 h
            refine lv_aload_n F.1 F.2.1 dX9_fillBeliefs_72 rfl (lv_at hl 0 rfl) ?_
            refine gf_RX9_56 F hE hB po_0 rfl dX9_fillBeliefs_73 ?_
            refine gf_RX9_355 F hE hB po_52 rfl dX9_fillBeliefs_76 ?_
            refine lv_iload_n F.1 F.2.1 dX9_fillBeliefs_79 rfl (lv_at hl 2 rfl) ?_
            refine lv_aload_n F.1 F.2.1 dX9_fillBeliefs_80 rfl (lv_at hl 0 rfl) ?_
            refine lv_iload_n F.1 F.2.1 dX9_fillBeliefs_81 rfl (lv_at hl 2 rfl) ?_
            refine lv_aload_n F.1 F.2.1 dX9_fillBeliefs_82 rfl (lv_at hl 0 rfl) ?_
            refine gf_RX9_18 F hE hB po_0 rfl dX9_fillBeliefs_83 ?_
            refine gf_RX9_358 F hE hB po_6 rfl dX9_fillBeliefs_86 ?_
            refine lv_iload_n F.1 F.2.1 dX9_fillBeliefs_89 rfl (lv_at hl 2 rfl) ?_
            obtain ⟨hi18, h⟩ := ck_e h
            refine q_iald F hE hB po_8 hi18 dX9_fillBeliefs_90 ?_
            refine lv_aload_n F.1 F.2.1 dX9_fillBeliefs_91 rfl (lv_at hl 0 rfl) ?_
            refine gf_RX9_18 F hE hB po_0 rfl dX9_fillBeliefs_92 ?_
            refine gf_RX9_217 F hE hB po_6 rfl dX9_fillBeliefs_95 ?_
            refine lv_iload_n F.1 F.2.1 dX9_fillBeliefs_98 rfl (lv_at hl 2 rfl) ?_
            obtain ⟨hi19, h⟩ := ck_e h
            refine q_iald F hE hB po_9 hi19 dX9_fillBeliefs_99 ?_
            obtain ⟨v21, hc20, h⟩ := bp_e h
            refine q_ci hB (q_goV F hE hB (k_X9_liftBits hI σ0 x2 (σ0.1 8 x2.toNatClampNeg) (σ0.1 9 x2.toNatClampNeg) hc20) (ca_RX9_361 F.2.2.2.2 ⟨Nat.le_of_ble_eq_true rfl, Nat.le_of_ble_eq_true rfl⟩) rfl po_0 rfl hl.1 rfl (Nat.le_of_ble_eq_true rfl) dX9_fillBeliefs_100 ⟨Nat.le_of_ble_eq_true rfl, Nat.le_of_ble_eq_true rfl⟩) (fun H locs hB => ?_)
            obtain ⟨hi22, h⟩ := ck_e h
            obtain ⟨σ23, e24, h⟩ := lt_e h
            refine q_iast F hE hI hB row_53 hi22 dX9_fillBeliefs_103 e24 (fun H locs hB => ?_)
            refine lv_iinc (v := (x2 + (2 : Int32))) (lv' := [(2, .int (x2 + (2 : Int32))), (0, .ref (ad 0)), (1, .int x1)]) F.1 F.2.1 dX9_fillBeliefs_104 hl (k := 2) rfl rfl (by decide) rfl (fun ls hl => ?_)
            refine lv_goto (tgt := 61) F.1 F.2.1 dX9_fillBeliefs_107 (by decide) ?_
            exact ih61 σ23 _ _ _ x1 (x2 + (2 : Int32)) h hB (lv_sub hl [1, 2, 0] rfl)
      intro σ0 H locs ls x1 h hB hl
      rw [f_X9_fillBeliefs_b27] at h
      refine lv_iload_n F.1 F.2.1 dX9_fillBeliefs_27 rfl (lv_at hl 1 rfl) ?_
      refine lv_iconst (v := 1) F.1 F.2.1 dX9_fillBeliefs_28 (by decide) ?_
      refine lv_aload_n F.1 F.2.1 dX9_fillBeliefs_29 rfl (lv_at hl 0 rfl) ?_
      refine gf_RX9_32 F hE hB po_0 rfl dX9_fillBeliefs_30 ?_
      refine gf_RX9_134 F hE hB po_21 rfl dX9_fillBeliefs_33 ?_
      refine lv_ishl F.1 F.2.1 dX9_fillBeliefs_36 ?_
      refine lv_icmp_ge (tgt := 135) F.1 F.2.1 dX9_fillBeliefs_37 (by decide) (fun c4 => ?_) (fun c4 => ?_)
      · replace h := it_e c4 h
        refine lv_aload_n F.1 F.2.1 dX9_fillBeliefs_135 rfl (lv_at hl 0 rfl) ?_
        refine gf_RX9_32 F hE hB po_0 rfl dX9_fillBeliefs_136 ?_
        obtain ⟨σ6, hc5, h⟩ := bv_e h
        refine q_cv hB (q_goV F hE hB (k_X4_carryAll hI σ0 hc5) (ca_RX9_414 F.2.2.2.2 ⟨Nat.le_of_ble_eq_true rfl, Nat.le_of_ble_eq_true rfl⟩) rfl po_21 rfl hl.1 rfl (Nat.le_of_ble_eq_true rfl) dX9_fillBeliefs_139 ⟨Nat.le_of_ble_eq_true rfl, Nat.le_of_ble_eq_true rfl⟩) (fun H locs hB => ?_)
        refine lv_aload_n F.1 F.2.1 dX9_fillBeliefs_142 rfl (lv_at hl 0 rfl) ?_
        refine gf_RX9_62 F hE hB po_0 rfl dX9_fillBeliefs_143 ?_
        refine lv_iconst (v := 1) F.1 F.2.1 dX9_fillBeliefs_146 (by decide) ?_
        obtain ⟨σ7, e8, h⟩ := lt_e h
        refine pf_RX9_345 F hE hI hB po_58 rfl rfl (Nat.le_of_ble_eq_true rfl) rfl dX9_fillBeliefs_147 e8 (fun H locs hB => ?_)
        exact q_vret F hlocks hr hB (Option.some.inj h) dX9_fillBeliefs_150
      · replace h := ie_e c4 h
        refine lv_aload_n F.1 F.2.1 dX9_fillBeliefs_40 rfl (lv_at hl 0 rfl) ?_
        refine gf_RX9_32 F hE hB po_0 rfl dX9_fillBeliefs_41 ?_
        refine lv_iload_n F.1 F.2.1 dX9_fillBeliefs_44 rfl (lv_at hl 1 rfl) ?_
        obtain ⟨σ10, hc9, h⟩ := bv_e h
        refine q_cv hB (q_goV F hE hB (k_X4_carryOnly hI σ0 x1 hc9) (ca_RX9_407 F.2.2.2.2 ⟨Nat.le_of_ble_eq_true rfl, Nat.le_of_ble_eq_true rfl⟩) rfl po_21 rfl hl.1 rfl (Nat.le_of_ble_eq_true rfl) dX9_fillBeliefs_45 ⟨Nat.le_of_ble_eq_true rfl, Nat.le_of_ble_eq_true rfl⟩) (fun H locs hB => ?_)
        refine lv_aload_n F.1 F.2.1 dX9_fillBeliefs_48 rfl (lv_at hl 0 rfl) ?_
        refine gf_RX9_56 F hE hB po_0 rfl dX9_fillBeliefs_49 ?_
        refine lv_aload_n F.1 F.2.1 dX9_fillBeliefs_52 rfl (lv_at hl 0 rfl) ?_
        refine gf_RX9_52 F hE hB po_0 rfl dX9_fillBeliefs_53 ?_
        obtain ⟨σ12, hc11, h⟩ := bv_e h
        refine q_cv hB (q_goV F hE hB (k_X8_takeOver hI σ10 52 (Or.inr rfl) 46 (Or.inl rfl) hc11) (ca_RX9_375 F.2.2.2.2 ⟨Nat.le_of_ble_eq_true rfl, Nat.le_of_ble_eq_true rfl⟩) rfl po_52 rfl hl.1 rfl (Nat.le_of_ble_eq_true rfl) dX9_fillBeliefs_56 ⟨Nat.le_of_ble_eq_true rfl, Nat.le_of_ble_eq_true rfl⟩) (fun H locs hB => ?_)
        refine lv_iconst (v := 0) F.1 F.2.1 dX9_fillBeliefs_59 (by decide) ?_
        refine lv_istore_n (lv' := [(2, .int (0 : Int32)), (0, .ref (ad 0)), (1, .int x1)]) F.1 F.2.1 dX9_fillBeliefs_60 rfl hl (by decide) rfl (fun ls hl => ?_)
        exact B61 300 σ12 _ _ _ x1 (0 : Int32) h hB (lv_sub hl [1, 2, 0] rfl)
  unfold f_X9_fillBeliefs at h
  refine lv_aload_n F.1 F.2.1 dX9_fillBeliefs_0 rfl (lv_at hl 0 rfl) ?_
  refine gf_RX9_62 F hE hB po_0 rfl dX9_fillBeliefs_1 ?_
  refine gf_RX9_345 F hE hB po_58 rfl dX9_fillBeliefs_4 ?_
  refine lv_if_eq (tgt := 11) F.1 F.2.1 dX9_fillBeliefs_7 (by decide) (fun c1 => ?_) (fun c1 => ?_)
  · replace h := it_e c1 h
    refine lv_aload_n F.1 F.2.1 dX9_fillBeliefs_11 rfl (lv_at hl 0 rfl) ?_
    refine gf_RX9_62 F hE hB po_0 rfl dX9_fillBeliefs_12 ?_
    refine lv_aload_n F.1 F.2.1 dX9_fillBeliefs_15 rfl (lv_at hl 0 rfl) ?_
    refine gf_RX9_32 F hE hB po_0 rfl dX9_fillBeliefs_16 ?_
    refine gf_RX9_134 F hE hB po_21 rfl dX9_fillBeliefs_19 ?_
    obtain ⟨σ2, e3, h⟩ := lt_e h
    refine pf_RX9_404 F hE hI hB po_58 rfl rfl (Nat.le_of_ble_eq_true rfl) rfl dX9_fillBeliefs_22 e3 (fun H locs hB => ?_)
    refine lv_iconst (v := 0) F.1 F.2.1 dX9_fillBeliefs_25 (by decide) ?_
    refine lv_istore_n (lv' := [(1, .int (0 : Int32)), (0, .ref (ad 0))]) F.1 F.2.1 dX9_fillBeliefs_26 rfl hl (by decide) rfl (fun ls hl => ?_)
    exact B27 300 σ2 _ _ _ (0 : Int32) h hB (lv_sub hl [1, 0] rfl)
  · replace h := ie_e c1 h
    exact q_vret F hlocks hr hB (Option.some.inj h) dX9_fillBeliefs_10
def f_X9_believed_b35 (σ0 : Mem) : Option (Int64 × Mem) := (some ((-9223372036854775806 : Int64), σ0))
def f_X9_believed_b101 (σ0 : Mem) (x4 : Int32) (x5 : Int64) (x7 : Int64) : Option (Int64 × Mem) := (if x4 = (0 : Int32) then (some (x5, σ0)) else (some (x7, σ0)))
def f_X9_believed_b64 : Nat → Mem → Int32 → Int64 → Int64 → Option (Int64 × Mem)
  | 0, _, _, _, _ => none
  | n64 + 1, σ0, x4, x5, x7 => (if (lg_cmp x7 (1 : Int64)) ≤ (0 : Int32) then (f_X9_believed_b101 σ0 x4 x5 x7) else (if (lg_cmp (x5 - x5 / (2 : Int64) * (2 : Int64)) (0 : Int64)) = (0 : Int32) then (f_X9_believed_b64 n64 σ0 x4 (x5 / (2 : Int64)) (x7 / (2 : Int64))) else (f_X9_believed_b101 σ0 x4 x5 x7)))
def f_X9_believed (σ0 : Mem) (a1 : Int32) (a2 : Int32) (a3 : Int32) (a4 : Int32) : Option (Int64 × Mem) := (bp (f_X9_isWithin σ0 a1 (17 : Int32)) (fun v2 => (if v2 = (0 : Int32) then (f_X9_believed_b35 σ0) else (bp (f_X9_isBoat σ0 a2) (fun v5 => (if v5 = (0 : Int32) then (f_X9_believed_b35 σ0) else (bp (f_X9_isWithin σ0 a3 (100 : Int32)) (fun v8 => (if v8 = (0 : Int32) then (f_X9_believed_b35 σ0) else (bp (f_X9_isWithin σ0 a4 (2 : Int32)) (fun v11 => (if v11 = (0 : Int32) then (f_X9_believed_b35 σ0) else (bv (f_X9_fillBeliefs σ0) (fun σ14 => (bi (f_X0_above σ14 a1 a2 a3) (fun v17 σ16 => (bp (f_X0_below σ16) (fun v19 => (f_X9_believed_b64 300 σ16 a4 v17 v19)))))))))))))))))))
set_option maxHeartbeats 4000000 in
set_option maxRecDepth 100000 in
theorem k_X9_believed {l : Launch} {D : va_G} {cy : Nat → ClassId} {ad : Nat → Nat} {ta tb : Nat} (hI : AdI ad) (σ0 : Mem) (a1 : Int32) (a2 : Int32) (a3 : Int32) (a4 : Int32) {o : Int64 × Mem} (h : f_X9_believed σ0 a1 a2 a3 a4 = some o) : Met l yX9_believed (Cond.code yX9_believed cX9_believed 9 (some .long) :: wG) rm_X9_believed (CP D cy ad ta tb σ0 [.ref (ad 0), .int a1, .int a2, .int a3, .int a4]) (CQl D cy ad o.1 o.2) 0 0 (AA ad) := by
  refine Met.ofW (cc := cX9_believed) (maxL := 9) (ret := (some .long)) (by decide) rfl ?_
  intro p e s m args below meth c s₁ B hml hv
  obtain ⟨rfl, hE, hP⟩ := hv
  have hts := atoms_spec (ws := Cond.code yX9_believed cX9_believed 9 (some .long) :: wG) B.pre
  have F : CallFix p m c cX9_believed 9 s _ wG RX9 := ⟨B.exec, B.bytes, hml, findClass_of_methodNamed B.named, fun w hw => hts w (List.mem_cons_of_mem _ hw)⟩
  have hr := B.returns
  have hlocks := B.notSynchronized
  have hB : Bd D cy ad σ0 s.heap s.heap [] := ⟨hP, va_S.rf⟩
  have hl := lv_entry ([.ref (ad 0), .int a1, .int a2, .int a3, .int a4] : List Value) (n := 9) (Nat.le_of_ble_eq_true rfl)
  rw [lg_entry_eq]
  generalize (lg_sl ([.ref (ad 0), .int a1, .int a2, .int a3, .int a4] : List Value) ++ List.replicate (9 - (lg_sl ([.ref (ad 0), .int a1, .int a2, .int a3, .int a4] : List Value)).length) Slot.unset).toArray = ls at hl ⊢
  have hl : lv_has ls 9 [(0, .ref (ad 0)), (1, .int a1), (2, .int a2), (3, .int a3), (4, .int a4)] := hl
  have B35 : ∀ (σ0 : Mem) (H : Heap) (locs : List Loc) (ls : Array Slot), f_X9_believed_b35 σ0 = some o → Bd D cy ad σ0 s.heap H locs → lv_has ls 9 [] → W p l e rm_X9_believed s m ([.ref (ad 0), .int a1, .int a2, .int a3, .int a4] : List Value).toArray below meth c H locs 0 0 (MQ below (CQl D cy ad o.1 o.2) ([.ref (ad 0), .int a1, .int a2, .int a3, .int a4] : List Value).toArray s 0 0 (AA ad)) (F0 m 35 ls []) := by
    intro σ0 H locs ls h hB hl
    unfold f_X9_believed_b35 at h
    refine lv_ldc2 (v := (-9223372036854775806)) F.1 F.2.1 F.2.2.2.1 (F.2.2.2.2 _ wm_k_RX9_230) dX9_believed_35 ?_
    exact q_lret F hlocks hr hB (so1 h) (so2 h) dX9_believed_38
  have B101 : ∀ (σ0 : Mem) (H : Heap) (locs : List Loc) (ls : Array Slot) (x4 : Int32) (x5 : Int64) (x7 : Int64), f_X9_believed_b101 σ0 x4 x5 x7 = some o → Bd D cy ad σ0 s.heap H locs → lv_has ls 9 [(4, .int x4), (5, .long x5), (7, .long x7)] → W p l e rm_X9_believed s m ([.ref (ad 0), .int a1, .int a2, .int a3, .int a4] : List Value).toArray below meth c H locs 0 0 (MQ below (CQl D cy ad o.1 o.2) ([.ref (ad 0), .int a1, .int a2, .int a3, .int a4] : List Value).toArray s 0 0 (AA ad)) (F0 m 101 ls []) := by
    intro σ0 H locs ls x4 x5 x7 h hB hl
    unfold f_X9_believed_b101 at h
    refine lv_iload F.1 F.2.1 dX9_believed_101 (lv_at hl 0 rfl) ?_
    refine lv_if_ne (tgt := 111) F.1 F.2.1 dX9_believed_103 (by decide) (fun c21 => ?_) (fun c21 => ?_)
    · replace h := ie_e c21 h
      refine lv_lload F.1 F.2.1 dX9_believed_111 (lv_at hl 2 rfl) ?_
      exact q_lret F hlocks hr hB (so1 h) (so2 h) dX9_believed_113
    · replace h := it_e c21 h
      refine lv_lload F.1 F.2.1 dX9_believed_106 (lv_at hl 1 rfl) ?_
      refine lv_goto (tgt := 113) F.1 F.2.1 dX9_believed_108 (by decide) ?_
      exact q_lret F hlocks hr hB (so1 h) (so2 h) dX9_believed_113
  have B64 : ∀ (n64 : Nat) (σ0 : Mem) (H : Heap) (locs : List Loc) (ls : Array Slot) (x4 : Int32) (x5 : Int64) (x7 : Int64), f_X9_believed_b64 n64 σ0 x4 x5 x7 = some o → Bd D cy ad σ0 s.heap H locs → lv_has ls 9 [(4, .int x4), (5, .long x5), (7, .long x7)] → W p l e rm_X9_believed s m ([.ref (ad 0), .int a1, .int a2, .int a3, .int a4] : List Value).toArray below meth c H locs 0 0 (MQ below (CQl D cy ad o.1 o.2) ([.ref (ad 0), .int a1, .int a2, .int a3, .int a4] : List Value).toArray s 0 0 (AA ad)) (F0 m 64 ls []) := by
    intro n64
    induction n64 with
    | zero => intro σ0 H locs ls x4 x5 x7 h hB hl; cases h
    | succ n64 ih64 =>
      intro σ0 H locs ls x4 x5 x7 h hB hl
      rw [f_X9_believed_b64] at h
      refine lv_lload F.1 F.2.1 dX9_believed_64 (lv_at hl 2 rfl) ?_
      refine lv_lconst (v := 1) F.1 F.2.1 dX9_believed_66 (by decide) ?_
      refine W.lcmp F.1 F.2.1 dX9_believed_67 ?_
      refine lv_if_le (tgt := 101) F.1 F.2.1 dX9_believed_68 (by decide) (fun c20 => ?_) (fun c20 => ?_)
      · replace h := it_e c20 h
        exact B101 σ0 _ _ _ x4 x5 x7 h hB (lv_sub hl [0, 1, 2] rfl)
      · replace h := ie_e c20 h
        refine lv_lload F.1 F.2.1 dX9_believed_71 (lv_at hl 1 rfl) ?_
        refine lv_ldc2 (v := 2) F.1 F.2.1 F.2.2.2.1 (F.2.2.2.2 _ wm_k_RX9_243) dX9_believed_73 ?_
        refine lv_lrem F.1 F.2.1 dX9_believed_76 (by decide) ?_
        refine lv_lconst (v := 0) F.1 F.2.1 dX9_believed_77 (by decide) ?_
        refine W.lcmp F.1 F.2.1 dX9_believed_78 ?_
        refine lv_if_ne (tgt := 101) F.1 F.2.1 dX9_believed_79 (by decide) (fun c22 => ?_) (fun c22 => ?_)
        · replace h := ie_e c22 h
          exact B101 σ0 _ _ _ x4 x5 x7 h hB (lv_sub hl [0, 1, 2] rfl)
        · replace h := it_e c22 h
          refine lv_lload F.1 F.2.1 dX9_believed_82 (lv_at hl 1 rfl) ?_
          refine lv_ldc2 (v := 2) F.1 F.2.1 F.2.2.2.1 (F.2.2.2.2 _ wm_k_RX9_243) dX9_believed_84 ?_
          refine lv_ldiv F.1 F.2.1 dX9_believed_87 (by decide) ?_
          refine lv_lstore (lv' := [(5, .long (x5 / (2 : Int64))), (4, .int x4), (7, .long x7)]) F.1 F.2.1 dX9_believed_88 hl (by decide) rfl (fun ls hl => ?_)
          refine lv_lload F.1 F.2.1 dX9_believed_90 (lv_at hl 2 rfl) ?_
          refine lv_ldc2 (v := 2) F.1 F.2.1 F.2.2.2.1 (F.2.2.2.2 _ wm_k_RX9_243) dX9_believed_92 ?_
          refine lv_ldiv F.1 F.2.1 dX9_believed_95 (by decide) ?_
          refine lv_lstore (lv' := [(7, .long (x7 / (2 : Int64))), (5, .long (x5 / (2 : Int64))), (4, .int x4)]) F.1 F.2.1 dX9_believed_96 hl (by decide) rfl (fun ls hl => ?_)
          refine lv_goto (tgt := 64) F.1 F.2.1 dX9_believed_98 (by decide) ?_
          exact ih64 σ0 _ _ _ x4 (x5 / (2 : Int64)) (x7 / (2 : Int64)) h hB (lv_sub hl [2, 1, 0] rfl)
  unfold f_X9_believed at h
  refine lv_iload_n F.1 F.2.1 dX9_believed_0 rfl (lv_at hl 1 rfl) ?_
  refine lv_bipush (v := 17) F.1 F.2.1 dX9_believed_1 (by decide) ?_
  obtain ⟨v2, hc1, h⟩ := bp_e h
  refine q_ci hB (q_goS F hE hB (k_X9_isWithin hI σ0 a1 (17 : Int32) hc1) (ca_RX9_84 F.2.2.2.2 ⟨Nat.le_of_ble_eq_true rfl, Nat.le_of_ble_eq_true rfl⟩) rfl hl.1 rfl (Nat.le_of_ble_eq_true rfl) dX9_believed_3 ⟨Nat.le_of_ble_eq_true rfl, Nat.le_of_ble_eq_true rfl⟩) (fun H locs hB => ?_)
  refine lv_if_eq (tgt := 35) F.1 F.2.1 dX9_believed_6 (by decide) (fun c3 => ?_) (fun c3 => ?_)
  · replace h := it_e c3 h
    exact B35 σ0 _ _ _ h hB (lv_sub hl [] rfl)
  · replace h := ie_e c3 h
    refine lv_aload_n F.1 F.2.1 dX9_believed_9 rfl (lv_at hl 0 rfl) ?_
    refine lv_iload_n F.1 F.2.1 dX9_believed_10 rfl (lv_at hl 2 rfl) ?_
    obtain ⟨v5, hc4, h⟩ := bp_e h
    refine q_ci hB (q_goV F hE hB (k_X9_isBoat hI σ0 a2 hc4) (ca_RX9_114 F.2.2.2.2 ⟨Nat.le_of_ble_eq_true rfl, Nat.le_of_ble_eq_true rfl⟩) rfl po_0 rfl hl.1 rfl (Nat.le_of_ble_eq_true rfl) dX9_believed_11 ⟨Nat.le_of_ble_eq_true rfl, Nat.le_of_ble_eq_true rfl⟩) (fun H locs hB => ?_)
    refine lv_if_eq (tgt := 35) F.1 F.2.1 dX9_believed_14 (by decide) (fun c6 => ?_) (fun c6 => ?_)
    · replace h := it_e c6 h
      exact B35 σ0 _ _ _ h hB (lv_sub hl [] rfl)
    · replace h := ie_e c6 h
      refine lv_iload_n F.1 F.2.1 dX9_believed_17 rfl (lv_at hl 3 rfl) ?_
      refine lv_bipush (v := 100) F.1 F.2.1 dX9_believed_18 (by decide) ?_
      obtain ⟨v8, hc7, h⟩ := bp_e h
      refine q_ci hB (q_goS F hE hB (k_X9_isWithin hI σ0 a3 (100 : Int32) hc7) (ca_RX9_84 F.2.2.2.2 ⟨Nat.le_of_ble_eq_true rfl, Nat.le_of_ble_eq_true rfl⟩) rfl hl.1 rfl (Nat.le_of_ble_eq_true rfl) dX9_believed_20 ⟨Nat.le_of_ble_eq_true rfl, Nat.le_of_ble_eq_true rfl⟩) (fun H locs hB => ?_)
      refine lv_if_eq (tgt := 35) F.1 F.2.1 dX9_believed_23 (by decide) (fun c9 => ?_) (fun c9 => ?_)
      · replace h := it_e c9 h
        exact B35 σ0 _ _ _ h hB (lv_sub hl [] rfl)
      · replace h := ie_e c9 h
        refine lv_iload F.1 F.2.1 dX9_believed_26 (lv_at hl 4 rfl) ?_
        refine lv_iconst (v := 2) F.1 F.2.1 dX9_believed_28 (by decide) ?_
        obtain ⟨v11, hc10, h⟩ := bp_e h
        refine q_ci hB (q_goS F hE hB (k_X9_isWithin hI σ0 a4 (2 : Int32) hc10) (ca_RX9_84 F.2.2.2.2 ⟨Nat.le_of_ble_eq_true rfl, Nat.le_of_ble_eq_true rfl⟩) rfl hl.1 rfl (Nat.le_of_ble_eq_true rfl) dX9_believed_29 ⟨Nat.le_of_ble_eq_true rfl, Nat.le_of_ble_eq_true rfl⟩) (fun H locs hB => ?_)
        refine lv_if_ne (tgt := 39) F.1 F.2.1 dX9_believed_32 (by decide) (fun c12 => ?_) (fun c12 => ?_)
        · replace h := ie_e c12 h
          refine lv_aload_n F.1 F.2.1 dX9_believed_39 rfl (lv_at hl 0 rfl) ?_
          obtain ⟨σ14, hc13, h⟩ := bv_e h
          refine q_cv hB (q_goV F hE hB (k_X9_fillBeliefs hI σ0 hc13) (ca_RX9_232 F.2.2.2.2 ⟨Nat.le_of_ble_eq_true rfl, Nat.le_of_ble_eq_true rfl⟩) rfl po_0 rfl hl.1 rfl (Nat.le_of_ble_eq_true rfl) dX9_believed_40 ⟨Nat.le_of_ble_eq_true rfl, Nat.le_of_ble_eq_true rfl⟩) (fun H locs hB => ?_)
          refine lv_aload_n F.1 F.2.1 dX9_believed_43 rfl (lv_at hl 0 rfl) ?_
          refine gf_RX9_62 F hE hB po_0 rfl dX9_believed_44 ?_
          refine lv_iload_n F.1 F.2.1 dX9_believed_47 rfl (lv_at hl 1 rfl) ?_
          refine lv_iload_n F.1 F.2.1 dX9_believed_48 rfl (lv_at hl 2 rfl) ?_
          refine lv_iload_n F.1 F.2.1 dX9_believed_49 rfl (lv_at hl 3 rfl) ?_
          obtain ⟨v17, σ16, hc15, h⟩ := bi_e h
          refine q_cl hB (q_goV F hE hB (k_X0_above hI σ14 a1 a2 a3 hc15) (ca_RX9_235 F.2.2.2.2 ⟨Nat.le_of_ble_eq_true rfl, Nat.le_of_ble_eq_true rfl⟩) rfl po_58 rfl hl.1 rfl (Nat.le_of_ble_eq_true rfl) dX9_believed_50 ⟨Nat.le_of_ble_eq_true rfl, Nat.le_of_ble_eq_true rfl⟩) (fun H locs hB => ?_)
          refine lv_lstore (lv' := [(5, .long v17), (0, .ref (ad 0)), (1, .int a1), (2, .int a2), (3, .int a3), (4, .int a4)]) F.1 F.2.1 dX9_believed_53 hl (by decide) rfl (fun ls hl => ?_)
          refine lv_aload_n F.1 F.2.1 dX9_believed_55 rfl (lv_at hl 1 rfl) ?_
          refine gf_RX9_62 F hE hB po_0 rfl dX9_believed_56 ?_
          obtain ⟨v19, hc18, h⟩ := bp_e h
          refine q_cl hB (q_goV F hE hB (k_X0_below hI σ16 hc18) (ca_RX9_239 F.2.2.2.2 ⟨Nat.le_of_ble_eq_true rfl, Nat.le_of_ble_eq_true rfl⟩) rfl po_58 rfl hl.1 rfl (Nat.le_of_ble_eq_true rfl) dX9_believed_59 ⟨Nat.le_of_ble_eq_true rfl, Nat.le_of_ble_eq_true rfl⟩) (fun H locs hB => ?_)
          refine lv_lstore (lv' := [(7, .long v19), (5, .long v17), (0, .ref (ad 0)), (1, .int a1), (2, .int a2), (3, .int a3), (4, .int a4)]) F.1 F.2.1 dX9_believed_62 hl (by decide) rfl (fun ls hl => ?_)
          exact B64 300 σ16 _ _ _ a4 v17 v19 h hB (lv_sub hl [6, 1, 0] rfl)
        · replace h := it_e c12 h
          exact B35 σ0 _ _ _ h hB (lv_sub hl [] rfl)
def f_X9_drawLoad_b13 : Nat → Mem → Int32 → Int32 → Int32 → Option (Mem)
  | 0, _, _, _, _ => none
  | n13 + 1, σ0, x2, x3, x4 => (if x2 ≤ x4 then (some σ0) else (ck ((((((1103515245 : Int32) * x3) + (12345 : Int32)).toUInt32 >>> ((16 : Int32).toUInt32 &&& Int32.toUInt32 31)).toInt32) - (((((1103515245 : Int32) * x3) + (12345 : Int32)).toUInt32 >>> ((16 : Int32).toUInt32 &&& Int32.toUInt32 31)).toInt32) / (6 : Int32) * (6 : Int32)) 6 (ck ((((((1103515245 : Int32) * x3) + (12345 : Int32)).toUInt32 >>> ((16 : Int32).toUInt32 &&& Int32.toUInt32 31)).toInt32) - (((((1103515245 : Int32) * x3) + (12345 : Int32)).toUInt32 >>> ((16 : Int32).toUInt32 &&& Int32.toUInt32 31)).toInt32) / (6 : Int32) * (6 : Int32)) 6 (lt (ms σ0 62 ((((((1103515245 : Int32) * x3) + (12345 : Int32)).toUInt32 >>> ((16 : Int32).toUInt32 &&& Int32.toUInt32 31)).toInt32) - (((((1103515245 : Int32) * x3) + (12345 : Int32)).toUInt32 >>> ((16 : Int32).toUInt32 &&& Int32.toUInt32 31)).toInt32) / (6 : Int32) * (6 : Int32)).toNatClampNeg ((σ0.1 62 ((((((1103515245 : Int32) * x3) + (12345 : Int32)).toUInt32 >>> ((16 : Int32).toUInt32 &&& Int32.toUInt32 31)).toInt32) - (((((1103515245 : Int32) * x3) + (12345 : Int32)).toUInt32 >>> ((16 : Int32).toUInt32 &&& Int32.toUInt32 31)).toInt32) / (6 : Int32) * (6 : Int32)).toNatClampNeg) + (1 : Int32))) (fun σ6 => (f_X9_drawLoad_b13 n13 σ6 x2 (((1103515245 : Int32) * x3) + (12345 : Int32)) (x4 + (1 : Int32))))))))
def f_X9_drawLoad (σ0 : Mem) (a1 : Int32) (a2 : Int32) : Option (Mem) := (bv (f_J7_fill_53178 σ0 62 6 (0 : Int32)) (fun σ2 => (f_X9_drawLoad_b13 300 σ2 a2 a1 (0 : Int32))))
set_option maxHeartbeats 4000000 in
set_option maxRecDepth 100000 in
theorem k_X9_drawLoad {l : Launch} {D : va_G} {cy : Nat → ClassId} {ad : Nat → Nat} {ta tb : Nat} (hI : AdI ad) (σ0 : Mem) (a1 : Int32) (a2 : Int32) {o : Mem} (h : f_X9_drawLoad σ0 a1 a2 = some o) : Met l yX9_drawLoad (Cond.code yX9_drawLoad cX9_drawLoad 5 none :: wG) rm_X9_drawLoad (CP D cy ad ta tb σ0 [.ref (ad 0), .int a1, .int a2]) (CQv D cy ad o) 0 0 (AA ad) := by
  refine Met.ofW (cc := cX9_drawLoad) (maxL := 5) (ret := none) (by decide) rfl ?_
  intro p e s m args below meth c s₁ B hml hv
  obtain ⟨rfl, hE, hP⟩ := hv
  have hts := atoms_spec (ws := Cond.code yX9_drawLoad cX9_drawLoad 5 none :: wG) B.pre
  have F : CallFix p m c cX9_drawLoad 5 s _ wG RX9 := ⟨B.exec, B.bytes, hml, findClass_of_methodNamed B.named, fun w hw => hts w (List.mem_cons_of_mem _ hw)⟩
  have hr := B.returns
  have hlocks := B.notSynchronized
  have hB : Bd D cy ad σ0 s.heap s.heap [] := ⟨hP, va_S.rf⟩
  have hl := lv_entry ([.ref (ad 0), .int a1, .int a2] : List Value) (n := 5) (Nat.le_of_ble_eq_true rfl)
  rw [lg_entry_eq]
  generalize (lg_sl ([.ref (ad 0), .int a1, .int a2] : List Value) ++ List.replicate (5 - (lg_sl ([.ref (ad 0), .int a1, .int a2] : List Value)).length) Slot.unset).toArray = ls at hl ⊢
  have hl : lv_has ls 5 [(0, .ref (ad 0)), (1, .int a1), (2, .int a2)] := hl
  have B13 : ∀ (n13 : Nat) (σ0 : Mem) (H : Heap) (locs : List Loc) (ls : Array Slot) (x2 : Int32) (x3 : Int32) (x4 : Int32), f_X9_drawLoad_b13 n13 σ0 x2 x3 x4 = some o → Bd D cy ad σ0 s.heap H locs → lv_has ls 5 [(0, .ref (ad 0)), (2, .int x2), (3, .int x3), (4, .int x4)] → W p l e rm_X9_drawLoad s m ([.ref (ad 0), .int a1, .int a2] : List Value).toArray below meth c H locs 0 0 (MQ below (CQv D cy ad o) ([.ref (ad 0), .int a1, .int a2] : List Value).toArray s 0 0 (AA ad)) (F0 m 13 ls []) := by
    intro n13
    induction n13 with
    | zero => intro σ0 H locs ls x2 x3 x4 h hB hl; cases h
    | succ n13 ih13 =>
      intro σ0 H locs ls x2 x3 x4 h hB hl
      rw [f_X9_drawLoad_b13] at h
      refine lv_iload F.1 F.2.1 dX9_drawLoad_13 (lv_at hl 3 rfl) ?_
      refine lv_iload_n F.1 F.2.1 dX9_drawLoad_15 rfl (lv_at hl 1 rfl) ?_
      refine lv_icmp_ge (tgt := 51) F.1 F.2.1 dX9_drawLoad_16 (by decide) (fun c3 => ?_) (fun c3 => ?_)
      · replace h := it_e c3 h
        exact q_vret F hlocks hr hB (Option.some.inj h) dX9_drawLoad_51
      · replace h := ie_e c3 h
        refine lv_ldcw (v := 1103515245) F.1 F.2.1 F.2.2.2.1 (F.2.2.2.2 _ wm_k_RX9_374) dX9_drawLoad_19 ?_
        refine lv_iload_n F.1 F.2.1 dX9_drawLoad_22 rfl (lv_at hl 2 rfl) ?_
        refine lv_imul F.1 F.2.1 dX9_drawLoad_23 ?_
        refine lv_sipush (v := 12345) F.1 F.2.1 dX9_drawLoad_24 (by decide) ?_
        refine lv_iadd F.1 F.2.1 dX9_drawLoad_27 ?_
        refine lv_istore_n (lv' := [(3, .int (((1103515245 : Int32) * x3) + (12345 : Int32))), (0, .ref (ad 0)), (2, .int x2), (4, .int x4)]) F.1 F.2.1 dX9_drawLoad_28 rfl hl (by decide) rfl (fun ls hl => ?_)
        refine lv_aload_n F.1 F.2.1 dX9_drawLoad_29 rfl (lv_at hl 1 rfl) ?_
        refine gf_RX9_73 F hE hB po_0 rfl dX9_drawLoad_30 ?_
        refine lv_iload_n F.1 F.2.1 dX9_drawLoad_33 rfl (lv_at hl 0 rfl) ?_
        refine lv_bipush (v := 16) F.1 F.2.1 dX9_drawLoad_34 (by decide) ?_
        refine lv_iushr F.1 F.2.1 dX9_drawLoad_36 rfl ?_
        refine lv_bipush (v := 6) F.1 F.2.1 dX9_drawLoad_37 (by decide) ?_
        refine lv_irem F.1 F.2.1 dX9_drawLoad_39 (by decide) ?_
        refine lv_dup2_11 F.1 F.2.1 dX9_drawLoad_40 rfl rfl ?_
        obtain ⟨hi4, h⟩ := ck_e h
        refine q_iald F hE hB po_62 hi4 dX9_drawLoad_41 ?_
        refine lv_iconst (v := 1) F.1 F.2.1 dX9_drawLoad_42 (by decide) ?_
        refine lv_iadd F.1 F.2.1 dX9_drawLoad_43 ?_
        obtain ⟨hi5, h⟩ := ck_e h
        obtain ⟨σ6, e7, h⟩ := lt_e h
        refine q_iast F hE hI hB row_62 hi5 dX9_drawLoad_44 e7 (fun H locs hB => ?_)
        refine lv_iinc (v := (x4 + (1 : Int32))) (lv' := [(4, .int (x4 + (1 : Int32))), (3, .int (((1103515245 : Int32) * x3) + (12345 : Int32))), (0, .ref (ad 0)), (2, .int x2)]) F.1 F.2.1 dX9_drawLoad_45 hl (k := 3) rfl rfl (by decide) rfl (fun ls hl => ?_)
        refine lv_goto (tgt := 13) F.1 F.2.1 dX9_drawLoad_48 (by decide) ?_
        exact ih13 σ6 _ _ _ x2 (((1103515245 : Int32) * x3) + (12345 : Int32)) (x4 + (1 : Int32)) h hB (lv_sub hl [2, 3, 1, 0] rfl)
  unfold f_X9_drawLoad at h
  refine lv_aload_n F.1 F.2.1 dX9_drawLoad_0 rfl (lv_at hl 0 rfl) ?_
  refine gf_RX9_73 F hE hB po_0 rfl dX9_drawLoad_1 ?_
  refine lv_iconst (v := 0) F.1 F.2.1 dX9_drawLoad_4 (by decide) ?_
  obtain ⟨σ2, hc1, h⟩ := bv_e h
  refine q_cv hB (q_goS F hE hB (k_J7_fill_53178 hI σ0 62 6 row_62 (0 : Int32) hc1) (ca_RX9_211 F.2.2.2.2 ⟨Nat.le_of_ble_eq_true rfl, Nat.le_of_ble_eq_true rfl⟩) rfl hl.1 rfl (Nat.le_of_ble_eq_true rfl) dX9_drawLoad_5 ⟨Nat.le_of_ble_eq_true rfl, Nat.le_of_ble_eq_true rfl⟩) (fun H locs hB => ?_)
  refine lv_iload_n F.1 F.2.1 dX9_drawLoad_8 rfl (lv_at hl 1 rfl) ?_
  refine lv_istore_n (lv' := [(3, .int a1), (0, .ref (ad 0)), (1, .int a1), (2, .int a2)]) F.1 F.2.1 dX9_drawLoad_9 rfl hl (by decide) rfl (fun ls hl => ?_)
  refine lv_iconst (v := 0) F.1 F.2.1 dX9_drawLoad_10 (by decide) ?_
  refine lv_istore (lv' := [(4, .int (0 : Int32)), (3, .int a1), (0, .ref (ad 0)), (1, .int a1), (2, .int a2)]) F.1 F.2.1 dX9_drawLoad_11 hl (by decide) rfl (fun ls hl => ?_)
  exact B13 300 σ2 _ _ _ a2 a1 (0 : Int32) h hB (lv_sub hl [2, 4, 1, 0] rfl)
def f_X9_loads (σ0 : Mem) (a1 : Int32) (a2 : Int32) (a3 : Int32) (a4 : Int32) : Option (Int32 × Mem) := (bp (f_X9_isWithin σ0 a2 (7 : Int32)) (fun v2 => (if v2 = (0 : Int32) then (some ((-2 : Int32), σ0)) else (bp (f_X9_isBoat σ0 a3) (fun v5 => (if v5 = (0 : Int32) then (some ((-2 : Int32), σ0)) else (bp (f_X9_isWithin σ0 a4 (2 : Int32)) (fun v8 => (if v8 = (0 : Int32) then (some ((-2 : Int32), σ0)) else (bv (f_X9_drawLoad σ0 a1 a2) (fun σ11 => (bv (f_X9_tryLoad σ11 a3) (fun σ13 => (if a4 = (0 : Int32) then (bp (f_X8_placeOf σ13 52 (99 : Int32) a3) (fun v18 => (some (v18, σ13)))) else (bp (f_X8_waitOf σ13 52 a3) (fun v16 => (some (v16, σ13))))))))))))))))))
set_option maxHeartbeats 4000000 in
set_option maxRecDepth 100000 in
theorem k_X9_loads {l : Launch} {D : va_G} {cy : Nat → ClassId} {ad : Nat → Nat} {ta tb : Nat} (hI : AdI ad) (σ0 : Mem) (a1 : Int32) (a2 : Int32) (a3 : Int32) (a4 : Int32) {o : Int32 × Mem} (h : f_X9_loads σ0 a1 a2 a3 a4 = some o) : Met l yX9_loads (Cond.code yX9_loads cX9_loads 5 (some .int) :: wG) rm_X9_loads (CP D cy ad ta tb σ0 [.ref (ad 0), .int a1, .int a2, .int a3, .int a4]) (CQi D cy ad o.1 o.2) 0 0 (AA ad) := by
  refine Met.ofW (cc := cX9_loads) (maxL := 5) (ret := (some .int)) (by decide) rfl ?_
  intro p e s m args below meth c s₁ B hml hv
  obtain ⟨rfl, hE, hP⟩ := hv
  have hts := atoms_spec (ws := Cond.code yX9_loads cX9_loads 5 (some .int) :: wG) B.pre
  have F : CallFix p m c cX9_loads 5 s _ wG RX9 := ⟨B.exec, B.bytes, hml, findClass_of_methodNamed B.named, fun w hw => hts w (List.mem_cons_of_mem _ hw)⟩
  have hr := B.returns
  have hlocks := B.notSynchronized
  have hB : Bd D cy ad σ0 s.heap s.heap [] := ⟨hP, va_S.rf⟩
  have hl := lv_entry ([.ref (ad 0), .int a1, .int a2, .int a3, .int a4] : List Value) (n := 5) (Nat.le_of_ble_eq_true rfl)
  rw [lg_entry_eq]
  generalize (lg_sl ([.ref (ad 0), .int a1, .int a2, .int a3, .int a4] : List Value) ++ List.replicate (5 - (lg_sl ([.ref (ad 0), .int a1, .int a2, .int a3, .int a4] : List Value)).length) Slot.unset).toArray = ls at hl ⊢
  have hl : lv_has ls 5 [(0, .ref (ad 0)), (1, .int a1), (2, .int a2), (3, .int a3), (4, .int a4)] := hl
  unfold f_X9_loads at h
  refine lv_iload_n F.1 F.2.1 dX9_loads_0 rfl (lv_at hl 2 rfl) ?_
  refine lv_bipush (v := 7) F.1 F.2.1 dX9_loads_1 (by decide) ?_
  obtain ⟨v2, hc1, h⟩ := bp_e h
  refine q_ci hB (q_goS F hE hB (k_X9_isWithin hI σ0 a2 (7 : Int32) hc1) (ca_RX9_84 F.2.2.2.2 ⟨Nat.le_of_ble_eq_true rfl, Nat.le_of_ble_eq_true rfl⟩) rfl hl.1 rfl (Nat.le_of_ble_eq_true rfl) dX9_loads_3 ⟨Nat.le_of_ble_eq_true rfl, Nat.le_of_ble_eq_true rfl⟩) (fun H locs hB => ?_)
  refine lv_if_eq (tgt := 26) F.1 F.2.1 dX9_loads_6 (by decide) (fun c3 => ?_) (fun c3 => ?_)
  · replace h := it_e c3 h
    refine lv_bipush (v := (-2)) F.1 F.2.1 dX9_loads_26 (by decide) ?_
    exact q_iret F hlocks hr hB (so1 h) (so2 h) dX9_loads_28
  · replace h := ie_e c3 h
    refine lv_aload_n F.1 F.2.1 dX9_loads_9 rfl (lv_at hl 0 rfl) ?_
    refine lv_iload_n F.1 F.2.1 dX9_loads_10 rfl (lv_at hl 3 rfl) ?_
    obtain ⟨v5, hc4, h⟩ := bp_e h
    refine q_ci hB (q_goV F hE hB (k_X9_isBoat hI σ0 a3 hc4) (ca_RX9_114 F.2.2.2.2 ⟨Nat.le_of_ble_eq_true rfl, Nat.le_of_ble_eq_true rfl⟩) rfl po_0 rfl hl.1 rfl (Nat.le_of_ble_eq_true rfl) dX9_loads_11 ⟨Nat.le_of_ble_eq_true rfl, Nat.le_of_ble_eq_true rfl⟩) (fun H locs hB => ?_)
    refine lv_if_eq (tgt := 26) F.1 F.2.1 dX9_loads_14 (by decide) (fun c6 => ?_) (fun c6 => ?_)
    · replace h := it_e c6 h
      refine lv_bipush (v := (-2)) F.1 F.2.1 dX9_loads_26 (by decide) ?_
      exact q_iret F hlocks hr hB (so1 h) (so2 h) dX9_loads_28
    · replace h := ie_e c6 h
      refine lv_iload F.1 F.2.1 dX9_loads_17 (lv_at hl 4 rfl) ?_
      refine lv_iconst (v := 2) F.1 F.2.1 dX9_loads_19 (by decide) ?_
      obtain ⟨v8, hc7, h⟩ := bp_e h
      refine q_ci hB (q_goS F hE hB (k_X9_isWithin hI σ0 a4 (2 : Int32) hc7) (ca_RX9_84 F.2.2.2.2 ⟨Nat.le_of_ble_eq_true rfl, Nat.le_of_ble_eq_true rfl⟩) rfl hl.1 rfl (Nat.le_of_ble_eq_true rfl) dX9_loads_20 ⟨Nat.le_of_ble_eq_true rfl, Nat.le_of_ble_eq_true rfl⟩) (fun H locs hB => ?_)
      refine lv_if_ne (tgt := 29) F.1 F.2.1 dX9_loads_23 (by decide) (fun c9 => ?_) (fun c9 => ?_)
      · replace h := ie_e c9 h
        refine lv_aload_n F.1 F.2.1 dX9_loads_29 rfl (lv_at hl 0 rfl) ?_
        refine lv_iload_n F.1 F.2.1 dX9_loads_30 rfl (lv_at hl 1 rfl) ?_
        refine lv_iload_n F.1 F.2.1 dX9_loads_31 rfl (lv_at hl 2 rfl) ?_
        obtain ⟨σ11, hc10, h⟩ := bv_e h
        refine q_cv hB (q_goV F hE hB (k_X9_drawLoad hI σ0 a1 a2 hc10) (ca_RX9_245 F.2.2.2.2 ⟨Nat.le_of_ble_eq_true rfl, Nat.le_of_ble_eq_true rfl⟩) rfl po_0 rfl hl.1 rfl (Nat.le_of_ble_eq_true rfl) dX9_loads_32 ⟨Nat.le_of_ble_eq_true rfl, Nat.le_of_ble_eq_true rfl⟩) (fun H locs hB => ?_)
        refine lv_aload_n F.1 F.2.1 dX9_loads_35 rfl (lv_at hl 0 rfl) ?_
        refine lv_iload_n F.1 F.2.1 dX9_loads_36 rfl (lv_at hl 3 rfl) ?_
        obtain ⟨σ13, hc12, h⟩ := bv_e h
        refine q_cv hB (q_goV F hE hB (k_X9_tryLoad hI σ11 a3 hc12) (ca_RX9_208 F.2.2.2.2 ⟨Nat.le_of_ble_eq_true rfl, Nat.le_of_ble_eq_true rfl⟩) rfl po_0 rfl hl.1 rfl (Nat.le_of_ble_eq_true rfl) dX9_loads_37 ⟨Nat.le_of_ble_eq_true rfl, Nat.le_of_ble_eq_true rfl⟩) (fun H locs hB => ?_)
        refine lv_iload F.1 F.2.1 dX9_loads_40 (lv_at hl 4 rfl) ?_
        refine lv_if_ne (tgt := 58) F.1 F.2.1 dX9_loads_42 (by decide) (fun c14 => ?_) (fun c14 => ?_)
        · replace h := ie_e c14 h
          refine lv_aload_n F.1 F.2.1 dX9_loads_58 rfl (lv_at hl 0 rfl) ?_
          refine gf_RX9_56 F hE hB po_0 rfl dX9_loads_59 ?_
          refine lv_iload_n F.1 F.2.1 dX9_loads_62 rfl (lv_at hl 3 rfl) ?_
          obtain ⟨v16, hc15, h⟩ := bp_e h
          refine q_ci hB (q_goV F hE hB (k_X8_waitOf hI σ13 52 (Or.inr rfl) a3 hc15) (ca_RX9_162 F.2.2.2.2 ⟨Nat.le_of_ble_eq_true rfl, Nat.le_of_ble_eq_true rfl⟩) rfl po_52 rfl hl.1 rfl (Nat.le_of_ble_eq_true rfl) dX9_loads_63 ⟨Nat.le_of_ble_eq_true rfl, Nat.le_of_ble_eq_true rfl⟩) (fun H locs hB => ?_)
          exact q_iret F hlocks hr hB (so1 h) (so2 h) dX9_loads_66
        · replace h := it_e c14 h
          refine lv_aload_n F.1 F.2.1 dX9_loads_45 rfl (lv_at hl 0 rfl) ?_
          refine gf_RX9_56 F hE hB po_0 rfl dX9_loads_46 ?_
          refine lv_bipush (v := 99) F.1 F.2.1 dX9_loads_49 (by decide) ?_
          refine lv_iload_n F.1 F.2.1 dX9_loads_51 rfl (lv_at hl 3 rfl) ?_
          obtain ⟨v18, hc17, h⟩ := bp_e h
          refine q_ci hB (q_goV F hE hB (k_X8_placeOf hI σ13 52 (Or.inr rfl) (99 : Int32) a3 hc17) (ca_RX9_153 F.2.2.2.2 ⟨Nat.le_of_ble_eq_true rfl, Nat.le_of_ble_eq_true rfl⟩) rfl po_52 rfl hl.1 rfl (Nat.le_of_ble_eq_true rfl) dX9_loads_52 ⟨Nat.le_of_ble_eq_true rfl, Nat.le_of_ble_eq_true rfl⟩) (fun H locs hB => ?_)
          refine lv_goto (tgt := 66) F.1 F.2.1 dX9_loads_55 (by decide) ?_
          exact q_iret F hlocks hr hB (so1 h) (so2 h) dX9_loads_66
      · replace h := it_e c9 h
        refine lv_bipush (v := (-2)) F.1 F.2.1 dX9_loads_26 (by decide) ?_
        exact q_iret F hlocks hr hB (so1 h) (so2 h) dX9_loads_28
def f_X9_sheet (σ0 : Mem) (a1 : Int32) (a2 : Int32) (a3 : Int32) : Option (Int32 × Mem) := (bp (f_X9_isWithin σ0 a1 (4 : Int32)) (fun v2 => (if v2 = (0 : Int32) then (some ((-2 : Int32), σ0)) else (bp (f_X9_isWithin σ0 a2 (3 : Int32)) (fun v5 => (if v5 = (0 : Int32) then (some ((-2 : Int32), σ0)) else (if a3 ≤ (60 : Int32) then (if (0 : Int32) ≤ a3 then (ck a1 4 (bv (f_X5_renew σ0 (38 + 2 * a1.toNatClampNeg) a2 a3) (fun σ11 => (some (a3, σ11))))) else (bi (f_X9_find σ0 (5 : Int32)) (fun v14 σ13 => (some (v14, σ13))))) else (some ((-2 : Int32), σ0)))))))))
set_option maxHeartbeats 4000000 in
set_option maxRecDepth 100000 in
theorem k_X9_sheet {l : Launch} {D : va_G} {cy : Nat → ClassId} {ad : Nat → Nat} {ta tb : Nat} (hI : AdI ad) (σ0 : Mem) (a1 : Int32) (a2 : Int32) (a3 : Int32) {o : Int32 × Mem} (h : f_X9_sheet σ0 a1 a2 a3 = some o) : Met l yX9_sheet (Cond.code yX9_sheet cX9_sheet 4 (some .int) :: wG) rm_X9_sheet (CP D cy ad ta tb σ0 [.ref (ad 0), .int a1, .int a2, .int a3]) (CQi D cy ad o.1 o.2) 0 0 (AA ad) := by
  refine Met.ofW (cc := cX9_sheet) (maxL := 4) (ret := (some .int)) (by decide) rfl ?_
  intro p e s m args below meth c s₁ B hml hv
  obtain ⟨rfl, hE, hP⟩ := hv
  have hts := atoms_spec (ws := Cond.code yX9_sheet cX9_sheet 4 (some .int) :: wG) B.pre
  have F : CallFix p m c cX9_sheet 4 s _ wG RX9 := ⟨B.exec, B.bytes, hml, findClass_of_methodNamed B.named, fun w hw => hts w (List.mem_cons_of_mem _ hw)⟩
  have hr := B.returns
  have hlocks := B.notSynchronized
  have hB : Bd D cy ad σ0 s.heap s.heap [] := ⟨hP, va_S.rf⟩
  have hl := lv_entry ([.ref (ad 0), .int a1, .int a2, .int a3] : List Value) (n := 4) (Nat.le_of_ble_eq_true rfl)
  rw [lg_entry_eq]
  generalize (lg_sl ([.ref (ad 0), .int a1, .int a2, .int a3] : List Value) ++ List.replicate (4 - (lg_sl ([.ref (ad 0), .int a1, .int a2, .int a3] : List Value)).length) Slot.unset).toArray = ls at hl ⊢
  have hl : lv_has ls 4 [(0, .ref (ad 0)), (1, .int a1), (2, .int a2), (3, .int a3)] := hl
  unfold f_X9_sheet at h
  refine lv_iload_n F.1 F.2.1 dX9_sheet_0 rfl (lv_at hl 1 rfl) ?_
  refine lv_iconst (v := 4) F.1 F.2.1 dX9_sheet_1 (by decide) ?_
  obtain ⟨v2, hc1, h⟩ := bp_e h
  refine q_ci hB (q_goS F hE hB (k_X9_isWithin hI σ0 a1 (4 : Int32) hc1) (ca_RX9_84 F.2.2.2.2 ⟨Nat.le_of_ble_eq_true rfl, Nat.le_of_ble_eq_true rfl⟩) rfl hl.1 rfl (Nat.le_of_ble_eq_true rfl) dX9_sheet_2 ⟨Nat.le_of_ble_eq_true rfl, Nat.le_of_ble_eq_true rfl⟩) (fun H locs hB => ?_)
  refine lv_if_eq (tgt := 22) F.1 F.2.1 dX9_sheet_5 (by decide) (fun c3 => ?_) (fun c3 => ?_)
  · replace h := it_e c3 h
    refine lv_bipush (v := (-2)) F.1 F.2.1 dX9_sheet_22 (by decide) ?_
    exact q_iret F hlocks hr hB (so1 h) (so2 h) dX9_sheet_24
  · replace h := ie_e c3 h
    refine lv_iload_n F.1 F.2.1 dX9_sheet_8 rfl (lv_at hl 2 rfl) ?_
    refine lv_iconst (v := 3) F.1 F.2.1 dX9_sheet_9 (by decide) ?_
    obtain ⟨v5, hc4, h⟩ := bp_e h
    refine q_ci hB (q_goS F hE hB (k_X9_isWithin hI σ0 a2 (3 : Int32) hc4) (ca_RX9_84 F.2.2.2.2 ⟨Nat.le_of_ble_eq_true rfl, Nat.le_of_ble_eq_true rfl⟩) rfl hl.1 rfl (Nat.le_of_ble_eq_true rfl) dX9_sheet_10 ⟨Nat.le_of_ble_eq_true rfl, Nat.le_of_ble_eq_true rfl⟩) (fun H locs hB => ?_)
    refine lv_if_eq (tgt := 22) F.1 F.2.1 dX9_sheet_13 (by decide) (fun c6 => ?_) (fun c6 => ?_)
    · replace h := it_e c6 h
      refine lv_bipush (v := (-2)) F.1 F.2.1 dX9_sheet_22 (by decide) ?_
      exact q_iret F hlocks hr hB (so1 h) (so2 h) dX9_sheet_24
    · replace h := ie_e c6 h
      refine lv_iload_n F.1 F.2.1 dX9_sheet_16 rfl (lv_at hl 3 rfl) ?_
      refine lv_bipush (v := 60) F.1 F.2.1 dX9_sheet_17 (by decide) ?_
      refine lv_icmp_le (tgt := 25) F.1 F.2.1 dX9_sheet_19 (by decide) (fun c7 => ?_) (fun c7 => ?_)
      · replace h := it_e c7 h
        refine lv_iload_n F.1 F.2.1 dX9_sheet_25 rfl (lv_at hl 3 rfl) ?_
        refine lv_if_ge (tgt := 35) F.1 F.2.1 dX9_sheet_26 (by decide) (fun c8 => ?_) (fun c8 => ?_)
        · replace h := it_e c8 h
          refine lv_aload_n F.1 F.2.1 dX9_sheet_35 rfl (lv_at hl 0 rfl) ?_
          refine gf_RX9_45 F hE hB po_0 rfl dX9_sheet_36 ?_
          refine lv_iload_n F.1 F.2.1 dX9_sheet_39 rfl (lv_at hl 1 rfl) ?_
          obtain ⟨hi9, h⟩ := ck_e h
          refine q_aldq (t0 := 3) F hE hB po_37 rfl hi9 dX9_sheet_40 ?_
          refine lv_iload_n F.1 F.2.1 dX9_sheet_41 rfl (lv_at hl 2 rfl) ?_
          refine lv_iload_n F.1 F.2.1 dX9_sheet_42 rfl (lv_at hl 3 rfl) ?_
          obtain ⟨σ11, hc10, h⟩ := bv_e h
          refine q_cv hB (q_goV F hE hB (k_X5_renew hI σ0 (38 + 2 * a1.toNatClampNeg) (sh_role hi9) a2 a3 hc10) (ca_RX9_248 F.2.2.2.2 ⟨Nat.le_of_ble_eq_true rfl, Nat.le_of_ble_eq_true rfl⟩) rfl (po_Sheet (sh_role hi9)) rfl hl.1 rfl (Nat.le_of_ble_eq_true rfl) dX9_sheet_43 ⟨Nat.le_of_ble_eq_true rfl, Nat.le_of_ble_eq_true rfl⟩) (fun H locs hB => ?_)
          refine lv_iload_n F.1 F.2.1 dX9_sheet_46 rfl (lv_at hl 3 rfl) ?_
          exact q_iret F hlocks hr hB (so1 h) (so2 h) dX9_sheet_47
        · replace h := ie_e c8 h
          refine lv_aload_n F.1 F.2.1 dX9_sheet_29 rfl (lv_at hl 0 rfl) ?_
          refine lv_iconst (v := 5) F.1 F.2.1 dX9_sheet_30 (by decide) ?_
          obtain ⟨v14, σ13, hc12, h⟩ := bi_e h
          refine q_ci hB (q_goV F hE hB (k_X9_find hI σ0 (5 : Int32) hc12) (ca_RX9_142 F.2.2.2.2 ⟨Nat.le_of_ble_eq_true rfl, Nat.le_of_ble_eq_true rfl⟩) rfl po_0 rfl hl.1 rfl (Nat.le_of_ble_eq_true rfl) dX9_sheet_31 ⟨Nat.le_of_ble_eq_true rfl, Nat.le_of_ble_eq_true rfl⟩) (fun H locs hB => ?_)
          exact q_iret F hlocks hr hB (so1 h) (so2 h) dX9_sheet_34
      · replace h := ie_e c7 h
        refine lv_bipush (v := (-2)) F.1 F.2.1 dX9_sheet_22 (by decide) ?_
        exact q_iret F hlocks hr hB (so1 h) (so2 h) dX9_sheet_24
def f_X9_lose (σ0 : Mem) (a1 : Int32) : Option (Int32 × Mem) := (bp (f_X9_isWithin σ0 a1 (4 : Int32)) (fun v2 => (if v2 = (0 : Int32) then (some ((-2 : Int32), σ0)) else (ck a1 4 (if (σ0.1 (38 + 2 * a1.toNatClampNeg) 3) = (0 : Int32) then (ck a1 4 (lt (ms σ0 (38 + 2 * a1.toNatClampNeg) 3 (1 : Int32)) (fun σ7 => (ck a1 4 (some ((σ7.1 (38 + 2 * a1.toNatClampNeg) 2), σ7)))))) else (bi (f_X9_find σ0 (1 : Int32)) (fun v12 σ11 => (some (v12, σ11)))))))))
set_option maxHeartbeats 4000000 in
set_option maxRecDepth 100000 in
theorem k_X9_lose {l : Launch} {D : va_G} {cy : Nat → ClassId} {ad : Nat → Nat} {ta tb : Nat} (hI : AdI ad) (σ0 : Mem) (a1 : Int32) {o : Int32 × Mem} (h : f_X9_lose σ0 a1 = some o) : Met l yX9_lose (Cond.code yX9_lose cX9_lose 2 (some .int) :: wG) rm_X9_lose (CP D cy ad ta tb σ0 [.ref (ad 0), .int a1]) (CQi D cy ad o.1 o.2) 0 0 (AA ad) := by
  refine Met.ofW (cc := cX9_lose) (maxL := 2) (ret := (some .int)) (by decide) rfl ?_
  intro p e s m args below meth c s₁ B hml hv
  obtain ⟨rfl, hE, hP⟩ := hv
  have hts := atoms_spec (ws := Cond.code yX9_lose cX9_lose 2 (some .int) :: wG) B.pre
  have F : CallFix p m c cX9_lose 2 s _ wG RX9 := ⟨B.exec, B.bytes, hml, findClass_of_methodNamed B.named, fun w hw => hts w (List.mem_cons_of_mem _ hw)⟩
  have hr := B.returns
  have hlocks := B.notSynchronized
  have hB : Bd D cy ad σ0 s.heap s.heap [] := ⟨hP, va_S.rf⟩
  have hl := lv_entry ([.ref (ad 0), .int a1] : List Value) (n := 2) (Nat.le_of_ble_eq_true rfl)
  rw [lg_entry_eq]
  generalize (lg_sl ([.ref (ad 0), .int a1] : List Value) ++ List.replicate (2 - (lg_sl ([.ref (ad 0), .int a1] : List Value)).length) Slot.unset).toArray = ls at hl ⊢
  have hl : lv_has ls 2 [(0, .ref (ad 0)), (1, .int a1)] := hl
  unfold f_X9_lose at h
  refine lv_iload_n F.1 F.2.1 dX9_lose_0 rfl (lv_at hl 1 rfl) ?_
  refine lv_iconst (v := 4) F.1 F.2.1 dX9_lose_1 (by decide) ?_
  obtain ⟨v2, hc1, h⟩ := bp_e h
  refine q_ci hB (q_goS F hE hB (k_X9_isWithin hI σ0 a1 (4 : Int32) hc1) (ca_RX9_84 F.2.2.2.2 ⟨Nat.le_of_ble_eq_true rfl, Nat.le_of_ble_eq_true rfl⟩) rfl hl.1 rfl (Nat.le_of_ble_eq_true rfl) dX9_lose_2 ⟨Nat.le_of_ble_eq_true rfl, Nat.le_of_ble_eq_true rfl⟩) (fun H locs hB => ?_)
  refine lv_if_ne (tgt := 11) F.1 F.2.1 dX9_lose_5 (by decide) (fun c3 => ?_) (fun c3 => ?_)
  · replace h := ie_e c3 h
    refine lv_aload_n F.1 F.2.1 dX9_lose_11 rfl (lv_at hl 0 rfl) ?_
    refine gf_RX9_45 F hE hB po_0 rfl dX9_lose_12 ?_
    refine lv_iload_n F.1 F.2.1 dX9_lose_15 rfl (lv_at hl 1 rfl) ?_
    obtain ⟨hi4, h⟩ := ck_e h
    refine q_aldq (t0 := 3) F hE hB po_37 rfl hi4 dX9_lose_16 ?_
    refine gf_RX9_138 F hE hB (po_Sheet (sh_role hi4)) rfl dX9_lose_17 ?_
    refine lv_if_eq (tgt := 29) F.1 F.2.1 dX9_lose_20 (by decide) (fun c5 => ?_) (fun c5 => ?_)
    · replace h := it_e c5 h
      refine lv_aload_n F.1 F.2.1 dX9_lose_29 rfl (lv_at hl 0 rfl) ?_
      refine gf_RX9_45 F hE hB po_0 rfl dX9_lose_30 ?_
      refine lv_iload_n F.1 F.2.1 dX9_lose_33 rfl (lv_at hl 1 rfl) ?_
      obtain ⟨hi6, h⟩ := ck_e h
      refine q_aldq (t0 := 3) F hE hB po_37 rfl hi6 dX9_lose_34 ?_
      refine lv_iconst (v := 1) F.1 F.2.1 dX9_lose_35 (by decide) ?_
      obtain ⟨σ7, e8, h⟩ := lt_e h
      refine pf_RX9_138 F hE hI hB (po_Sheet (sh_role hi6)) rfl rfl (Nat.le_of_ble_eq_true rfl) (ph_Sheet_3 (sh_role hi6)) dX9_lose_36 e8 (fun H locs hB => ?_)
      refine lv_aload_n F.1 F.2.1 dX9_lose_39 rfl (lv_at hl 0 rfl) ?_
      refine gf_RX9_45 F hE hB po_0 rfl dX9_lose_40 ?_
      refine lv_iload_n F.1 F.2.1 dX9_lose_43 rfl (lv_at hl 1 rfl) ?_
      obtain ⟨hi9, h⟩ := ck_e h
      refine q_aldq (t0 := 3) F hE hB po_37 rfl hi9 dX9_lose_44 ?_
      refine gf_RX9_146 F hE hB (po_Sheet (sh_role hi9)) rfl dX9_lose_45 ?_
      exact q_iret F hlocks hr hB (so1 h) (so2 h) dX9_lose_48
    · replace h := ie_e c5 h
      refine lv_aload_n F.1 F.2.1 dX9_lose_23 rfl (lv_at hl 0 rfl) ?_
      refine lv_iconst (v := 1) F.1 F.2.1 dX9_lose_24 (by decide) ?_
      obtain ⟨v12, σ11, hc10, h⟩ := bi_e h
      refine q_ci hB (q_goV F hE hB (k_X9_find hI σ0 (1 : Int32) hc10) (ca_RX9_142 F.2.2.2.2 ⟨Nat.le_of_ble_eq_true rfl, Nat.le_of_ble_eq_true rfl⟩) rfl po_0 rfl hl.1 rfl (Nat.le_of_ble_eq_true rfl) dX9_lose_25 ⟨Nat.le_of_ble_eq_true rfl, Nat.le_of_ble_eq_true rfl⟩) (fun H locs hB => ?_)
      exact q_iret F hlocks hr hB (so1 h) (so2 h) dX9_lose_28
  · replace h := it_e c3 h
    refine lv_bipush (v := (-2)) F.1 F.2.1 dX9_lose_8 (by decide) ?_
    exact q_iret F hlocks hr hB (so1 h) (so2 h) dX9_lose_10
def f_X9_itemFinding (σ0 : Mem) (q0 : Nat) (a1 : Int32) (a2 : Int32) : Option (Int32) := (if (σ0.1 q0 3) = (0 : Int32) then (if (σ0.1 q0 1) = a1 then (bp (f_X9_isWithin σ0 a2 (σ0.1 q0 2)) (fun v4 => (if v4 = (0 : Int32) then (some (2 : Int32)) else (some (0 : Int32))))) else (some (3 : Int32))) else (some (1 : Int32)))
set_option maxHeartbeats 4000000 in
set_option maxRecDepth 100000 in
theorem k_X9_itemFinding {l : Launch} {D : va_G} {cy : Nat → ClassId} {ad : Nat → Nat} {ta tb : Nat} (hI : AdI ad) (σ0 : Mem) (q0 : Nat) (hq0 : isSheet q0) (a1 : Int32) (a2 : Int32) {o : Int32} (h : f_X9_itemFinding σ0 q0 a1 a2 = some o) : Met l yX9_itemFinding (Cond.code yX9_itemFinding cX9_itemFinding 3 (some .int) :: wG) rm_X9_itemFinding (CP D cy ad ta tb σ0 [.ref (ad q0), .int a1, .int a2]) (CQi D cy ad o σ0) 0 0 (AA ad) := by
  refine Met.ofW (cc := cX9_itemFinding) (maxL := 3) (ret := (some .int)) (by decide) rfl ?_
  intro p e s m args below meth c s₁ B hml hv
  obtain ⟨rfl, hE, hP⟩ := hv
  have hts := atoms_spec (ws := Cond.code yX9_itemFinding cX9_itemFinding 3 (some .int) :: wG) B.pre
  have F : CallFix p m c cX9_itemFinding 3 s _ wG RX9 := ⟨B.exec, B.bytes, hml, findClass_of_methodNamed B.named, fun w hw => hts w (List.mem_cons_of_mem _ hw)⟩
  have hr := B.returns
  have hlocks := B.notSynchronized
  have hB : Bd D cy ad σ0 s.heap s.heap [] := ⟨hP, va_S.rf⟩
  have hl := lv_entry ([.ref (ad q0), .int a1, .int a2] : List Value) (n := 3) (Nat.le_of_ble_eq_true rfl)
  rw [lg_entry_eq]
  generalize (lg_sl ([.ref (ad q0), .int a1, .int a2] : List Value) ++ List.replicate (3 - (lg_sl ([.ref (ad q0), .int a1, .int a2] : List Value)).length) Slot.unset).toArray = ls at hl ⊢
  have hl : lv_has ls 3 [(0, .ref (ad q0)), (1, .int a1), (2, .int a2)] := hl
  unfold f_X9_itemFinding at h
  refine lv_aload_n F.1 F.2.1 dX9_itemFinding_0 rfl (lv_at hl 0 rfl) ?_
  refine gf_RX9_138 F hE hB (po_Sheet hq0) rfl dX9_itemFinding_1 ?_
  refine lv_if_eq (tgt := 9) F.1 F.2.1 dX9_itemFinding_4 (by decide) (fun c1 => ?_) (fun c1 => ?_)
  · replace h := it_e c1 h
    refine lv_aload_n F.1 F.2.1 dX9_itemFinding_9 rfl (lv_at hl 0 rfl) ?_
    refine gf_RX9_262 F hE hB (po_Sheet hq0) rfl dX9_itemFinding_10 ?_
    refine lv_iload_n F.1 F.2.1 dX9_itemFinding_13 rfl (lv_at hl 1 rfl) ?_
    refine lv_icmp_eq (tgt := 19) F.1 F.2.1 dX9_itemFinding_14 (by decide) (fun c2 => ?_) (fun c2 => ?_)
    · replace h := it_e c2 h
      refine lv_iload_n F.1 F.2.1 dX9_itemFinding_19 rfl (lv_at hl 2 rfl) ?_
      refine lv_aload_n F.1 F.2.1 dX9_itemFinding_20 rfl (lv_at hl 0 rfl) ?_
      refine gf_RX9_146 F hE hB (po_Sheet hq0) rfl dX9_itemFinding_21 ?_
      obtain ⟨v4, hc3, h⟩ := bp_e h
      refine q_ci hB (q_goS F hE hB (k_X9_isWithin hI σ0 a2 (σ0.1 q0 2) hc3) (ca_RX9_84 F.2.2.2.2 ⟨Nat.le_of_ble_eq_true rfl, Nat.le_of_ble_eq_true rfl⟩) rfl hl.1 rfl (Nat.le_of_ble_eq_true rfl) dX9_itemFinding_24 ⟨Nat.le_of_ble_eq_true rfl, Nat.le_of_ble_eq_true rfl⟩) (fun H locs hB => ?_)
      refine lv_if_eq (tgt := 34) F.1 F.2.1 dX9_itemFinding_27 (by decide) (fun c5 => ?_) (fun c5 => ?_)
      · replace h := it_e c5 h
        refine lv_iconst (v := 2) F.1 F.2.1 dX9_itemFinding_34 (by decide) ?_
        exact q_iret F hlocks hr hB (Option.some.inj h) rfl dX9_itemFinding_35
      · replace h := ie_e c5 h
        refine lv_iconst (v := 0) F.1 F.2.1 dX9_itemFinding_30 (by decide) ?_
        refine lv_goto (tgt := 35) F.1 F.2.1 dX9_itemFinding_31 (by decide) ?_
        exact q_iret F hlocks hr hB (Option.some.inj h) rfl dX9_itemFinding_35
    · replace h := ie_e c2 h
      refine lv_iconst (v := 3) F.1 F.2.1 dX9_itemFinding_17 (by decide) ?_
      exact q_iret F hlocks hr hB (Option.some.inj h) rfl dX9_itemFinding_18
  · replace h := ie_e c1 h
    refine lv_iconst (v := 1) F.1 F.2.1 dX9_itemFinding_7 (by decide) ?_
    exact q_iret F hlocks hr hB (Option.some.inj h) rfl dX9_itemFinding_8
def f_X9_lay (σ0 : Mem) (a1 : Int32) (a2 : Int32) (a3 : Int32) (a4 : Int32) : Option (Int32 × Mem) := (bp (f_X9_isWithin σ0 a1 (4 : Int32)) (fun v2 => (if v2 = (0 : Int32) then (some ((-2 : Int32), σ0)) else (bp (f_X9_isWithin σ0 a2 (3 : Int32)) (fun v5 => (if v5 = (0 : Int32) then (some ((-2 : Int32), σ0)) else (ck a1 4 (bp (f_X9_itemFinding σ0 (38 + 2 * a1.toNatClampNeg) a2 a3) (fun v9 => (if v9 = (0 : Int32) then (ck a1 4 (bv (f_X5_put σ0 (38 + 2 * a1.toNatClampNeg) a3 a4) (fun σ13 => (some ((1 : Int32), σ13))))) else (bi (f_X9_find σ0 v9) (fun v16 σ15 => (some (v16, σ15))))))))))))))
set_option maxHeartbeats 4000000 in
set_option maxRecDepth 100000 in
theorem k_X9_lay {l : Launch} {D : va_G} {cy : Nat → ClassId} {ad : Nat → Nat} {ta tb : Nat} (hI : AdI ad) (σ0 : Mem) (a1 : Int32) (a2 : Int32) (a3 : Int32) (a4 : Int32) {o : Int32 × Mem} (h : f_X9_lay σ0 a1 a2 a3 a4 = some o) : Met l yX9_lay (Cond.code yX9_lay cX9_lay 6 (some .int) :: wG) rm_X9_lay (CP D cy ad ta tb σ0 [.ref (ad 0), .int a1, .int a2, .int a3, .int a4]) (CQi D cy ad o.1 o.2) 0 0 (AA ad) := by
  refine Met.ofW (cc := cX9_lay) (maxL := 6) (ret := (some .int)) (by decide) rfl ?_
  intro p e s m args below meth c s₁ B hml hv
  obtain ⟨rfl, hE, hP⟩ := hv
  have hts := atoms_spec (ws := Cond.code yX9_lay cX9_lay 6 (some .int) :: wG) B.pre
  have F : CallFix p m c cX9_lay 6 s _ wG RX9 := ⟨B.exec, B.bytes, hml, findClass_of_methodNamed B.named, fun w hw => hts w (List.mem_cons_of_mem _ hw)⟩
  have hr := B.returns
  have hlocks := B.notSynchronized
  have hB : Bd D cy ad σ0 s.heap s.heap [] := ⟨hP, va_S.rf⟩
  have hl := lv_entry ([.ref (ad 0), .int a1, .int a2, .int a3, .int a4] : List Value) (n := 6) (Nat.le_of_ble_eq_true rfl)
  rw [lg_entry_eq]
  generalize (lg_sl ([.ref (ad 0), .int a1, .int a2, .int a3, .int a4] : List Value) ++ List.replicate (6 - (lg_sl ([.ref (ad 0), .int a1, .int a2, .int a3, .int a4] : List Value)).length) Slot.unset).toArray = ls at hl ⊢
  have hl : lv_has ls 6 [(0, .ref (ad 0)), (1, .int a1), (2, .int a2), (3, .int a3), (4, .int a4)] := hl
  unfold f_X9_lay at h
  refine lv_iload_n F.1 F.2.1 dX9_lay_0 rfl (lv_at hl 1 rfl) ?_
  refine lv_iconst (v := 4) F.1 F.2.1 dX9_lay_1 (by decide) ?_
  obtain ⟨v2, hc1, h⟩ := bp_e h
  refine q_ci hB (q_goS F hE hB (k_X9_isWithin hI σ0 a1 (4 : Int32) hc1) (ca_RX9_84 F.2.2.2.2 ⟨Nat.le_of_ble_eq_true rfl, Nat.le_of_ble_eq_true rfl⟩) rfl hl.1 rfl (Nat.le_of_ble_eq_true rfl) dX9_lay_2 ⟨Nat.le_of_ble_eq_true rfl, Nat.le_of_ble_eq_true rfl⟩) (fun H locs hB => ?_)
  refine lv_if_eq (tgt := 16) F.1 F.2.1 dX9_lay_5 (by decide) (fun c3 => ?_) (fun c3 => ?_)
  · replace h := it_e c3 h
    refine lv_bipush (v := (-2)) F.1 F.2.1 dX9_lay_16 (by decide) ?_
    exact q_iret F hlocks hr hB (so1 h) (so2 h) dX9_lay_18
  · replace h := ie_e c3 h
    refine lv_iload_n F.1 F.2.1 dX9_lay_8 rfl (lv_at hl 2 rfl) ?_
    refine lv_iconst (v := 3) F.1 F.2.1 dX9_lay_9 (by decide) ?_
    obtain ⟨v5, hc4, h⟩ := bp_e h
    refine q_ci hB (q_goS F hE hB (k_X9_isWithin hI σ0 a2 (3 : Int32) hc4) (ca_RX9_84 F.2.2.2.2 ⟨Nat.le_of_ble_eq_true rfl, Nat.le_of_ble_eq_true rfl⟩) rfl hl.1 rfl (Nat.le_of_ble_eq_true rfl) dX9_lay_10 ⟨Nat.le_of_ble_eq_true rfl, Nat.le_of_ble_eq_true rfl⟩) (fun H locs hB => ?_)
    refine lv_if_ne (tgt := 19) F.1 F.2.1 dX9_lay_13 (by decide) (fun c6 => ?_) (fun c6 => ?_)
    · replace h := ie_e c6 h
      refine lv_aload_n F.1 F.2.1 dX9_lay_19 rfl (lv_at hl 0 rfl) ?_
      refine gf_RX9_45 F hE hB po_0 rfl dX9_lay_20 ?_
      refine lv_iload_n F.1 F.2.1 dX9_lay_23 rfl (lv_at hl 1 rfl) ?_
      obtain ⟨hi7, h⟩ := ck_e h
      refine q_aldq (t0 := 3) F hE hB po_37 rfl hi7 dX9_lay_24 ?_
      refine lv_iload_n F.1 F.2.1 dX9_lay_25 rfl (lv_at hl 2 rfl) ?_
      refine lv_iload_n F.1 F.2.1 dX9_lay_26 rfl (lv_at hl 3 rfl) ?_
      obtain ⟨v9, hc8, h⟩ := bp_e h
      refine q_ci hB (q_goS F hE hB (k_X9_itemFinding hI σ0 (38 + 2 * a1.toNatClampNeg) (sh_role hi7) a2 a3 hc8) (ca_RX9_251 F.2.2.2.2 ⟨Nat.le_of_ble_eq_true rfl, Nat.le_of_ble_eq_true rfl⟩) rfl hl.1 rfl (Nat.le_of_ble_eq_true rfl) dX9_lay_27 ⟨Nat.le_of_ble_eq_true rfl, Nat.le_of_ble_eq_true rfl⟩) (fun H locs hB => ?_)
      refine lv_istore (lv' := [(5, .int v9), (0, .ref (ad 0)), (1, .int a1), (2, .int a2), (3, .int a3), (4, .int a4)]) F.1 F.2.1 dX9_lay_30 hl (by decide) rfl (fun ls hl => ?_)
      refine lv_iload F.1 F.2.1 dX9_lay_32 (lv_at hl 0 rfl) ?_
      refine lv_if_eq (tgt := 44) F.1 F.2.1 dX9_lay_34 (by decide) (fun c10 => ?_) (fun c10 => ?_)
      · replace h := it_e c10 h
        refine lv_aload_n F.1 F.2.1 dX9_lay_44 rfl (lv_at hl 1 rfl) ?_
        refine gf_RX9_45 F hE hB po_0 rfl dX9_lay_45 ?_
        refine lv_iload_n F.1 F.2.1 dX9_lay_48 rfl (lv_at hl 2 rfl) ?_
        obtain ⟨hi11, h⟩ := ck_e h
        refine q_aldq (t0 := 3) F hE hB po_37 rfl hi11 dX9_lay_49 ?_
        refine lv_iload_n F.1 F.2.1 dX9_lay_50 rfl (lv_at hl 4 rfl) ?_
        refine lv_iload F.1 F.2.1 dX9_lay_51 (lv_at hl 5 rfl) ?_
        obtain ⟨σ13, hc12, h⟩ := bv_e h
        refine q_cv hB (q_goV F hE hB (k_X5_put hI σ0 (38 + 2 * a1.toNatClampNeg) (sh_role hi11) a3 a4 hc12) (ca_RX9_255 F.2.2.2.2 ⟨Nat.le_of_ble_eq_true rfl, Nat.le_of_ble_eq_true rfl⟩) rfl (po_Sheet (sh_role hi11)) rfl hl.1 rfl (Nat.le_of_ble_eq_true rfl) dX9_lay_53 ⟨Nat.le_of_ble_eq_true rfl, Nat.le_of_ble_eq_true rfl⟩) (fun H locs hB => ?_)
        refine lv_iconst (v := 1) F.1 F.2.1 dX9_lay_56 (by decide) ?_
        exact q_iret F hlocks hr hB (so1 h) (so2 h) dX9_lay_57
      · replace h := ie_e c10 h
        refine lv_aload_n F.1 F.2.1 dX9_lay_37 rfl (lv_at hl 1 rfl) ?_
        refine lv_iload F.1 F.2.1 dX9_lay_38 (lv_at hl 0 rfl) ?_
        obtain ⟨v16, σ15, hc14, h⟩ := bi_e h
        refine q_ci hB (q_goV F hE hB (k_X9_find hI σ0 v9 hc14) (ca_RX9_142 F.2.2.2.2 ⟨Nat.le_of_ble_eq_true rfl, Nat.le_of_ble_eq_true rfl⟩) rfl po_0 rfl hl.1 rfl (Nat.le_of_ble_eq_true rfl) dX9_lay_40 ⟨Nat.le_of_ble_eq_true rfl, Nat.le_of_ble_eq_true rfl⟩) (fun H locs hB => ?_)
        exact q_iret F hlocks hr hB (so1 h) (so2 h) dX9_lay_43
    · replace h := it_e c6 h
      refine lv_bipush (v := (-2)) F.1 F.2.1 dX9_lay_16 (by decide) ?_
      exact q_iret F hlocks hr hB (so1 h) (so2 h) dX9_lay_18
