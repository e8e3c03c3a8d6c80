def f_X10_goesOn (σ0 : Mem) (a1 : Int32) (a2 : Int32) (a3 : Int32) (a4 : Int32) : Option (Mem) := (ck (((8 : Int32) * a2) + a3) 64 (lt (ms σ0 75 (((8 : Int32) * a2) + a3).toNatClampNeg a1) (fun σ2 => (ck (((8 : Int32) * a2) + a3) 64 (lt (ms σ2 76 (((8 : Int32) * a2) + a3).toNatClampNeg a4) (fun σ5 => (ck a3 8 (lt (ms σ5 74 a3.toNatClampNeg (a2 + (1 : Int32))) (fun σ8 => (lt (ms σ8 64 21 ((σ8.1 64 21) ||| ((1 : Int32) <<< (a3 &&& 31)))) (fun σ10 => (some σ10))))))))))))
set_option maxHeartbeats 4000000 in
set_option maxRecDepth 100000 in
theorem k_X10_goesOn {l : Launch} {D : va_G} {cy : Nat → ClassId} {ad : Nat → Nat} {ta tb : Nat} (hI : AdI ad) (σ0 : Mem) (a1 : Int32) (a2 : Int32) (a3 : Int32) (a4 : Int32) {o : Mem} (h : f_X10_goesOn σ0 a1 a2 a3 a4 = some o) : Met l yX10_goesOn (Cond.code yX10_goesOn cX10_goesOn 5 none :: wG) rm_X10_goesOn (CP D cy ad ta tb σ0 [.ref (ad 64), .int a1, .int a2, .int a3, .int a4]) (CQv D cy ad o) 0 0 (AA ad) := by
  refine Met.ofW (cc := cX10_goesOn) (maxL := 5) (ret := none) (by decide) rfl ?_
  intro p e s m args below meth c s₁ B hml hv
  obtain ⟨rfl, hE, hP⟩ := hv
  have hts := atoms_spec (ws := Cond.code yX10_goesOn cX10_goesOn 5 none :: wG) B.pre
  have F : CallFix p m c cX10_goesOn 5 s _ wG RX10 := ⟨B.exec, B.bytes, hml, findClass_of_methodNamed B.named, fun w hw => hts w (List.mem_cons_of_mem _ hw)⟩
  have hr := B.returns
  have hlocks := B.notSynchronized
  have hB : Bd D cy ad σ0 s.heap s.heap [] := ⟨hP, va_S.rf⟩
  have hl := lv_entry ([.ref (ad 64), .int a1, .int a2, .int a3, .int a4] : List Value) (n := 5) (Nat.le_of_ble_eq_true rfl)
  rw [lg_entry_eq]
  generalize (lg_sl ([.ref (ad 64), .int a1, .int a2, .int a3, .int a4] : List Value) ++ List.replicate (5 - (lg_sl ([.ref (ad 64), .int a1, .int a2, .int a3, .int a4] : List Value)).length) Slot.unset).toArray = ls at hl ⊢
  have hl : lv_has ls 5 [(0, .ref (ad 64)), (1, .int a1), (2, .int a2), (3, .int a3), (4, .int a4)] := hl
  unfold f_X10_goesOn at h
  refine lv_aload_n F.1 F.2.1 dX10_goesOn_0 rfl (lv_at hl 0 rfl) ?_
  refine gf_RX10_40 F hE hB po_64 rfl dX10_goesOn_1 ?_
  refine lv_bipush (v := 8) F.1 F.2.1 dX10_goesOn_4 (by decide) ?_
  refine lv_iload_n F.1 F.2.1 dX10_goesOn_6 rfl (lv_at hl 2 rfl) ?_
  refine lv_imul F.1 F.2.1 dX10_goesOn_7 ?_
  refine lv_iload_n F.1 F.2.1 dX10_goesOn_8 rfl (lv_at hl 3 rfl) ?_
  refine lv_iadd F.1 F.2.1 dX10_goesOn_9 ?_
  refine lv_iload_n F.1 F.2.1 dX10_goesOn_10 rfl (lv_at hl 1 rfl) ?_
  obtain ⟨hi1, h⟩ := ck_e h
  obtain ⟨σ2, e3, h⟩ := lt_e h
  refine q_iast F hE hI hB row_75 hi1 dX10_goesOn_11 e3 (fun H locs hB => ?_)
  refine lv_aload_n F.1 F.2.1 dX10_goesOn_12 rfl (lv_at hl 0 rfl) ?_
  refine gf_RX10_43 F hE hB po_64 rfl dX10_goesOn_13 ?_
  refine lv_bipush (v := 8) F.1 F.2.1 dX10_goesOn_16 (by decide) ?_
  refine lv_iload_n F.1 F.2.1 dX10_goesOn_18 rfl (lv_at hl 2 rfl) ?_
  refine lv_imul F.1 F.2.1 dX10_goesOn_19 ?_
  refine lv_iload_n F.1 F.2.1 dX10_goesOn_20 rfl (lv_at hl 3 rfl) ?_
  refine lv_iadd F.1 F.2.1 dX10_goesOn_21 ?_
  refine lv_iload F.1 F.2.1 dX10_goesOn_22 (lv_at hl 4 rfl) ?_
  obtain ⟨hi4, h⟩ := ck_e h
  obtain ⟨σ5, e6, h⟩ := lt_e h
  refine q_iast F hE hI hB row_76 hi4 dX10_goesOn_24 e6 (fun H locs hB => ?_)
  refine lv_aload_n F.1 F.2.1 dX10_goesOn_25 rfl (lv_at hl 0 rfl) ?_
  refine gf_RX10_37 F hE hB po_64 rfl dX10_goesOn_26 ?_
  refine lv_iload_n F.1 F.2.1 dX10_goesOn_29 rfl (lv_at hl 3 rfl) ?_
  refine lv_iload_n F.1 F.2.1 dX10_goesOn_30 rfl (lv_at hl 2 rfl) ?_
  refine lv_iconst (v := 1) F.1 F.2.1 dX10_goesOn_31 (by decide) ?_
  refine lv_iadd F.1 F.2.1 dX10_goesOn_32 ?_
  obtain ⟨hi7, h⟩ := ck_e h
  obtain ⟨σ8, e9, h⟩ := lt_e h
  refine q_iast F hE hI hB row_74 hi7 dX10_goesOn_33 e9 (fun H locs hB => ?_)
  refine lv_aload_n F.1 F.2.1 dX10_goesOn_34 rfl (lv_at hl 0 rfl) ?_
  refine lv_dup F.1 F.2.1 dX10_goesOn_35 rfl ?_
  refine gf_RX10_159 F hE hB po_64 rfl dX10_goesOn_36 ?_
  refine lv_iconst (v := 1) F.1 F.2.1 dX10_goesOn_39 (by decide) ?_
  refine lv_iload_n F.1 F.2.1 dX10_goesOn_40 rfl (lv_at hl 3 rfl) ?_
  refine lv_ishl F.1 F.2.1 dX10_goesOn_41 ?_
  refine lv_ior F.1 F.2.1 dX10_goesOn_42 ?_
  obtain ⟨σ10, e11, h⟩ := lt_e h
  refine pf_RX10_159 F hE hI hB po_64 rfl rfl (Nat.le_of_ble_eq_true rfl) rfl dX10_goesOn_43 e11 (fun H locs hB => ?_)
  exact q_vret F hlocks hr hB (Option.some.inj h) dX10_goesOn_46
def f_X10_opens_b93 (k64 : Mem → Int32 → Int32 → Int32 → Int32 → Int32 → Option (Mem)) (σ0 : Mem) (x1 : Int32) (x2 : Int32) (x3 : Int32) (x5 : Int32) (y0 : Int32) : Option (Mem) := (k64 σ0 x1 x2 x3 y0 (x5 + (-1 : Int32)))
def f_X10_opens_b91 (k64 : Mem → Int32 → Int32 → Int32 → Int32 → Int32 → Option (Mem)) (σ0 : Mem) (x1 : Int32) (x2 : Int32) (x3 : Int32) (x4 : Int32) (x5 : Int32) : Option (Mem) := (f_X10_opens_b93 k64 σ0 x1 x2 x3 x5 x4)
def f_X10_opens_b64 : Nat → Mem → Int32 → Int32 → Int32 → Int32 → Int32 → Option (Mem)
  | 0, _, _, _, _, _, _ => none
  | n64 + 1, σ0, x1, x2, x3, x4, x5 => (if x5 < (0 : Int32) then (if x3 = (-1 : Int32) then (some σ0) else (bv (f_X10_goesOn σ0 x1 x2 x3 (0 : Int32)) (fun σ5 => (if x4 = (-1 : Int32) then (some σ5) else (bv (f_X10_goesOn σ5 x1 x2 x4 (1 : Int32)) (fun σ8 => (some σ8))))))) else (ck x5 8 (if (σ0.1 74 x5.toNatClampNeg) = x2 then (if x5 = x3 then (f_X10_opens_b91 (f_X10_opens_b64 n64) σ0 x1 x2 x3 x4 x5) else (f_X10_opens_b93 (f_X10_opens_b64 n64) σ0 x1 x2 x3 x5 x5)) else (f_X10_opens_b91 (f_X10_opens_b64 n64) σ0 x1 x2 x3 x4 x5))))
def f_X10_opens_b46 (k10 : Mem → Int32 → Int32 → Int32 → Int32 → Option (Mem)) (σ0 : Mem) (x1 : Int32) (x2 : Int32) (x4 : Int32) (y0 : Int32) : Option (Mem) := (k10 σ0 x1 x2 y0 (x4 + (-1 : Int32)))
def f_X10_opens_b45 (k10 : Mem → Int32 → Int32 → Int32 → Int32 → Option (Mem)) (σ0 : Mem) (x1 : Int32) (x2 : Int32) (x3 : Int32) (x4 : Int32) : Option (Mem) := (f_X10_opens_b46 k10 σ0 x1 x2 x4 x3)
def f_X10_opens_b10 : Nat → Mem → Int32 → Int32 → Int32 → Int32 → Option (Mem)
  | 0, _, _, _, _, _ => none
  | n10 + 1, σ0, x1, x2, x3, x4 => (if x4 < (0 : Int32) then (f_X10_opens_b64 300 σ0 x1 x2 x3 (-1 : Int32) ((σ0.1 64 9) - (1 : Int32))) else (ck x4 8 (if (σ0.1 74 x4.toNatClampNeg) = x2 then (bp (f_X10_standing σ0 x2) (fun v15 => (bp (f_X10_isLifted σ0 v15 x4) (fun v17 => (if v17 = (0 : Int32) then (f_X10_opens_b45 (f_X10_opens_b10 n10) σ0 x1 x2 x3 x4) else (f_X10_opens_b46 (f_X10_opens_b10 n10) σ0 x1 x2 x4 x4)))))) else (f_X10_opens_b45 (f_X10_opens_b10 n10) σ0 x1 x2 x3 x4))))
def f_X10_opens (σ0 : Mem) (a1 : Int32) (a2 : Int32) : Option (Mem) := (f_X10_opens_b10 300 σ0 a1 a2 (-1 : Int32) ((σ0.1 64 9) - (1 : Int32)))
set_option maxHeartbeats 4000000 in
set_option maxRecDepth 100000 in
theorem k_X10_opens {l : Launch} {D : va_G} {cy : Nat → ClassId} {ad : Nat → Nat} {ta tb : Nat} (hI : AdI ad) (σ0 : Mem) (a1 : Int32) (a2 : Int32) {o : Mem} (h : f_X10_opens σ0 a1 a2 = some o) : Met l yX10_opens (Cond.code yX10_opens cX10_opens 6 none :: wG) rm_X10_opens (CP D cy ad ta tb σ0 [.ref (ad 64), .int a1, .int a2]) (CQv D cy ad o) 0 0 (AA ad) := by
  refine Met.ofW (cc := cX10_opens) (maxL := 6) (ret := none) (by decide) rfl ?_
  intro p e s m args below meth c s₁ B hml hv
  obtain ⟨rfl, hE, hP⟩ := hv
  have hts := atoms_spec (ws := Cond.code yX10_opens cX10_opens 6 none :: wG) B.pre
  have F : CallFix p m c cX10_opens 6 s _ wG RX10 := ⟨B.exec, B.bytes, hml, findClass_of_methodNamed B.named, fun w hw => hts w (List.mem_cons_of_mem _ hw)⟩
  have hr := B.returns
  have hlocks := B.notSynchronized
  have hB : Bd D cy ad σ0 s.heap s.heap [] := ⟨hP, va_S.rf⟩
  have hl := lv_entry ([.ref (ad 64), .int a1, .int a2] : List Value) (n := 6) (Nat.le_of_ble_eq_true rfl)
  rw [lg_entry_eq]
  generalize (lg_sl ([.ref (ad 64), .int a1, .int a2] : List Value) ++ List.replicate (6 - (lg_sl ([.ref (ad 64), .int a1, .int a2] : List Value)).length) Slot.unset).toArray = ls at hl ⊢
  have hl : lv_has ls 6 [(0, .ref (ad 64)), (1, .int a1), (2, .int a2)] := hl
  have B64 : ∀ (n64 : Nat) (σ0 : Mem) (H : Heap) (locs : List Loc) (ls : Array Slot) (x1 : Int32) (x2 : Int32) (x3 : Int32) (x4 : Int32) (x5 : Int32), f_X10_opens_b64 n64 σ0 x1 x2 x3 x4 x5 = some o → Bd D cy ad σ0 s.heap H locs → lv_has ls 6 [(0, .ref (ad 64)), (1, .int x1), (2, .int x2), (3, .int x3), (4, .int x4), (5, .int x5)] → W p l e rm_X10_opens s m ([.ref (ad 64), .int a1, .int a2] : List Value).toArray below meth c H locs 0 0 (MQ below (CQv D cy ad o) ([.ref (ad 64), .int a1, .int a2] : List Value).toArray s 0 0 (AA ad)) (F0 m 64 ls []) := by
    intro n64
    induction n64 with
    | zero => intro σ0 H locs ls x1 x2 x3 x4 x5 h hB hl; cases h
    | succ n64 ih64 =>
      have B93 : ∀ (σ0 : Mem) (H : Heap) (locs : List Loc) (ls : Array Slot) (x1 : Int32) (x2 : Int32) (x3 : Int32) (x5 : Int32) (y0 : Int32), f_X10_opens_b93 (f_X10_opens_b64 n64) σ0 x1 x2 x3 x5 y0 = some o → Bd D cy ad σ0 s.heap H locs → lv_has ls 6 [(0, .ref (ad 64)), (1, .int x1), (2, .int x2), (3, .int x3), (5, .int x5)] → W p l e rm_X10_opens s m ([.ref (ad 64), .int a1, .int a2] : List Value).toArray below meth c H locs 0 0 (MQ below (CQv D cy ad o) ([.ref (ad 64), .int a1, .int a2] : List Value).toArray s 0 0 (AA ad)) (F0 m 93 ls [.int y0]) := by
        intro σ0 H locs ls x1 x2 x3 x5 y0 h hB hl
        unfold f_X10_opens_b93 at h
        refine lv_istore (lv' := [(4, .int y0), (0, .ref (ad 64)), (1, .int x1), (2, .int x2), (3, .int x3), (5, .int x5)]) F.1 F.2.1 dX10_opens_93 hl (by decide) rfl (fun ls hl => ?_)
        refine lv_iinc (v := (x5 + (-1 : Int32))) (lv' := [(5, .int (x5 + (-1 : Int32))), (4, .int y0), (0, .ref (ad 64)), (1, .int x1), (2, .int x2), (3, .int x3)]) F.1 F.2.1 dX10_opens_95 hl (k := 5) rfl rfl (by decide) rfl (fun ls hl => ?_)
        refine lv_goto (tgt := 64) F.1 F.2.1 dX10_opens_98 (by decide) ?_
        exact ih64 σ0 _ _ _ x1 x2 x3 y0 (x5 + (-1 : Int32)) h hB (lv_sub hl [2, 3, 4, 5, 1, 0] rfl)
      have B91 : ∀ (σ0 : Mem) (H : Heap) (locs : List Loc) (ls : Array Slot) (x1 : Int32) (x2 : Int32) (x3 : Int32) (x4 : Int32) (x5 : Int32), f_X10_opens_b91 (f_X10_opens_b64 n64) σ0 x1 x2 x3 x4 x5 = some o → Bd D cy ad σ0 s.heap H locs → lv_has ls 6 [(0, .ref (ad 64)), (1, .int x1), (2, .int x2), (3, .int x3), (4, .int x4), (5, .int x5)] → W p l e rm_X10_opens s m ([.ref (ad 64), .int a1, .int a2] : List Value).toArray below meth c H locs 0 0 (MQ below (CQv D cy ad o) ([.ref (ad 64), .int a1, .int a2] : List Value).toArray s 0 0 (AA ad)) (F0 m 91 ls []) := by
        intro σ0 H locs ls x1 x2 x3 x4 x5 h hB hl
        unfold f_X10_opens_b91 at h
        refine lv_iload F.1 F.2.1 dX10_opens_91 (lv_at hl 4 rfl) ?_
        exact B93 σ0 _ _ _ x1 x2 x3 x5 x4 h hB (lv_sub hl [0, 1, 2, 3, 5] rfl)
      intro σ0 H locs ls x1 x2 x3 x4 x5 h hB hl
      rw [f_X10_opens_b64] at h
      refine lv_iload F.1 F.2.1 dX10_opens_64 (lv_at hl 5 rfl) ?_
      refine lv_if_lt (tgt := 101) F.1 F.2.1 dX10_opens_66 (by decide) (fun c2 => ?_) (fun c2 => ?_)
      · replace h := it_e c2 h
        refine lv_iload_n F.1 F.2.1 dX10_opens_101 rfl (lv_at hl 3 rfl) ?_
        refine lv_iconst (v := (-1)) F.1 F.2.1 dX10_opens_102 (by decide) ?_
        refine lv_icmp_eq (tgt := 129) F.1 F.2.1 dX10_opens_103 (by decide) (fun c3 => ?_) (fun c3 => ?_)
        · replace h := it_e c3 h
          exact q_vret F hlocks hr hB (Option.some.inj h) dX10_opens_129
        · replace h := ie_e c3 h
          refine lv_aload_n F.1 F.2.1 dX10_opens_106 rfl (lv_at hl 0 rfl) ?_
          refine lv_iload_n F.1 F.2.1 dX10_opens_107 rfl (lv_at hl 1 rfl) ?_
          refine lv_iload_n F.1 F.2.1 dX10_opens_108 rfl (lv_at hl 2 rfl) ?_
          refine lv_iload_n F.1 F.2.1 dX10_opens_109 rfl (lv_at hl 3 rfl) ?_
          refine lv_iconst (v := 0) F.1 F.2.1 dX10_opens_110 (by decide) ?_
          obtain ⟨σ5, hc4, h⟩ := bv_e h
          refine q_cv hB (q_goV F hE hB (k_X10_goesOn hI σ0 x1 x2 x3 (0 : Int32) hc4) (ca_RX10_165 F.2.2.2.2 ⟨Nat.le_of_ble_eq_true rfl, Nat.le_of_ble_eq_true rfl⟩) rfl po_64 rfl hl.1 rfl (Nat.le_of_ble_eq_true rfl) dX10_opens_111 ⟨Nat.le_of_ble_eq_true rfl, Nat.le_of_ble_eq_true rfl⟩) (fun H locs hB => ?_)
          refine lv_iload F.1 F.2.1 dX10_opens_114 (lv_at hl 4 rfl) ?_
          refine lv_iconst (v := (-1)) F.1 F.2.1 dX10_opens_116 (by decide) ?_
          refine lv_icmp_eq (tgt := 129) F.1 F.2.1 dX10_opens_117 (by decide) (fun c6 => ?_) (fun c6 => ?_)
          · replace h := it_e c6 h
            exact q_vret F hlocks hr hB (Option.some.inj h) dX10_opens_129
          · replace h := ie_e c6 h
            refine lv_aload_n F.1 F.2.1 dX10_opens_120 rfl (lv_at hl 0 rfl) ?_
            refine lv_iload_n F.1 F.2.1 dX10_opens_121 rfl (lv_at hl 1 rfl) ?_
            refine lv_iload_n F.1 F.2.1 dX10_opens_122 rfl (lv_at hl 2 rfl) ?_
            refine lv_iload F.1 F.2.1 dX10_opens_123 (lv_at hl 4 rfl) ?_
            refine lv_iconst (v := 1) F.1 F.2.1 dX10_opens_125 (by decide) ?_
            obtain ⟨σ8, hc7, h⟩ := bv_e h
            refine q_cv hB (q_goV F hE hB (k_X10_goesOn hI σ5 x1 x2 x4 (1 : Int32) hc7) (ca_RX10_165 F.2.2.2.2 ⟨Nat.le_of_ble_eq_true rfl, Nat.le_of_ble_eq_true rfl⟩) rfl po_64 rfl hl.1 rfl (Nat.le_of_ble_eq_true rfl) dX10_opens_126 ⟨Nat.le_of_ble_eq_true rfl, Nat.le_of_ble_eq_true rfl⟩) (fun H locs hB => ?_)
            exact q_vret F hlocks hr hB (Option.some.inj h) dX10_opens_129
      · replace h := ie_e c2 h
        refine lv_aload_n F.1 F.2.1 dX10_opens_69 rfl (lv_at hl 0 rfl) ?_
        refine gf_RX10_37 F hE hB po_64 rfl dX10_opens_70 ?_
        refine lv_iload F.1 F.2.1 dX10_opens_73 (lv_at hl 5 rfl) ?_
        obtain ⟨hi9, h⟩ := ck_e h
        refine q_iald F hE hB po_74 hi9 dX10_opens_75 ?_
        refine lv_iload_n F.1 F.2.1 dX10_opens_76 rfl (lv_at hl 2 rfl) ?_
        refine lv_icmp_ne (tgt := 91) F.1 F.2.1 dX10_opens_77 (by decide) (fun c10 => ?_) (fun c10 => ?_)
        · replace h := ie_e c10 h
          exact B91 σ0 _ _ _ x1 x2 x3 x4 x5 h hB (lv_sub hl [0, 1, 2, 3, 4, 5] rfl)
        · replace h := it_e c10 h
          refine lv_iload F.1 F.2.1 dX10_opens_80 (lv_at hl 5 rfl) ?_
          refine lv_iload_n F.1 F.2.1 dX10_opens_82 rfl (lv_at hl 3 rfl) ?_
          refine lv_icmp_eq (tgt := 91) F.1 F.2.1 dX10_opens_83 (by decide) (fun c11 => ?_) (fun c11 => ?_)
          · replace h := it_e c11 h
            exact B91 σ0 _ _ _ x1 x2 x3 x4 x5 h hB (lv_sub hl [0, 1, 2, 3, 4, 5] rfl)
          · replace h := ie_e c11 h
            refine lv_iload F.1 F.2.1 dX10_opens_86 (lv_at hl 5 rfl) ?_
            refine lv_goto (tgt := 93) F.1 F.2.1 dX10_opens_88 (by decide) ?_
            exact B93 σ0 _ _ _ x1 x2 x3 x5 x5 h hB (lv_sub hl [0, 1, 2, 3, 5] rfl)
  have B10 : ∀ (n10 : Nat) (σ0 : Mem) (H : Heap) (locs : List Loc) (ls : Array Slot) (x1 : Int32) (x2 : Int32) (x3 : Int32) (x4 : Int32), f_X10_opens_b10 n10 σ0 x1 x2 x3 x4 = some o → Bd D cy ad σ0 s.heap H locs → lv_has ls 6 [(0, .ref (ad 64)), (1, .int x1), (2, .int x2), (3, .int x3), (4, .int x4)] → W p l e rm_X10_opens s m ([.ref (ad 64), .int a1, .int a2] : List Value).toArray below meth c H locs 0 0 (MQ below (CQv D cy ad o) ([.ref (ad 64), .int a1, .int a2] : List Value).toArray s 0 0 (AA ad)) (F0 m 10 ls []) := by
    intro n10
    induction n10 with
    | zero => intro σ0 H locs ls x1 x2 x3 x4 h hB hl; cases h
    | succ n10 ih10 =>
      have B46 : ∀ (σ0 : Mem) (H : Heap) (locs : List Loc) (ls : Array Slot) (x1 : Int32) (x2 : Int32) (x4 : Int32) (y0 : Int32), f_X10_opens_b46 (f_X10_opens_b10 n10) σ0 x1 x2 x4 y0 = some o → Bd D cy ad σ0 s.heap H locs → lv_has ls 6 [(0, .ref (ad 64)), (1, .int x1), (2, .int x2), (4, .int x4)] → W p l e rm_X10_opens s m ([.ref (ad 64), .int a1, .int a2] : List Value).toArray below meth c H locs 0 0 (MQ below (CQv D cy ad o) ([.ref (ad 64), .int a1, .int a2] : List Value).toArray s 0 0 (AA ad)) (F0 m 46 ls [.int y0]) := by
        intro σ0 H locs ls x1 x2 x4 y0 h hB hl
        unfold f_X10_opens_b46 at h
        refine lv_istore_n (lv' := [(3, .int y0), (0, .ref (ad 64)), (1, .int x1), (2, .int x2), (4, .int x4)]) F.1 F.2.1 dX10_opens_46 rfl hl (by decide) rfl (fun ls hl => ?_)
        refine lv_iinc (v := (x4 + (-1 : Int32))) (lv' := [(4, .int (x4 + (-1 : Int32))), (3, .int y0), (0, .ref (ad 64)), (1, .int x1), (2, .int x2)]) F.1 F.2.1 dX10_opens_47 hl (k := 4) rfl rfl (by decide) rfl (fun ls hl => ?_)
        refine lv_goto (tgt := 10) F.1 F.2.1 dX10_opens_50 (by decide) ?_
        exact ih10 σ0 _ _ _ x1 x2 y0 (x4 + (-1 : Int32)) h hB (lv_sub hl [2, 3, 4, 1, 0] rfl)
      have B45 : ∀ (σ0 : Mem) (H : Heap) (locs : List Loc) (ls : Array Slot) (x1 : Int32) (x2 : Int32) (x3 : Int32) (x4 : Int32), f_X10_opens_b45 (f_X10_opens_b10 n10) σ0 x1 x2 x3 x4 = some o → Bd D cy ad σ0 s.heap H locs → lv_has ls 6 [(0, .ref (ad 64)), (1, .int x1), (2, .int x2), (3, .int x3), (4, .int x4)] → W p l e rm_X10_opens s m ([.ref (ad 64), .int a1, .int a2] : List Value).toArray below meth c H locs 0 0 (MQ below (CQv D cy ad o) ([.ref (ad 64), .int a1, .int a2] : List Value).toArray s 0 0 (AA ad)) (F0 m 45 ls []) := by
        intro σ0 H locs ls x1 x2 x3 x4 h hB hl
        unfold f_X10_opens_b45 at h
        refine lv_iload_n F.1 F.2.1 dX10_opens_45 rfl (lv_at hl 3 rfl) ?_
        exact B46 σ0 _ _ _ x1 x2 x4 x3 h hB (lv_sub hl [0, 1, 2, 4] rfl)
      intro σ0 H locs ls x1 x2 x3 x4 h hB hl
      rw [f_X10_opens_b10] at h
      refine lv_iload F.1 F.2.1 dX10_opens_10 (lv_at hl 4 rfl) ?_
      refine lv_if_lt (tgt := 53) F.1 F.2.1 dX10_opens_12 (by decide) (fun c1 => ?_) (fun c1 => ?_)
      · replace h := it_e c1 h
        refine lv_iconst (v := (-1)) F.1 F.2.1 dX10_opens_53 (by decide) ?_
        refine lv_istore (lv' := [(4, .int (-1 : Int32)), (0, .ref (ad 64)), (1, .int x1), (2, .int x2), (3, .int x3)]) F.1 F.2.1 dX10_opens_54 hl (by decide) rfl (fun ls hl => ?_)
        refine lv_aload_n F.1 F.2.1 dX10_opens_56 rfl (lv_at hl 1 rfl) ?_
        refine gf_RX10_111 F hE hB po_64 rfl dX10_opens_57 ?_
        refine lv_iconst (v := 1) F.1 F.2.1 dX10_opens_60 (by decide) ?_
        refine lv_isub F.1 F.2.1 dX10_opens_61 ?_
        refine lv_istore (lv' := [(5, .int ((σ0.1 64 9) - (1 : Int32))), (4, .int (-1 : Int32)), (0, .ref (ad 64)), (1, .int x1), (2, .int x2), (3, .int x3)]) F.1 F.2.1 dX10_opens_62 hl (by decide) rfl (fun ls hl => ?_)
        exact B64 300 σ0 _ _ _ x1 x2 x3 (-1 : Int32) ((σ0.1 64 9) - (1 : Int32)) h hB (lv_sub hl [2, 3, 4, 5, 1, 0] rfl)
      · replace h := ie_e c1 h
        refine lv_aload_n F.1 F.2.1 dX10_opens_15 rfl (lv_at hl 0 rfl) ?_
        refine gf_RX10_37 F hE hB po_64 rfl dX10_opens_16 ?_
        refine lv_iload F.1 F.2.1 dX10_opens_19 (lv_at hl 4 rfl) ?_
        obtain ⟨hi12, h⟩ := ck_e h
        refine q_iald F hE hB po_74 hi12 dX10_opens_21 ?_
        refine lv_iload_n F.1 F.2.1 dX10_opens_22 rfl (lv_at hl 2 rfl) ?_
        refine lv_icmp_ne (tgt := 45) F.1 F.2.1 dX10_opens_23 (by decide) (fun c13 => ?_) (fun c13 => ?_)
        · replace h := ie_e c13 h
          exact B45 σ0 _ _ _ x1 x2 x3 x4 h hB (lv_sub hl [0, 1, 2, 3, 4] rfl)
        · replace h := it_e c13 h
          refine lv_aload_n F.1 F.2.1 dX10_opens_26 rfl (lv_at hl 0 rfl) ?_
          refine lv_aload_n F.1 F.2.1 dX10_opens_27 rfl (lv_at hl 0 rfl) ?_
          refine lv_iload_n F.1 F.2.1 dX10_opens_28 rfl (lv_at hl 2 rfl) ?_
          obtain ⟨v15, hc14, h⟩ := bp_e h
          refine q_ci hB (q_goV F hE hB (k_X10_standing hI σ0 x2 hc14) (ca_RX10_162 F.2.2.2.2 ⟨Nat.le_of_ble_eq_true rfl, Nat.le_of_ble_eq_true rfl⟩) rfl po_64 rfl hl.1 rfl (Nat.le_of_ble_eq_true rfl) dX10_opens_29 ⟨Nat.le_of_ble_eq_true rfl, Nat.le_of_ble_eq_true rfl⟩) (fun H locs hB => ?_)
          refine lv_iload F.1 F.2.1 dX10_opens_32 (lv_at hl 4 rfl) ?_
          obtain ⟨v17, hc16, h⟩ := bp_e h
          refine q_ci hB (q_goV F hE hB (k_X10_isLifted hI σ0 v15 x4 hc16) (ca_RX10_156 F.2.2.2.2 ⟨Nat.le_of_ble_eq_true rfl, Nat.le_of_ble_eq_true rfl⟩) rfl po_64 rfl hl.1 rfl (Nat.le_of_ble_eq_true rfl) dX10_opens_34 ⟨Nat.le_of_ble_eq_true rfl, Nat.le_of_ble_eq_true rfl⟩) (fun H locs hB => ?_)
          refine lv_if_eq (tgt := 45) F.1 F.2.1 dX10_opens_37 (by decide) (fun c18 => ?_) (fun c18 => ?_)
          · replace h := it_e c18 h
            exact B45 σ0 _ _ _ x1 x2 x3 x4 h hB (lv_sub hl [0, 1, 2, 3, 4] rfl)
          · replace h := ie_e c18 h
            refine lv_iload F.1 F.2.1 dX10_opens_40 (lv_at hl 4 rfl) ?_
            refine lv_goto (tgt := 46) F.1 F.2.1 dX10_opens_42 (by decide) ?_
            exact B46 σ0 _ _ _ x1 x2 x4 x4 h hB (lv_sub hl [0, 1, 2, 4] rfl)
  unfold f_X10_opens at h
  refine lv_iconst (v := (-1)) F.1 F.2.1 dX10_opens_0 (by decide) ?_
  refine lv_istore_n (lv' := [(3, .int (-1 : Int32)), (0, .ref (ad 64)), (1, .int a1), (2, .int a2)]) F.1 F.2.1 dX10_opens_1 rfl hl (by decide) rfl (fun ls hl => ?_)
  refine lv_aload_n F.1 F.2.1 dX10_opens_2 rfl (lv_at hl 1 rfl) ?_
  refine gf_RX10_111 F hE hB po_64 rfl dX10_opens_3 ?_
  refine lv_iconst (v := 1) F.1 F.2.1 dX10_opens_6 (by decide) ?_
  refine lv_isub F.1 F.2.1 dX10_opens_7 ?_
  refine lv_istore (lv' := [(4, .int ((σ0.1 64 9) - (1 : Int32))), (3, .int (-1 : Int32)), (0, .ref (ad 64)), (1, .int a1), (2, .int a2)]) F.1 F.2.1 dX10_opens_8 hl (by decide) rfl (fun ls hl => ?_)
  exact B10 300 σ0 _ _ _ a1 a2 (-1 : Int32) ((σ0.1 64 9) - (1 : Int32)) h hB (lv_sub hl [2, 3, 4, 1, 0] rfl)
def f_X10_step_b168 (k78 : Mem → Int32 → Int32 → Option (Mem)) (σ0 : Mem) (x1 : Int32) (x2 : Int32) : Option (Mem) := (k78 σ0 x1 (x2 + (1 : Int32)))
def f_X10_step_b165 (k78 : Mem → Int32 → Int32 → Option (Mem)) (σ0 : Mem) (x1 : Int32) (x2 : Int32) (y0 : Int32) : Option (Mem) := (lt (ms σ0 64 19 y0) (fun σ25 => (f_X10_step_b168 k78 σ25 x1 x2)))
def f_X10_step_b145 (k78 : Mem → Int32 → Int32 → Option (Mem)) (σ0 : Mem) (x1 : Int32) (x2 : Int32) (y0 : Int32) : Option (Mem) := (lt (ms σ0 64 20 y0) (fun σ22 => (if (σ22.1 64 19) = (-1 : Int32) then (f_X10_step_b165 k78 σ22 x1 x2 x1) else (f_X10_step_b165 k78 σ22 x1 x2 (σ22.1 64 19)))))
def f_X10_step_b78 : Nat → Mem → Int32 → Int32 → Option (Mem)
  | 0, _, _, _ => none
  | n78 + 1, σ0, x1, x2 => (if (σ0.1 64 9) ≤ x2 then (some σ0) else (ck x2 8 (bp (f_X10_places σ0) (fun v10 => (bp (f_X10_in σ0 (σ0.1 74 x2.toNatClampNeg).toInt64 (0 : Int64) (v10 - (1 : Int32)).toInt64) (fun v12 => (if v12 = (0 : Int32) then (f_X10_step_b168 (f_X10_step_b78 n78) σ0 x1 x2) else (bp (f_X10_isIn σ0 (σ0.1 64 21) x2) (fun v15 => (if v15 = (0 : Int32) then (ck x2 8 (ck x2 8 (lt (ms σ0 77 x2.toNatClampNeg ((σ0.1 77 x2.toNatClampNeg) + (1 : Int32))) (fun σ19 => (if (σ19.1 64 19) = (-1 : Int32) then (f_X10_step_b145 (f_X10_step_b78 n78) σ19 x1 x2 x2) else (f_X10_step_b145 (f_X10_step_b78 n78) σ19 x1 x2 (σ19.1 64 20))))))) else (f_X10_step_b168 (f_X10_step_b78 n78) σ0 x1 x2)))))))))))
def f_X10_step_b60 : Nat → Mem → Int32 → Int32 → Option (Mem)
  | 0, _, _, _ => none
  | n60 + 1, σ0, x1, x2 => (if x2 < (0 : Int32) then (f_X10_step_b78 300 σ0 x1 (0 : Int32)) else (bv (f_X10_opens σ0 x1 x2) (fun σ28 => (f_X10_step_b60 n60 σ28 x1 (x2 + (-1 : Int32))))))
def f_X10_step_b46 (k7 : Mem → Int32 → Int32 → Option (Mem)) (σ0 : Mem) (x1 : Int32) (x2 : Int32) (y0 : Int32) (y1 : Int32) : Option (Mem) := (ck y1 8 (lt (ms σ0 74 y1.toNatClampNeg y0) (fun σ33 => (k7 σ33 x1 (x2 + (1 : Int32))))))
def f_X10_step_b7 : Nat → Mem → Int32 → Int32 → Option (Mem)
  | 0, _, _, _ => none
  | n7 + 1, σ0, x1, x2 => (if (σ0.1 64 9) ≤ x2 then (bp (f_X10_places σ0) (fun v5 => (f_X10_step_b60 300 σ0 x1 (v5 - (1 : Int32))))) else (ck (((7 : Int32) * x2) + (6 : Int32)) 56 (if (σ0.1 72 (((7 : Int32) * x2) + (6 : Int32)).toNatClampNeg) = x1 then (f_X10_step_b46 (f_X10_step_b7 n7) σ0 x1 x2 (0 : Int32) x2) else (ck x2 8 (f_X10_step_b46 (f_X10_step_b7 n7) σ0 x1 x2 (σ0.1 74 x2.toNatClampNeg) x2)))))
def f_X10_step (σ0 : Mem) (a1 : Int32) : Option (Mem) := (lt (ms σ0 64 21 (0 : Int32)) (fun σ1 => (f_X10_step_b7 300 σ1 a1 (0 : Int32))))
set_option maxHeartbeats 4000000 in
set_option maxRecDepth 100000 in
theorem k_X10_step {l : Launch} {D : va_G} {cy : Nat → ClassId} {ad : Nat → Nat} {ta tb : Nat} (hI : AdI ad) (σ0 : Mem) (a1 : Int32) {o : Mem} (h : f_X10_step σ0 a1 = some o) : Met l yX10_step (Cond.code yX10_step cX10_step 3 none :: wG) rm_X10_step (CP D cy ad ta tb σ0 [.ref (ad 64), .int a1]) (CQv D cy ad o) 0 0 (AA ad) := by
  refine Met.ofW (cc := cX10_step) (maxL := 3) (ret := none) (by decide) rfl ?_
  intro p e s m args below meth c s₁ B hml hv
  obtain ⟨rfl, hE, hP⟩ := hv
  have hts := atoms_spec (ws := Cond.code yX10_step cX10_step 3 none :: wG) B.pre
  have F : CallFix p m c cX10_step 3 s _ wG RX10 := ⟨B.exec, B.bytes, hml, findClass_of_methodNamed B.named, fun w hw => hts w (List.mem_cons_of_mem _ hw)⟩
  have hr := B.returns
  have hlocks := B.notSynchronized
  have hB : Bd D cy ad σ0 s.heap s.heap [] := ⟨hP, va_S.rf⟩
  have hl := lv_entry ([.ref (ad 64), .int a1] : List Value) (n := 3) (Nat.le_of_ble_eq_true rfl)
  rw [lg_entry_eq]
  generalize (lg_sl ([.ref (ad 64), .int a1] : List Value) ++ List.replicate (3 - (lg_sl ([.ref (ad 64), .int a1] : List Value)).length) Slot.unset).toArray = ls at hl ⊢
  have hl : lv_has ls 3 [(0, .ref (ad 64)), (1, .int a1)] := hl
  have B78 : ∀ (n78 : Nat) (σ0 : Mem) (H : Heap) (locs : List Loc) (ls : Array Slot) (x1 : Int32) (x2 : Int32), f_X10_step_b78 n78 σ0 x1 x2 = some o → Bd D cy ad σ0 s.heap H locs → lv_has ls 3 [(0, .ref (ad 64)), (1, .int x1), (2, .int x2)] → W p l e rm_X10_step s m ([.ref (ad 64), .int a1] : List Value).toArray below meth c H locs 0 0 (MQ below (CQv D cy ad o) ([.ref (ad 64), .int a1] : List Value).toArray s 0 0 (AA ad)) (F0 m 78 ls []) := by
    intro n78
    induction n78 with
    | zero => intro σ0 H locs ls x1 x2 h hB hl; cases h
    | succ n78 ih78 =>
      have B168 : ∀ (σ0 : Mem) (H : Heap) (locs : List Loc) (ls : Array Slot) (x1 : Int32) (x2 : Int32), f_X10_step_b168 (f_X10_step_b78 n78) σ0 x1 x2 = some o → Bd D cy ad σ0 s.heap H locs → lv_has ls 3 [(0, .ref (ad 64)), (1, .int x1), (2, .int x2)] → W p l e rm_X10_step s m ([.ref (ad 64), .int a1] : List Value).toArray below meth c H locs 0 0 (MQ below (CQv D cy ad o) ([.ref (ad 64), .int a1] : List Value).toArray s 0 0 (AA ad)) (F0 m 168 ls []) := by
        intro σ0 H locs ls x1 x2 h hB hl
        unfold f_X10_step_b168 at h
        refine lv_iinc (v := (x2 + (1 : Int32))) (lv' := [(2, .int (x2 + (1 : Int32))), (0, .ref (ad 64)), (1, .int x1)]) F.1 F.2.1 dX10_step_168 hl (k := 2) rfl rfl (by decide) rfl (fun ls hl => ?_)
        refine lv_goto (tgt := 78) F.1 F.2.1 dX10_step_171 (by decide) ?_
        exact ih78 σ0 _ _ _ x1 (x2 + (1 : Int32)) h hB (lv_sub hl [1, 2, 0] rfl)
      have B165 : ∀ (σ0 : Mem) (H : Heap) (locs : List Loc) (ls : Array Slot) (x1 : Int32) (x2 : Int32) (y0 : Int32), f_X10_step_b165 (f_X10_step_b78 n78) σ0 x1 x2 y0 = some o → Bd D cy ad σ0 s.heap H locs → lv_has ls 3 [(0, .ref (ad 64)), (1, .int x1), (2, .int x2)] → W p l e rm_X10_step s m ([.ref (ad 64), .int a1] : List Value).toArray below meth c H locs 0 0 (MQ below (CQv D cy ad o) ([.ref (ad 64), .int a1] : List Value).toArray s 0 0 (AA ad)) (F0 m 165 ls [.int y0, .ref (ad 64)]) := by
        intro σ0 H locs ls x1 x2 y0 h hB hl
        unfold f_X10_step_b165 at h
        obtain ⟨σ25, e26, h⟩ := lt_e h
        refine pf_RX10_176 F hE hI hB po_64 rfl rfl (Nat.le_of_ble_eq_true rfl) rfl dX10_step_165 e26 (fun H locs hB => ?_)
        exact B168 σ25 _ _ _ x1 x2 h hB (lv_sub hl [0, 1, 2] rfl)
      have B145 : ∀ (σ0 : Mem) (H : Heap) (locs : List Loc) (ls : Array Slot) (x1 : Int32) (x2 : Int32) (y0 : Int32), f_X10_step_b145 (f_X10_step_b78 n78) σ0 x1 x2 y0 = some o → Bd D cy ad σ0 s.heap H locs → lv_has ls 3 [(0, .ref (ad 64)), (1, .int x1), (2, .int x2)] → W p l e rm_X10_step s m ([.ref (ad 64), .int a1] : List Value).toArray below meth c H locs 0 0 (MQ below (CQv D cy ad o) ([.ref (ad 64), .int a1] : List Value).toArray s 0 0 (AA ad)) (F0 m 145 ls [.int y0, .ref (ad 64)]) := by
        intro σ0 H locs ls x1 x2 y0 h hB hl
        unfold f_X10_step_b145 at h
        obtain ⟨σ22, e23, h⟩ := lt_e h
        refine pf_RX10_179 F hE hI hB po_64 rfl rfl (Nat.le_of_ble_eq_true rfl) rfl dX10_step_145 e23 (fun H locs hB => ?_)
        refine lv_aload_n F.1 F.2.1 dX10_step_148 rfl (lv_at hl 0 rfl) ?_
        refine lv_aload_n F.1 F.2.1 dX10_step_149 rfl (lv_at hl 0 rfl) ?_
        refine gf_RX10_176 F hE hB po_64 rfl dX10_step_150 ?_
        refine lv_iconst (v := (-1)) F.1 F.2.1 dX10_step_153 (by decide) ?_
        refine lv_icmp_ne (tgt := 161) F.1 F.2.1 dX10_step_154 (by decide) (fun c24 => ?_) (fun c24 => ?_)
        · replace h := ie_e c24 h
          refine lv_aload_n F.1 F.2.1 dX10_step_161 rfl (lv_at hl 0 rfl) ?_
          refine gf_RX10_176 F hE hB po_64 rfl dX10_step_162 ?_
          exact B165 σ22 _ _ _ x1 x2 (σ22.1 64 19) h hB (lv_sub hl [0, 1, 2] rfl)
        · replace h := it_e c24 h
          refine lv_iload_n F.1 F.2.1 dX10_step_157 rfl (lv_at hl 1 rfl) ?_
          refine lv_goto (tgt := 165) F.1 F.2.1 dX10_step_158 (by decide) ?_
          exact B165 σ22 _ _ _ x1 x2 x1 h hB (lv_sub hl [0, 1, 2] rfl)
      intro σ0 H locs ls x1 x2 h hB hl
      rw [f_X10_step_b78] at h
      refine lv_iload_n F.1 F.2.1 dX10_step_78 rfl (lv_at hl 2 rfl) ?_
      refine lv_aload_n F.1 F.2.1 dX10_step_79 rfl (lv_at hl 0 rfl) ?_
      refine gf_RX10_111 F hE hB po_64 rfl dX10_step_80 ?_
      refine lv_icmp_ge (tgt := 174) F.1 F.2.1 dX10_step_83 (by decide) (fun c7 => ?_) (fun c7 => ?_)
      · replace h := it_e c7 h
        exact q_vret F hlocks hr hB (Option.some.inj h) dX10_step_174
      · replace h := ie_e c7 h
        refine lv_aload_n F.1 F.2.1 dX10_step_86 rfl (lv_at hl 0 rfl) ?_
        refine gf_RX10_37 F hE hB po_64 rfl dX10_step_87 ?_
        refine lv_iload_n F.1 F.2.1 dX10_step_90 rfl (lv_at hl 2 rfl) ?_
        obtain ⟨hi8, h⟩ := ck_e h
        refine q_iald F hE hB po_74 hi8 dX10_step_91 ?_
        refine lv_i2l F.1 F.2.1 dX10_step_92 rfl ?_
        refine lv_lconst (v := 0) F.1 F.2.1 dX10_step_93 (by decide) ?_
        refine lv_aload_n F.1 F.2.1 dX10_step_94 rfl (lv_at hl 0 rfl) ?_
        obtain ⟨v10, hc9, h⟩ := bp_e h
        refine q_ci hB (q_goV F hE hB (k_X10_places hI σ0 hc9) (ca_RX10_169 F.2.2.2.2 ⟨Nat.le_of_ble_eq_true rfl, Nat.le_of_ble_eq_true rfl⟩) rfl po_64 rfl hl.1 rfl (Nat.le_of_ble_eq_true rfl) dX10_step_95 ⟨Nat.le_of_ble_eq_true rfl, Nat.le_of_ble_eq_true rfl⟩) (fun H locs hB => ?_)
        refine lv_iconst (v := 1) F.1 F.2.1 dX10_step_98 (by decide) ?_
        refine lv_isub F.1 F.2.1 dX10_step_99 ?_
        refine lv_i2l F.1 F.2.1 dX10_step_100 rfl ?_
        obtain ⟨v12, hc11, h⟩ := bp_e h
        refine q_ci hB (q_goS F hE hB (k_X10_in hI σ0 (σ0.1 74 x2.toNatClampNeg).toInt64 (0 : Int64) (v10 - (1 : Int32)).toInt64 hc11) (ca_RX10_64 F.2.2.2.2 ⟨Nat.le_of_ble_eq_true rfl, Nat.le_of_ble_eq_true rfl⟩) rfl hl.1 rfl (Nat.le_of_ble_eq_true rfl) dX10_step_101 ⟨Nat.le_of_ble_eq_true rfl, Nat.le_of_ble_eq_true rfl⟩) (fun H locs hB => ?_)
        refine lv_if_eq (tgt := 168) F.1 F.2.1 dX10_step_104 (by decide) (fun c13 => ?_) (fun c13 => ?_)
        · replace h := it_e c13 h
          exact B168 σ0 _ _ _ x1 x2 h hB (lv_sub hl [0, 1, 2] rfl)
        · replace h := ie_e c13 h
          refine lv_aload_n F.1 F.2.1 dX10_step_107 rfl (lv_at hl 0 rfl) ?_
          refine gf_RX10_159 F hE hB po_64 rfl dX10_step_108 ?_
          refine lv_iload_n F.1 F.2.1 dX10_step_111 rfl (lv_at hl 2 rfl) ?_
          obtain ⟨v15, hc14, h⟩ := bp_e h
          refine q_ci hB (q_goS F hE hB (k_X10_isIn hI σ0 (σ0.1 64 21) x2 hc14) (ca_RX10_149 F.2.2.2.2 ⟨Nat.le_of_ble_eq_true rfl, Nat.le_of_ble_eq_true rfl⟩) rfl hl.1 rfl (Nat.le_of_ble_eq_true rfl) dX10_step_112 ⟨Nat.le_of_ble_eq_true rfl, Nat.le_of_ble_eq_true rfl⟩) (fun H locs hB => ?_)
          refine lv_if_ne (tgt := 168) F.1 F.2.1 dX10_step_115 (by decide) (fun c16 => ?_) (fun c16 => ?_)
          · replace h := ie_e c16 h
            exact B168 σ0 _ _ _ x1 x2 h hB (lv_sub hl [0, 1, 2] rfl)
          · replace h := it_e c16 h
            refine lv_aload_n F.1 F.2.1 dX10_step_118 rfl (lv_at hl 0 rfl) ?_
            refine gf_RX10_46 F hE hB po_64 rfl dX10_step_119 ?_
            refine lv_iload_n F.1 F.2.1 dX10_step_122 rfl (lv_at hl 2 rfl) ?_
            refine lv_dup2_11 F.1 F.2.1 dX10_step_123 rfl rfl ?_
            obtain ⟨hi17, h⟩ := ck_e h
            refine q_iald F hE hB po_77 hi17 dX10_step_124 ?_
            refine lv_iconst (v := 1) F.1 F.2.1 dX10_step_125 (by decide) ?_
            refine lv_iadd F.1 F.2.1 dX10_step_126 ?_
            obtain ⟨hi18, h⟩ := ck_e h
            obtain ⟨σ19, e20, h⟩ := lt_e h
            refine q_iast F hE hI hB row_77 hi18 dX10_step_127 e20 (fun H locs hB => ?_)
            refine lv_aload_n F.1 F.2.1 dX10_step_128 rfl (lv_at hl 0 rfl) ?_
            refine lv_aload_n F.1 F.2.1 dX10_step_129 rfl (lv_at hl 0 rfl) ?_
            refine gf_RX10_176 F hE hB po_64 rfl dX10_step_130 ?_
            refine lv_iconst (v := (-1)) F.1 F.2.1 dX10_step_133 (by decide) ?_
            refine lv_icmp_ne (tgt := 141) F.1 F.2.1 dX10_step_134 (by decide) (fun c21 => ?_) (fun c21 => ?_)
            · replace h := ie_e c21 h
              refine lv_aload_n F.1 F.2.1 dX10_step_141 rfl (lv_at hl 0 rfl) ?_
              refine gf_RX10_179 F hE hB po_64 rfl dX10_step_142 ?_
              exact B145 σ19 _ _ _ x1 x2 (σ19.1 64 20) h hB (lv_sub hl [0, 1, 2] rfl)
            · replace h := it_e c21 h
              refine lv_iload_n F.1 F.2.1 dX10_step_137 rfl (lv_at hl 2 rfl) ?_
              refine lv_goto (tgt := 145) F.1 F.2.1 dX10_step_138 (by decide) ?_
              exact B145 σ19 _ _ _ x1 x2 x2 h hB (lv_sub hl [0, 1, 2] rfl)
  have B60 : ∀ (n60 : Nat) (σ0 : Mem) (H : Heap) (locs : List Loc) (ls : Array Slot) (x1 : Int32) (x2 : Int32), f_X10_step_b60 n60 σ0 x1 x2 = some o → Bd D cy ad σ0 s.heap H locs → lv_has ls 3 [(0, .ref (ad 64)), (1, .int x1), (2, .int x2)] → W p l e rm_X10_step s m ([.ref (ad 64), .int a1] : List Value).toArray below meth c H locs 0 0 (MQ below (CQv D cy ad o) ([.ref (ad 64), .int a1] : List Value).toArray s 0 0 (AA ad)) (F0 m 60 ls []) := by
    intro n60
    induction n60 with
    | zero => intro σ0 H locs ls x1 x2 h hB hl; cases h
    | succ n60 ih60 =>
      intro σ0 H locs ls x1 x2 h hB hl
      rw [f_X10_step_b60] at h
      refine lv_iload_n F.1 F.2.1 dX10_step_60 rfl (lv_at hl 2 rfl) ?_
      refine lv_if_lt (tgt := 76) F.1 F.2.1 dX10_step_61 (by decide) (fun c6 => ?_) (fun c6 => ?_)
      · replace h := it_e c6 h
        refine lv_iconst (v := 0) F.1 F.2.1 dX10_step_76 (by decide) ?_
        refine lv_istore_n (lv' := [(2, .int (0 : Int32)), (0, .ref (ad 64)), (1, .int x1)]) F.1 F.2.1 dX10_step_77 rfl hl (by decide) rfl (fun ls hl => ?_)
        exact B78 300 σ0 _ _ _ x1 (0 : Int32) h hB (lv_sub hl [1, 2, 0] rfl)
      · replace h := ie_e c6 h
        refine lv_aload_n F.1 F.2.1 dX10_step_64 rfl (lv_at hl 0 rfl) ?_
        refine lv_iload_n F.1 F.2.1 dX10_step_65 rfl (lv_at hl 1 rfl) ?_
        refine lv_iload_n F.1 F.2.1 dX10_step_66 rfl (lv_at hl 2 rfl) ?_
        obtain ⟨σ28, hc27, h⟩ := bv_e h
        refine q_cv hB (q_goV F hE hB (k_X10_opens hI σ0 x1 x2 hc27) (ca_RX10_172 F.2.2.2.2 ⟨Nat.le_of_ble_eq_true rfl, Nat.le_of_ble_eq_true rfl⟩) rfl po_64 rfl hl.1 rfl (Nat.le_of_ble_eq_true rfl) dX10_step_67 ⟨Nat.le_of_ble_eq_true rfl, Nat.le_of_ble_eq_true rfl⟩) (fun H locs hB => ?_)
        refine lv_iinc (v := (x2 + (-1 : Int32))) (lv' := [(2, .int (x2 + (-1 : Int32))), (0, .ref (ad 64)), (1, .int x1)]) F.1 F.2.1 dX10_step_70 hl (k := 2) rfl rfl (by decide) rfl (fun ls hl => ?_)
        refine lv_goto (tgt := 60) F.1 F.2.1 dX10_step_73 (by decide) ?_
        exact ih60 σ28 _ _ _ x1 (x2 + (-1 : Int32)) h hB (lv_sub hl [1, 2, 0] rfl)
  have B7 : ∀ (n7 : Nat) (σ0 : Mem) (H : Heap) (locs : List Loc) (ls : Array Slot) (x1 : Int32) (x2 : Int32), f_X10_step_b7 n7 σ0 x1 x2 = some o → Bd D cy ad σ0 s.heap H locs → lv_has ls 3 [(0, .ref (ad 64)), (1, .int x1), (2, .int x2)] → W p l e rm_X10_step s m ([.ref (ad 64), .int a1] : List Value).toArray below meth c H locs 0 0 (MQ below (CQv D cy ad o) ([.ref (ad 64), .int a1] : List Value).toArray s 0 0 (AA ad)) (F0 m 7 ls []) := by
    intro n7
    induction n7 with
    | zero => intro σ0 H locs ls x1 x2 h hB hl; cases h
    | succ n7 ih7 =>
      have B46 : ∀ (σ0 : Mem) (H : Heap) (locs : List Loc) (ls : Array Slot) (x1 : Int32) (x2 : Int32) (y0 : Int32) (y1 : Int32), f_X10_step_b46 (f_X10_step_b7 n7) σ0 x1 x2 y0 y1 = some o → Bd D cy ad σ0 s.heap H locs → lv_has ls 3 [(0, .ref (ad 64)), (1, .int x1), (2, .int x2)] → W p l e rm_X10_step s m ([.ref (ad 64), .int a1] : List Value).toArray below meth c H locs 0 0 (MQ below (CQv D cy ad o) ([.ref (ad 64), .int a1] : List Value).toArray s 0 0 (AA ad)) (F0 m 46 ls [.int y0, .int y1, .ref (ad 74)]) := by
        intro σ0 H locs ls x1 x2 y0 y1 h hB hl
        unfold f_X10_step_b46 at h
        obtain ⟨hi32, h⟩ := ck_e h
        obtain ⟨σ33, e34, h⟩ := lt_e h
        refine q_iast F hE hI hB row_74 hi32 dX10_step_46 e34 (fun H locs hB => ?_)
        refine lv_iinc (v := (x2 + (1 : Int32))) (lv' := [(2, .int (x2 + (1 : Int32))), (0, .ref (ad 64)), (1, .int x1)]) F.1 F.2.1 dX10_step_47 hl (k := 2) rfl rfl (by decide) rfl (fun ls hl => ?_)
        refine lv_goto (tgt := 7) F.1 F.2.1 dX10_step_50 (by decide) ?_
        exact ih7 σ33 _ _ _ x1 (x2 + (1 : Int32)) h hB (lv_sub hl [1, 2, 0] rfl)
      intro σ0 H locs ls x1 x2 h hB hl
      rw [f_X10_step_b7] at h
      refine lv_iload_n F.1 F.2.1 dX10_step_7 rfl (lv_at hl 2 rfl) ?_
      refine lv_aload_n F.1 F.2.1 dX10_step_8 rfl (lv_at hl 0 rfl) ?_
      refine gf_RX10_111 F hE hB po_64 rfl dX10_step_9 ?_
      refine lv_icmp_ge (tgt := 53) F.1 F.2.1 dX10_step_12 (by decide) (fun c3 => ?_) (fun c3 => ?_)
      · replace h := it_e c3 h
        refine lv_aload_n F.1 F.2.1 dX10_step_53 rfl (lv_at hl 0 rfl) ?_
        obtain ⟨v5, hc4, h⟩ := bp_e h
        refine q_ci hB (q_goV F hE hB (k_X10_places hI σ0 hc4) (ca_RX10_169 F.2.2.2.2 ⟨Nat.le_of_ble_eq_true rfl, Nat.le_of_ble_eq_true rfl⟩) rfl po_64 rfl hl.1 rfl (Nat.le_of_ble_eq_true rfl) dX10_step_54 ⟨Nat.le_of_ble_eq_true rfl, Nat.le_of_ble_eq_true rfl⟩) (fun H locs hB => ?_)
        refine lv_iconst (v := 1) F.1 F.2.1 dX10_step_57 (by decide) ?_
        refine lv_isub F.1 F.2.1 dX10_step_58 ?_
        refine lv_istore_n (lv' := [(2, .int (v5 - (1 : Int32))), (0, .ref (ad 64)), (1, .int x1)]) F.1 F.2.1 dX10_step_59 rfl hl (by decide) rfl (fun ls hl => ?_)
        exact B60 300 σ0 _ _ _ x1 (v5 - (1 : Int32)) h hB (lv_sub hl [1, 2, 0] rfl)
      · replace h := ie_e c3 h
        refine lv_aload_n F.1 F.2.1 dX10_step_15 rfl (lv_at hl 0 rfl) ?_
        refine gf_RX10_37 F hE hB po_64 rfl dX10_step_16 ?_
        refine lv_iload_n F.1 F.2.1 dX10_step_19 rfl (lv_at hl 2 rfl) ?_
        refine lv_aload_n F.1 F.2.1 dX10_step_20 rfl (lv_at hl 0 rfl) ?_
        refine gf_RX10_31 F hE hB po_64 rfl dX10_step_21 ?_
        refine lv_bipush (v := 7) F.1 F.2.1 dX10_step_24 (by decide) ?_
        refine lv_iload_n F.1 F.2.1 dX10_step_26 rfl (lv_at hl 2 rfl) ?_
        refine lv_imul F.1 F.2.1 dX10_step_27 ?_
        refine lv_bipush (v := 6) F.1 F.2.1 dX10_step_28 (by decide) ?_
        refine lv_iadd F.1 F.2.1 dX10_step_30 ?_
        obtain ⟨hi29, h⟩ := ck_e h
        refine q_iald F hE hB po_72 hi29 dX10_step_31 ?_
        refine lv_iload_n F.1 F.2.1 dX10_step_32 rfl (lv_at hl 1 rfl) ?_
        refine lv_icmp_ne (tgt := 40) F.1 F.2.1 dX10_step_33 (by decide) (fun c30 => ?_) (fun c30 => ?_)
        · replace h := ie_e c30 h
          refine lv_aload_n F.1 F.2.1 dX10_step_40 rfl (lv_at hl 0 rfl) ?_
          refine gf_RX10_37 F hE hB po_64 rfl dX10_step_41 ?_
          refine lv_iload_n F.1 F.2.1 dX10_step_44 rfl (lv_at hl 2 rfl) ?_
          obtain ⟨hi31, h⟩ := ck_e h
          refine q_iald F hE hB po_74 hi31 dX10_step_45 ?_
          exact B46 σ0 _ _ _ x1 x2 (σ0.1 74 x2.toNatClampNeg) x2 h hB (lv_sub hl [0, 1, 2] rfl)
        · replace h := it_e c30 h
          refine lv_iconst (v := 0) F.1 F.2.1 dX10_step_36 (by decide) ?_
          refine lv_goto (tgt := 46) F.1 F.2.1 dX10_step_37 (by decide) ?_
          exact B46 σ0 _ _ _ x1 x2 (0 : Int32) x2 h hB (lv_sub hl [0, 1, 2] rfl)
  unfold f_X10_step at h
  refine lv_aload_n F.1 F.2.1 dX10_step_0 rfl (lv_at hl 0 rfl) ?_
  refine lv_iconst (v := 0) F.1 F.2.1 dX10_step_1 (by decide) ?_
  obtain ⟨σ1, e2, h⟩ := lt_e h
  refine pf_RX10_159 F hE hI hB po_64 rfl rfl (Nat.le_of_ble_eq_true rfl) rfl dX10_step_2 e2 (fun H locs hB => ?_)
  refine lv_iconst (v := 0) F.1 F.2.1 dX10_step_5 (by decide) ?_
  refine lv_istore_n (lv' := [(2, .int (0 : Int32)), (0, .ref (ad 64)), (1, .int a1)]) F.1 F.2.1 dX10_step_6 rfl hl (by decide) rfl (fun ls hl => ?_)
  exact B7 300 σ1 _ _ _ a1 (0 : Int32) h hB (lv_sub hl [1, 2, 0] rfl)
def f_X10_lives_b68 : Nat → Mem → Int32 → Int32 → Option (Mem)
  | 0, _, _, _ => none
  | n68 + 1, σ0, x1, x2 => (if x1 < x2 then (some σ0) else (bv (f_X10_step σ0 x2) (fun σ9 => (f_X10_lives_b68 n68 σ9 x1 (x2 + (1 : Int32))))))
def f_X10_lives_b40 : Nat → Mem → Int32 → Int32 → Option (Mem)
  | 0, _, _, _ => none
  | n40 + 1, σ0, x1, x2 => (if (64 : Int32) ≤ x2 then (f_X10_lives_b68 300 σ0 x1 (0 : Int32)) else (ck x2 64 (lt (ms σ0 75 x2.toNatClampNeg (-1 : Int32)) (fun σ11 => (ck x2 64 (lt (ms σ11 76 x2.toNatClampNeg (0 : Int32)) (fun σ14 => (f_X10_lives_b40 n40 σ14 x1 (x2 + (1 : Int32))))))))))
def f_X10_lives_b12 : Nat → Mem → Int32 → Int32 → Option (Mem)
  | 0, _, _, _ => none
  | n12 + 1, σ0, x1, x2 => (if (8 : Int32) ≤ x2 then (f_X10_lives_b40 300 σ0 x1 (0 : Int32)) else (ck x2 8 (lt (ms σ0 74 x2.toNatClampNeg (-1 : Int32)) (fun σ17 => (ck x2 8 (lt (ms σ17 77 x2.toNatClampNeg (0 : Int32)) (fun σ20 => (f_X10_lives_b12 n12 σ20 x1 (x2 + (1 : Int32))))))))))
def f_X10_lives (σ0 : Mem) (a1 : Int32) : Option (Mem) := (lt (ms σ0 64 19 (-1 : Int32)) (fun σ1 => (lt (ms σ1 64 20 (-1 : Int32)) (fun σ3 => (f_X10_lives_b12 300 σ3 a1 (0 : Int32))))))
set_option maxHeartbeats 4000000 in
set_option maxRecDepth 100000 in
theorem k_X10_lives {l : Launch} {D : va_G} {cy : Nat → ClassId} {ad : Nat → Nat} {ta tb : Nat} (hI : AdI ad) (σ0 : Mem) (a1 : Int32) {o : Mem} (h : f_X10_lives σ0 a1 = some o) : Met l yX10_lives (Cond.code yX10_lives cX10_lives 3 none :: wG) rm_X10_lives (CP D cy ad ta tb σ0 [.ref (ad 64), .int a1]) (CQv D cy ad o) 0 0 (AA ad) := by
  refine Met.ofW (cc := cX10_lives) (maxL := 3) (ret := none) (by decide) rfl ?_
  intro p e s m args below meth c s₁ B hml hv
  obtain ⟨rfl, hE, hP⟩ := hv
  have hts := atoms_spec (ws := Cond.code yX10_lives cX10_lives 3 none :: wG) B.pre
  have F : CallFix p m c cX10_lives 3 s _ wG RX10 := ⟨B.exec, B.bytes, hml, findClass_of_methodNamed B.named, fun w hw => hts w (List.mem_cons_of_mem _ hw)⟩
  have hr := B.returns
  have hlocks := B.notSynchronized
  have hB : Bd D cy ad σ0 s.heap s.heap [] := ⟨hP, va_S.rf⟩
  have hl := lv_entry ([.ref (ad 64), .int a1] : List Value) (n := 3) (Nat.le_of_ble_eq_true rfl)
  rw [lg_entry_eq]
  generalize (lg_sl ([.ref (ad 64), .int a1] : List Value) ++ List.replicate (3 - (lg_sl ([.ref (ad 64), .int a1] : List Value)).length) Slot.unset).toArray = ls at hl ⊢
  have hl : lv_has ls 3 [(0, .ref (ad 64)), (1, .int a1)] := hl
  have B68 : ∀ (n68 : Nat) (σ0 : Mem) (H : Heap) (locs : List Loc) (ls : Array Slot) (x1 : Int32) (x2 : Int32), f_X10_lives_b68 n68 σ0 x1 x2 = some o → Bd D cy ad σ0 s.heap H locs → lv_has ls 3 [(0, .ref (ad 64)), (1, .int x1), (2, .int x2)] → W p l e rm_X10_lives s m ([.ref (ad 64), .int a1] : List Value).toArray below meth c H locs 0 0 (MQ below (CQv D cy ad o) ([.ref (ad 64), .int a1] : List Value).toArray s 0 0 (AA ad)) (F0 m 68 ls []) := by
    intro n68
    induction n68 with
    | zero => intro σ0 H locs ls x1 x2 h hB hl; cases h
    | succ n68 ih68 =>
      intro σ0 H locs ls x1 x2 h hB hl
      rw [f_X10_lives_b68] at h
      refine lv_iload_n F.1 F.2.1 dX10_lives_68 rfl (lv_at hl 2 rfl) ?_
      refine lv_iload_n F.1 F.2.1 dX10_lives_69 rfl (lv_at hl 1 rfl) ?_
      refine lv_icmp_gt (tgt := 84) F.1 F.2.1 dX10_lives_70 (by decide) (fun c7 => ?_) (fun c7 => ?_)
      · replace h := it_e c7 h
        exact q_vret F hlocks hr hB (Option.some.inj h) dX10_lives_84
      · replace h := ie_e c7 h
        refine lv_aload_n F.1 F.2.1 dX10_lives_73 rfl (lv_at hl 0 rfl) ?_
        refine lv_iload_n F.1 F.2.1 dX10_lives_74 rfl (lv_at hl 2 rfl) ?_
        obtain ⟨σ9, hc8, h⟩ := bv_e h
        refine q_cv hB (q_goV F hE hB (k_X10_step hI σ0 x2 hc8) (ca_RX10_182 F.2.2.2.2 ⟨Nat.le_of_ble_eq_true rfl, Nat.le_of_ble_eq_true rfl⟩) rfl po_64 rfl hl.1 rfl (Nat.le_of_ble_eq_true rfl) dX10_lives_75 ⟨Nat.le_of_ble_eq_true rfl, Nat.le_of_ble_eq_true rfl⟩) (fun H locs hB => ?_)
        refine lv_iinc (v := (x2 + (1 : Int32))) (lv' := [(2, .int (x2 + (1 : Int32))), (0, .ref (ad 64)), (1, .int x1)]) F.1 F.2.1 dX10_lives_78 hl (k := 2) rfl rfl (by decide) rfl (fun ls hl => ?_)
        refine lv_goto (tgt := 68) F.1 F.2.1 dX10_lives_81 (by decide) ?_
        exact ih68 σ9 _ _ _ x1 (x2 + (1 : Int32)) h hB (lv_sub hl [1, 2, 0] rfl)
  have B40 : ∀ (n40 : Nat) (σ0 : Mem) (H : Heap) (locs : List Loc) (ls : Array Slot) (x1 : Int32) (x2 : Int32), f_X10_lives_b40 n40 σ0 x1 x2 = some o → Bd D cy ad σ0 s.heap H locs → lv_has ls 3 [(0, .ref (ad 64)), (1, .int x1), (2, .int x2)] → W p l e rm_X10_lives s m ([.ref (ad 64), .int a1] : List Value).toArray below meth c H locs 0 0 (MQ below (CQv D cy ad o) ([.ref (ad 64), .int a1] : List Value).toArray s 0 0 (AA ad)) (F0 m 40 ls []) := by
    intro n40
    induction n40 with
    | zero => intro σ0 H locs ls x1 x2 h hB hl; cases h
    | succ n40 ih40 =>
      intro σ0 H locs ls x1 x2 h hB hl
      rw [f_X10_lives_b40] at h
      refine lv_iload_n F.1 F.2.1 dX10_lives_40 rfl (lv_at hl 2 rfl) ?_
      refine lv_bipush (v := 64) F.1 F.2.1 dX10_lives_41 (by decide) ?_
      refine lv_icmp_ge (tgt := 66) F.1 F.2.1 dX10_lives_43 (by decide) (fun c6 => ?_) (fun c6 => ?_)
      · replace h := it_e c6 h
        refine lv_iconst (v := 0) F.1 F.2.1 dX10_lives_66 (by decide) ?_
        refine lv_istore_n (lv' := [(2, .int (0 : Int32)), (0, .ref (ad 64)), (1, .int x1)]) F.1 F.2.1 dX10_lives_67 rfl hl (by decide) rfl (fun ls hl => ?_)
        exact B68 300 σ0 _ _ _ x1 (0 : Int32) h hB (lv_sub hl [1, 2, 0] rfl)
      · replace h := ie_e c6 h
        refine lv_aload_n F.1 F.2.1 dX10_lives_46 rfl (lv_at hl 0 rfl) ?_
        refine gf_RX10_40 F hE hB po_64 rfl dX10_lives_47 ?_
        refine lv_iload_n F.1 F.2.1 dX10_lives_50 rfl (lv_at hl 2 rfl) ?_
        refine lv_iconst (v := (-1)) F.1 F.2.1 dX10_lives_51 (by decide) ?_
        obtain ⟨hi10, h⟩ := ck_e h
        obtain ⟨σ11, e12, h⟩ := lt_e h
        refine q_iast F hE hI hB row_75 hi10 dX10_lives_52 e12 (fun H locs hB => ?_)
        refine lv_aload_n F.1 F.2.1 dX10_lives_53 rfl (lv_at hl 0 rfl) ?_
        refine gf_RX10_43 F hE hB po_64 rfl dX10_lives_54 ?_
        refine lv_iload_n F.1 F.2.1 dX10_lives_57 rfl (lv_at hl 2 rfl) ?_
        refine lv_iconst (v := 0) F.1 F.2.1 dX10_lives_58 (by decide) ?_
        obtain ⟨hi13, h⟩ := ck_e h
        obtain ⟨σ14, e15, h⟩ := lt_e h
        refine q_iast F hE hI hB row_76 hi13 dX10_lives_59 e15 (fun H locs hB => ?_)
        refine lv_iinc (v := (x2 + (1 : Int32))) (lv' := [(2, .int (x2 + (1 : Int32))), (0, .ref (ad 64)), (1, .int x1)]) F.1 F.2.1 dX10_lives_60 hl (k := 2) rfl rfl (by decide) rfl (fun ls hl => ?_)
        refine lv_goto (tgt := 40) F.1 F.2.1 dX10_lives_63 (by decide) ?_
        exact ih40 σ14 _ _ _ x1 (x2 + (1 : Int32)) h hB (lv_sub hl [1, 2, 0] rfl)
  have B12 : ∀ (n12 : Nat) (σ0 : Mem) (H : Heap) (locs : List Loc) (ls : Array Slot) (x1 : Int32) (x2 : Int32), f_X10_lives_b12 n12 σ0 x1 x2 = some o → Bd D cy ad σ0 s.heap H locs → lv_has ls 3 [(0, .ref (ad 64)), (1, .int x1), (2, .int x2)] → W p l e rm_X10_lives s m ([.ref (ad 64), .int a1] : List Value).toArray below meth c H locs 0 0 (MQ below (CQv D cy ad o) ([.ref (ad 64), .int a1] : List Value).toArray s 0 0 (AA ad)) (F0 m 12 ls []) := by
    intro n12
    induction n12 with
    | zero => intro σ0 H locs ls x1 x2 h hB hl; cases h
    | succ n12 ih12 =>
      intro σ0 H locs ls x1 x2 h hB hl
      rw [f_X10_lives_b12] at h
      refine lv_iload_n F.1 F.2.1 dX10_lives_12 rfl (lv_at hl 2 rfl) ?_
      refine lv_bipush (v := 8) F.1 F.2.1 dX10_lives_13 (by decide) ?_
      refine lv_icmp_ge (tgt := 38) F.1 F.2.1 dX10_lives_15 (by decide) (fun c5 => ?_) (fun c5 => ?_)
      · replace h := it_e c5 h
        refine lv_iconst (v := 0) F.1 F.2.1 dX10_lives_38 (by decide) ?_
        refine lv_istore_n (lv' := [(2, .int (0 : Int32)), (0, .ref (ad 64)), (1, .int x1)]) F.1 F.2.1 dX10_lives_39 rfl hl (by decide) rfl (fun ls hl => ?_)
        exact B40 300 σ0 _ _ _ x1 (0 : Int32) h hB (lv_sub hl [1, 2, 0] rfl)
      · replace h := ie_e c5 h
        refine lv_aload_n F.1 F.2.1 dX10_lives_18 rfl (lv_at hl 0 rfl) ?_
        refine gf_RX10_37 F hE hB po_64 rfl dX10_lives_19 ?_
        refine lv_iload_n F.1 F.2.1 dX10_lives_22 rfl (lv_at hl 2 rfl) ?_
        refine lv_iconst (v := (-1)) F.1 F.2.1 dX10_lives_23 (by decide) ?_
        obtain ⟨hi16, h⟩ := ck_e h
        obtain ⟨σ17, e18, h⟩ := lt_e h
        refine q_iast F hE hI hB row_74 hi16 dX10_lives_24 e18 (fun H locs hB => ?_)
        refine lv_aload_n F.1 F.2.1 dX10_lives_25 rfl (lv_at hl 0 rfl) ?_
        refine gf_RX10_46 F hE hB po_64 rfl dX10_lives_26 ?_
        refine lv_iload_n F.1 F.2.1 dX10_lives_29 rfl (lv_at hl 2 rfl) ?_
        refine lv_iconst (v := 0) F.1 F.2.1 dX10_lives_30 (by decide) ?_
        obtain ⟨hi19, h⟩ := ck_e h
        obtain ⟨σ20, e21, h⟩ := lt_e h
        refine q_iast F hE hI hB row_77 hi19 dX10_lives_31 e21 (fun H locs hB => ?_)
        refine lv_iinc (v := (x2 + (1 : Int32))) (lv' := [(2, .int (x2 + (1 : Int32))), (0, .ref (ad 64)), (1, .int x1)]) F.1 F.2.1 dX10_lives_32 hl (k := 2) rfl rfl (by decide) rfl (fun ls hl => ?_)
        refine lv_goto (tgt := 12) F.1 F.2.1 dX10_lives_35 (by decide) ?_
        exact ih12 σ20 _ _ _ x1 (x2 + (1 : Int32)) h hB (lv_sub hl [1, 2, 0] rfl)
  unfold f_X10_lives at h
  refine lv_aload_n F.1 F.2.1 dX10_lives_0 rfl (lv_at hl 0 rfl) ?_
  refine lv_iconst (v := (-1)) F.1 F.2.1 dX10_lives_1 (by decide) ?_
  obtain ⟨σ1, e2, h⟩ := lt_e h
  refine pf_RX10_176 F hE hI hB po_64 rfl rfl (Nat.le_of_ble_eq_true rfl) rfl dX10_lives_2 e2 (fun H locs hB => ?_)
  refine lv_aload_n F.1 F.2.1 dX10_lives_5 rfl (lv_at hl 0 rfl) ?_
  refine lv_iconst (v := (-1)) F.1 F.2.1 dX10_lives_6 (by decide) ?_
  obtain ⟨σ3, e4, h⟩ := lt_e h
  refine pf_RX10_179 F hE hI hB po_64 rfl rfl (Nat.le_of_ble_eq_true rfl) rfl dX10_lives_7 e4 (fun H locs hB => ?_)
  refine lv_iconst (v := 0) F.1 F.2.1 dX10_lives_10 (by decide) ?_
  refine lv_istore_n (lv' := [(2, .int (0 : Int32)), (0, .ref (ad 64)), (1, .int a1)]) F.1 F.2.1 dX10_lives_11 rfl hl (by decide) rfl (fun ls hl => ?_)
  exact B12 300 σ3 _ _ _ a1 (0 : Int32) h hB (lv_sub hl [1, 2, 0] rfl)
def f_X10_atOf (σ0 : Mem) (a1 : Int32) (a2 : Int32) : Option (Int32 × Mem) := (bv (f_X10_lives σ0 a1) (fun σ2 => (ck a2 8 (some ((σ2.1 74 a2.toNatClampNeg), σ2)))))
set_option maxHeartbeats 4000000 in
set_option maxRecDepth 100000 in
theorem k_X10_atOf {l : Launch} {D : va_G} {cy : Nat → ClassId} {ad : Nat → Nat} {ta tb : Nat} (hI : AdI ad) (σ0 : Mem) (a1 : Int32) (a2 : Int32) {o : Int32 × Mem} (h : f_X10_atOf σ0 a1 a2 = some o) : Met l yX10_atOf (Cond.code yX10_atOf cX10_atOf 3 (some .int) :: wG) rm_X10_atOf (CP D cy ad ta tb σ0 [.ref (ad 64), .int a1, .int a2]) (CQi D cy ad o.1 o.2) 0 0 (AA ad) := by
  refine Met.ofW (cc := cX10_atOf) (maxL := 3) (ret := (some .int)) (by decide) rfl ?_
  intro p e s m args below meth c s₁ B hml hv
  obtain ⟨rfl, hE, hP⟩ := hv
  have hts := atoms_spec (ws := Cond.code yX10_atOf cX10_atOf 3 (some .int) :: wG) B.pre
  have F : CallFix p m c cX10_atOf 3 s _ wG RX10 := ⟨B.exec, B.bytes, hml, findClass_of_methodNamed B.named, fun w hw => hts w (List.mem_cons_of_mem _ hw)⟩
  have hr := B.returns
  have hlocks := B.notSynchronized
  have hB : Bd D cy ad σ0 s.heap s.heap [] := ⟨hP, va_S.rf⟩
  have hl := lv_entry ([.ref (ad 64), .int a1, .int a2] : List Value) (n := 3) (Nat.le_of_ble_eq_true rfl)
  rw [lg_entry_eq]
  generalize (lg_sl ([.ref (ad 64), .int a1, .int a2] : List Value) ++ List.replicate (3 - (lg_sl ([.ref (ad 64), .int a1, .int a2] : List Value)).length) Slot.unset).toArray = ls at hl ⊢
  have hl : lv_has ls 3 [(0, .ref (ad 64)), (1, .int a1), (2, .int a2)] := hl
  unfold f_X10_atOf at h
  refine lv_aload_n F.1 F.2.1 dX10_atOf_0 rfl (lv_at hl 0 rfl) ?_
  refine lv_iload_n F.1 F.2.1 dX10_atOf_1 rfl (lv_at hl 1 rfl) ?_
  obtain ⟨σ2, hc1, h⟩ := bv_e h
  refine q_cv hB (q_goV F hE hB (k_X10_lives hI σ0 a1 hc1) (ca_RX10_185 F.2.2.2.2 ⟨Nat.le_of_ble_eq_true rfl, Nat.le_of_ble_eq_true rfl⟩) rfl po_64 rfl hl.1 rfl (Nat.le_of_ble_eq_true rfl) dX10_atOf_2 ⟨Nat.le_of_ble_eq_true rfl, Nat.le_of_ble_eq_true rfl⟩) (fun H locs hB => ?_)
  refine lv_aload_n F.1 F.2.1 dX10_atOf_5 rfl (lv_at hl 0 rfl) ?_
  refine gf_RX10_37 F hE hB po_64 rfl dX10_atOf_6 ?_
  refine lv_iload_n F.1 F.2.1 dX10_atOf_9 rfl (lv_at hl 2 rfl) ?_
  obtain ⟨hi3, h⟩ := ck_e h
  refine q_iald F hE hB po_74 hi3 dX10_atOf_10 ?_
  exact q_iret F hlocks hr hB (so1 h) (so2 h) dX10_atOf_11
def f_X10_at (σ0 : Mem) (a1 : Int32) (a2 : Int32) : Option (Int32 × Mem) := (bv (f_X10_find σ0) (fun σ2 => (bp (f_X10_isStep σ2 a1) (fun v4 => (if v4 = (0 : Int32) then (some ((-2 : Int32), σ2)) else (bp (f_X10_isBoat σ2 a2) (fun v7 => (if v7 = (0 : Int32) then (some ((-2 : Int32), σ2)) else (bi (f_X10_atOf σ2 a1 a2) (fun v11 σ10 => (some (v11, σ10))))))))))))
set_option maxHeartbeats 4000000 in
set_option maxRecDepth 100000 in
theorem k_X10_at {l : Launch} {D : va_G} {cy : Nat → ClassId} {ad : Nat → Nat} {ta tb : Nat} (hI : AdI ad) (σ0 : Mem) (a1 : Int32) (a2 : Int32) {o : Int32 × Mem} (h : f_X10_at σ0 a1 a2 = some o) : Met l yX10_at (Cond.code yX10_at cX10_at 3 (some .int) :: wG) rm_X10_at (CP D cy ad ta tb σ0 [.ref (ad 64), .int a1, .int a2]) (CQi D cy ad o.1 o.2) 0 0 (AA ad) := by
  refine Met.ofW (cc := cX10_at) (maxL := 3) (ret := (some .int)) (by decide) rfl ?_
  intro p e s m args below meth c s₁ B hml hv
  obtain ⟨rfl, hE, hP⟩ := hv
  have hts := atoms_spec (ws := Cond.code yX10_at cX10_at 3 (some .int) :: wG) B.pre
  have F : CallFix p m c cX10_at 3 s _ wG RX10 := ⟨B.exec, B.bytes, hml, findClass_of_methodNamed B.named, fun w hw => hts w (List.mem_cons_of_mem _ hw)⟩
  have hr := B.returns
  have hlocks := B.notSynchronized
  have hB : Bd D cy ad σ0 s.heap s.heap [] := ⟨hP, va_S.rf⟩
  have hl := lv_entry ([.ref (ad 64), .int a1, .int a2] : List Value) (n := 3) (Nat.le_of_ble_eq_true rfl)
  rw [lg_entry_eq]
  generalize (lg_sl ([.ref (ad 64), .int a1, .int a2] : List Value) ++ List.replicate (3 - (lg_sl ([.ref (ad 64), .int a1, .int a2] : List Value)).length) Slot.unset).toArray = ls at hl ⊢
  have hl : lv_has ls 3 [(0, .ref (ad 64)), (1, .int a1), (2, .int a2)] := hl
  unfold f_X10_at at h
  refine lv_aload_n F.1 F.2.1 dX10_at_0 rfl (lv_at hl 0 rfl) ?_
  obtain ⟨σ2, hc1, h⟩ := bv_e h
  refine q_cv hB (q_goV F hE hB (k_X10_find hI σ0 hc1) (ca_RX10_129 F.2.2.2.2 ⟨Nat.le_of_ble_eq_true rfl, Nat.le_of_ble_eq_true rfl⟩) rfl po_64 rfl hl.1 rfl (Nat.le_of_ble_eq_true rfl) dX10_at_1 ⟨Nat.le_of_ble_eq_true rfl, Nat.le_of_ble_eq_true rfl⟩) (fun H locs hB => ?_)
  refine lv_iload_n F.1 F.2.1 dX10_at_4 rfl (lv_at hl 1 rfl) ?_
  obtain ⟨v4, hc3, h⟩ := bp_e h
  refine q_ci hB (q_goS F hE hB (k_X10_isStep hI σ2 a1 hc3) (ca_RX10_188 F.2.2.2.2 ⟨Nat.le_of_ble_eq_true rfl, Nat.le_of_ble_eq_true rfl⟩) rfl hl.1 rfl (Nat.le_of_ble_eq_true rfl) dX10_at_5 ⟨Nat.le_of_ble_eq_true rfl, Nat.le_of_ble_eq_true rfl⟩) (fun H locs hB => ?_)
  refine lv_if_eq (tgt := 28) F.1 F.2.1 dX10_at_8 (by decide) (fun c5 => ?_) (fun c5 => ?_)
  · replace h := it_e c5 h
    refine lv_bipush (v := (-2)) F.1 F.2.1 dX10_at_28 (by decide) ?_
    exact q_iret F hlocks hr hB (so1 h) (so2 h) dX10_at_30
  · replace h := ie_e c5 h
    refine lv_aload_n F.1 F.2.1 dX10_at_11 rfl (lv_at hl 0 rfl) ?_
    refine lv_iload_n F.1 F.2.1 dX10_at_12 rfl (lv_at hl 2 rfl) ?_
    obtain ⟨v7, hc6, h⟩ := bp_e h
    refine q_ci hB (q_goV F hE hB (k_X10_isBoat hI σ2 a2 hc6) (ca_RX10_135 F.2.2.2.2 ⟨Nat.le_of_ble_eq_true rfl, Nat.le_of_ble_eq_true rfl⟩) rfl po_64 rfl hl.1 rfl (Nat.le_of_ble_eq_true rfl) dX10_at_13 ⟨Nat.le_of_ble_eq_true rfl, Nat.le_of_ble_eq_true rfl⟩) (fun H locs hB => ?_)
    refine lv_if_eq (tgt := 28) F.1 F.2.1 dX10_at_16 (by decide) (fun c8 => ?_) (fun c8 => ?_)
    · replace h := it_e c8 h
      refine lv_bipush (v := (-2)) F.1 F.2.1 dX10_at_28 (by decide) ?_
      exact q_iret F hlocks hr hB (so1 h) (so2 h) dX10_at_30
    · replace h := ie_e c8 h
      refine lv_aload_n F.1 F.2.1 dX10_at_19 rfl (lv_at hl 0 rfl) ?_
      refine lv_iload_n F.1 F.2.1 dX10_at_20 rfl (lv_at hl 1 rfl) ?_
      refine lv_iload_n F.1 F.2.1 dX10_at_21 rfl (lv_at hl 2 rfl) ?_
      obtain ⟨v11, σ10, hc9, h⟩ := bi_e h
      refine q_ci hB (q_goV F hE hB (k_X10_atOf hI σ2 a1 a2 hc9) (ca_RX10_191 F.2.2.2.2 ⟨Nat.le_of_ble_eq_true rfl, Nat.le_of_ble_eq_true rfl⟩) rfl po_64 rfl hl.1 rfl (Nat.le_of_ble_eq_true rfl) dX10_at_22 ⟨Nat.le_of_ble_eq_true rfl, Nat.le_of_ble_eq_true rfl⟩) (fun H locs hB => ?_)
      refine lv_goto (tgt := 30) F.1 F.2.1 dX10_at_25 (by decide) ?_
      exact q_iret F hlocks hr hB (so1 h) (so2 h) dX10_at_30
