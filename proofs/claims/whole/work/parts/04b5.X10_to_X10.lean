def f_X10_readsBoats_b248 (k24 : Mem → Int32 → Int32 → Int32 → Int32 → Option (Int32 × Mem)) (σ0 : Mem) (x1 : Int32) (x2 : Int32) (x4 : Int32) (x7 : Int32) : Option (Int32 × Mem) := (k24 σ0 x1 x2 x7 (x4 + (1 : Int32)))
def f_X10_readsBoats_b224 (k24 : Mem → Int32 → Int32 → Int32 → Int32 → Option (Int32 × Mem)) (σ0 : Mem) (x1 : Int32) (x2 : Int32) (x4 : Int32) (x7 : Int32) (x8 : Int32) : Option (Int32 × Mem) := (if x8 = (0 : Int32) then (f_X10_readsBoats_b248 k24 σ0 x1 x2 x4 x7) else (if (8 : Int32) ≤ (σ0.1 64 9) then (f_X10_readsBoats_b248 k24 σ0 x1 x2 x4 x7) else (bv (f_X10_bares σ0 (σ0.1 64 9)) (fun σ21 => (f_X10_readsBoats_b248 k24 σ21 x1 (0 : Int32) x4 x7)))))
def f_X10_readsBoats_b189 (k24 : Mem → Int32 → Int32 → Int32 → Int32 → Option (Int32 × Mem)) (σ0 : Mem) (x1 : Int32) (x2 : Int32) (x4 : Int32) (x5 : Int32) (x7 : Int32) (x8 : Int32) : Option (Int32 × Mem) := (if x7 = (0 : Int32) then (f_X10_readsBoats_b224 k24 σ0 x1 x2 x4 x7 x8) else (ck (((7 : Int32) * (σ0.1 64 9)) + (6 : Int32)) 56 (lt (ms σ0 72 (((7 : Int32) * (σ0.1 64 9)) + (6 : Int32)).toNatClampNeg (x5 - (48 : Int32))) (fun σ23 => (lt (ms σ23 64 9 ((σ23.1 64 9) + (1 : Int32))) (fun σ25 => (f_X10_readsBoats_b224 k24 σ25 x1 x2 x4 x7 x8)))))))
def f_X10_readsBoats_b159 (k24 : Mem → Int32 → Int32 → Int32 → Int32 → Option (Int32 × Mem)) (σ0 : Mem) (x1 : Int32) (x2 : Int32) (x4 : Int32) (x5 : Int32) (x6 : Int32) (x7 : Int32) (x8 : Int32) : Option (Int32 × Mem) := (if x6 = (0 : Int32) then (f_X10_readsBoats_b189 k24 σ0 x1 x2 x4 x5 x7 x8) else (ck ((((7 : Int32) * (σ0.1 64 9)) + x5) - (97 : Int32)) 56 (ck ((((7 : Int32) * (σ0.1 64 9)) + x5) - (97 : Int32)) 56 (lt (ms σ0 72 ((((7 : Int32) * (σ0.1 64 9)) + x5) - (97 : Int32)).toNatClampNeg ((σ0.1 72 ((((7 : Int32) * (σ0.1 64 9)) + x5) - (97 : Int32)).toNatClampNeg) + (1 : Int32))) (fun σ29 => (f_X10_readsBoats_b189 k24 σ29 x1 (x2 + (1 : Int32)) x4 x5 x7 x8))))))
def f_X10_readsBoats_b134 (k24 : Mem → Int32 → Int32 → Int32 → Int32 → Option (Int32 × Mem)) (σ0 : Mem) (x1 : Int32) (x2 : Int32) (x4 : Int32) (x5 : Int32) (x6 : Int32) (x7 : Int32) (y0 : Int32) : Option (Int32 × Mem) := (if x6 = (0 : Int32) then (if x7 = (0 : Int32) then (if y0 = (0 : Int32) then (lt (ms σ0 64 9 (0 : Int32)) (fun σ33 => (some (x4, σ33)))) else (f_X10_readsBoats_b159 k24 σ0 x1 x2 x4 x5 x6 x7 y0)) else (f_X10_readsBoats_b159 k24 σ0 x1 x2 x4 x5 x6 x7 y0)) else (f_X10_readsBoats_b159 k24 σ0 x1 x2 x4 x5 x6 x7 y0))
def f_X10_readsBoats_b133 (k24 : Mem → Int32 → Int32 → Int32 → Int32 → Option (Int32 × Mem)) (σ0 : Mem) (x1 : Int32) (x2 : Int32) (x4 : Int32) (x5 : Int32) (x6 : Int32) (x7 : Int32) : Option (Int32 × Mem) := (f_X10_readsBoats_b134 k24 σ0 x1 x2 x4 x5 x6 x7 (0 : Int32))
def f_X10_readsBoats_b116 (k24 : Mem → Int32 → Int32 → Int32 → Int32 → Option (Int32 × Mem)) (σ0 : Mem) (x1 : Int32) (x2 : Int32) (x3 : Int32) (x4 : Int32) (x5 : Int32) (x6 : Int32) (y0 : Int32) : Option (Int32 × Mem) := (if x3 = (0 : Int32) then (f_X10_readsBoats_b133 k24 σ0 x1 x2 x4 x5 x6 y0) else (if x5 = (59 : Int32) then (f_X10_readsBoats_b134 k24 σ0 x1 x2 x4 x5 x6 y0 (1 : Int32)) else (f_X10_readsBoats_b133 k24 σ0 x1 x2 x4 x5 x6 y0)))
def f_X10_readsBoats_b115 (k24 : Mem → Int32 → Int32 → Int32 → Int32 → Option (Int32 × Mem)) (σ0 : Mem) (x1 : Int32) (x2 : Int32) (x3 : Int32) (x4 : Int32) (x5 : Int32) (x6 : Int32) : Option (Int32 × Mem) := (f_X10_readsBoats_b116 k24 σ0 x1 x2 x3 x4 x5 x6 (0 : Int32))
def f_X10_readsBoats_b81 (k24 : Mem → Int32 → Int32 → Int32 → Int32 → Option (Int32 × Mem)) (σ0 : Mem) (x1 : Int32) (x2 : Int32) (x3 : Int32) (x4 : Int32) (x5 : Int32) (y0 : Int32) : Option (Int32 × Mem) := (if x3 = (0 : Int32) then (bp (f_X10_in σ0 x5.toInt64 (48 : Int64) (57 : Int64)) (fun v37 => (if v37 = (0 : Int32) then (f_X10_readsBoats_b115 k24 σ0 x1 x2 x3 x4 x5 y0) else (if (8 : Int32) ≤ (σ0.1 64 9) then (f_X10_readsBoats_b115 k24 σ0 x1 x2 x3 x4 x5 y0) else (f_X10_readsBoats_b116 k24 σ0 x1 x2 x3 x4 x5 y0 (1 : Int32)))))) else (f_X10_readsBoats_b115 k24 σ0 x1 x2 x3 x4 x5 y0))
def f_X10_readsBoats_b80 (k24 : Mem → Int32 → Int32 → Int32 → Int32 → Option (Int32 × Mem)) (σ0 : Mem) (x1 : Int32) (x2 : Int32) (x3 : Int32) (x4 : Int32) (x5 : Int32) : Option (Int32 × Mem) := (f_X10_readsBoats_b81 k24 σ0 x1 x2 x3 x4 x5 (0 : Int32))
def f_X10_readsBoats_b24 : Nat → Mem → Int32 → Int32 → Int32 → Int32 → Option (Int32 × Mem)
  | 0, _, _, _, _, _ => none
  | n24 + 1, σ0, x1, x2, x3, x4 => (if x1 ≤ x4 then (if x1 ≤ (0 : Int32) then (some ((-1 : Int32), σ0)) else (if x3 = (0 : Int32) then (lt (ms σ0 64 9 (0 : Int32)) (fun σ9 => (some (x1, σ9)))) else (some ((-1 : Int32), σ0)))) else (ck ((64 : Int32) + x4) 128 (if x3 = (0 : Int32) then (bp (f_X10_in σ0 (σ0.1 69 ((64 : Int32) + x4).toNatClampNeg).toInt64 (97 : Int64) (102 : Int64)) (fun v41 => (if v41 = (0 : Int32) then (f_X10_readsBoats_b80 (f_X10_readsBoats_b24 n24) σ0 x1 x2 x3 x4 (σ0.1 69 ((64 : Int32) + x4).toNatClampNeg)) else (if (6 : Int32) ≤ x2 then (f_X10_readsBoats_b80 (f_X10_readsBoats_b24 n24) σ0 x1 x2 x3 x4 (σ0.1 69 ((64 : Int32) + x4).toNatClampNeg)) else (if (8 : Int32) ≤ (σ0.1 64 9) then (f_X10_readsBoats_b80 (f_X10_readsBoats_b24 n24) σ0 x1 x2 x3 x4 (σ0.1 69 ((64 : Int32) + x4).toNatClampNeg)) else (f_X10_readsBoats_b81 (f_X10_readsBoats_b24 n24) σ0 x1 x2 x3 x4 (σ0.1 69 ((64 : Int32) + x4).toNatClampNeg) (1 : Int32))))))) else (f_X10_readsBoats_b80 (f_X10_readsBoats_b24 n24) σ0 x1 x2 x3 x4 (σ0.1 69 ((64 : Int32) + x4).toNatClampNeg)))))
def f_X10_readsBoats (σ0 : Mem) : Option (Int32 × Mem) := (lt (ms σ0 64 9 (0 : Int32)) (fun σ1 => (ck (1 : Int32) 2 (bv (f_X10_bares σ1 (0 : Int32)) (fun σ5 => (f_X10_readsBoats_b24 300 σ5 (σ1.1 70 (1 : Int32).toNatClampNeg) (0 : Int32) (0 : Int32) (0 : Int32)))))))
set_option maxHeartbeats 4000000 in
set_option maxRecDepth 100000 in
theorem k_X10_readsBoats {l : Launch} {D : va_G} {cy : Nat → ClassId} {ad : Nat → Nat} {ta tb : Nat} (hI : AdI ad) (σ0 : Mem) {o : Int32 × Mem} (h : f_X10_readsBoats σ0 = some o) : Met l yX10_readsBoats (Cond.code yX10_readsBoats cX10_readsBoats 9 (some .int) :: wG) rm_X10_readsBoats (CP D cy ad ta tb σ0 [.ref (ad 64)]) (CQi D cy ad o.1 o.2) 0 0 (AA ad) := by
  refine Met.ofW (cc := cX10_readsBoats) (maxL := 9) (ret := (some .int)) (by decide) rfl ?_
  intro p e s m args below meth c s₁ B hml hv
  obtain ⟨rfl, hE, hP⟩ := hv
  have hts := atoms_spec (ws := Cond.code yX10_readsBoats cX10_readsBoats 9 (some .int) :: wG) B.pre
  have F : CallFix p m c cX10_readsBoats 9 s _ wG RX10 := ⟨B.exec, B.bytes, hml, findClass_of_methodNamed B.named, fun w hw => hts w (List.mem_cons_of_mem _ hw)⟩
  have hr := B.returns
  have hlocks := B.notSynchronized
  have hB : Bd D cy ad σ0 s.heap s.heap [] := ⟨hP, va_S.rf⟩
  have hl := lv_entry ([.ref (ad 64)] : List Value) (n := 9) (Nat.le_of_ble_eq_true rfl)
  rw [lg_entry_eq]
  generalize (lg_sl ([.ref (ad 64)] : List Value) ++ List.replicate (9 - (lg_sl ([.ref (ad 64)] : List Value)).length) Slot.unset).toArray = ls at hl ⊢
  have hl : lv_has ls 9 [(0, .ref (ad 64))] := hl
  have B24 : ∀ (n24 : Nat) (σ0 : Mem) (H : Heap) (locs : List Loc) (ls : Array Slot) (x1 : Int32) (x2 : Int32) (x3 : Int32) (x4 : Int32), f_X10_readsBoats_b24 n24 σ0 x1 x2 x3 x4 = some o → Bd D cy ad σ0 s.heap H locs → lv_has ls 9 [(0, .ref (ad 64)), (1, .int x1), (2, .int x2), (3, .int x3), (4, .int x4)] → W p l e rm_X10_readsBoats s m ([.ref (ad 64)] : List Value).toArray below meth c H locs 0 0 (MQ below (CQi D cy ad o.1 o.2) ([.ref (ad 64)] : List Value).toArray s 0 0 (AA ad)) (F0 m 24 ls []) := by
    intro n24
    induction n24 with
    | zero => intro σ0 H locs ls x1 x2 x3 x4 h hB hl; cases h
    | succ n24 ih24 =>
      have B248 : ∀ (σ0 : Mem) (H : Heap) (locs : List Loc) (ls : Array Slot) (x1 : Int32) (x2 : Int32) (x4 : Int32) (x7 : Int32), f_X10_readsBoats_b248 (f_X10_readsBoats_b24 n24) σ0 x1 x2 x4 x7 = some o → Bd D cy ad σ0 s.heap H locs → lv_has ls 9 [(0, .ref (ad 64)), (1, .int x1), (2, .int x2), (4, .int x4), (7, .int x7)] → W p l e rm_X10_readsBoats s m ([.ref (ad 64)] : List Value).toArray below meth c H locs 0 0 (MQ below (CQi D cy ad o.1 o.2) ([.ref (ad 64)] : List Value).toArray s 0 0 (AA ad)) (F0 m 248 ls []) := by
        intro σ0 H locs ls x1 x2 x4 x7 h hB hl
        unfold f_X10_readsBoats_b248 at h
        refine lv_iload F.1 F.2.1 dX10_readsBoats_248 (lv_at hl 4 rfl) ?_
        refine lv_istore_n (lv' := [(3, .int x7), (0, .ref (ad 64)), (1, .int x1), (2, .int x2), (4, .int x4), (7, .int x7)]) F.1 F.2.1 dX10_readsBoats_250 rfl hl (by decide) rfl (fun ls hl => ?_)
        refine lv_iinc (v := (x4 + (1 : Int32))) (lv' := [(4, .int (x4 + (1 : Int32))), (3, .int x7), (0, .ref (ad 64)), (1, .int x1), (2, .int x2), (7, .int x7)]) F.1 F.2.1 dX10_readsBoats_251 hl (k := 4) rfl rfl (by decide) rfl (fun ls hl => ?_)
        refine lv_goto (tgt := 24) F.1 F.2.1 dX10_readsBoats_254 (by decide) ?_
        exact ih24 σ0 _ _ _ x1 x2 x7 (x4 + (1 : Int32)) h hB (lv_sub hl [2, 3, 4, 1, 0] rfl)
      have B224 : ∀ (σ0 : Mem) (H : Heap) (locs : List Loc) (ls : Array Slot) (x1 : Int32) (x2 : Int32) (x4 : Int32) (x7 : Int32) (x8 : Int32), f_X10_readsBoats_b224 (f_X10_readsBoats_b24 n24) σ0 x1 x2 x4 x7 x8 = some o → Bd D cy ad σ0 s.heap H locs → lv_has ls 9 [(0, .ref (ad 64)), (1, .int x1), (2, .int x2), (4, .int x4), (7, .int x7), (8, .int x8)] → W p l e rm_X10_readsBoats s m ([.ref (ad 64)] : List Value).toArray below meth c H locs 0 0 (MQ below (CQi D cy ad o.1 o.2) ([.ref (ad 64)] : List Value).toArray s 0 0 (AA ad)) (F0 m 224 ls []) := by
        intro σ0 H locs ls x1 x2 x4 x7 x8 h hB hl
        unfold f_X10_readsBoats_b224 at h
        refine lv_iload F.1 F.2.1 dX10_readsBoats_224 (lv_at hl 5 rfl) ?_
        refine lv_if_eq (tgt := 248) F.1 F.2.1 dX10_readsBoats_226 (by decide) (fun c18 => ?_) (fun c18 => ?_)
        · replace h := it_e c18 h
          exact B248 σ0 _ _ _ x1 x2 x4 x7 h hB (lv_sub hl [0, 1, 2, 3, 4] rfl)
        · replace h := ie_e c18 h
          refine lv_aload_n F.1 F.2.1 dX10_readsBoats_229 rfl (lv_at hl 0 rfl) ?_
          refine gf_RX10_111 F hE hB po_64 rfl dX10_readsBoats_230 ?_
          refine lv_bipush (v := 8) F.1 F.2.1 dX10_readsBoats_233 (by decide) ?_
          refine lv_icmp_ge (tgt := 248) F.1 F.2.1 dX10_readsBoats_235 (by decide) (fun c19 => ?_) (fun c19 => ?_)
          · replace h := it_e c19 h
            exact B248 σ0 _ _ _ x1 x2 x4 x7 h hB (lv_sub hl [0, 1, 2, 3, 4] rfl)
          · replace h := ie_e c19 h
            refine lv_aload_n F.1 F.2.1 dX10_readsBoats_238 rfl (lv_at hl 0 rfl) ?_
            refine lv_aload_n F.1 F.2.1 dX10_readsBoats_239 rfl (lv_at hl 0 rfl) ?_
            refine gf_RX10_111 F hE hB po_64 rfl dX10_readsBoats_240 ?_
            obtain ⟨σ21, hc20, h⟩ := bv_e h
            refine q_cv hB (q_goV F hE hB (k_X10_bares hI σ0 (σ0.1 64 9) hc20) (ca_RX10_114 F.2.2.2.2 ⟨Nat.le_of_ble_eq_true rfl, Nat.le_of_ble_eq_true rfl⟩) rfl po_64 rfl hl.1 rfl (Nat.le_of_ble_eq_true rfl) dX10_readsBoats_243 ⟨Nat.le_of_ble_eq_true rfl, Nat.le_of_ble_eq_true rfl⟩) (fun H locs hB => ?_)
            refine lv_iconst (v := 0) F.1 F.2.1 dX10_readsBoats_246 (by decide) ?_
            refine lv_istore_n (lv' := [(2, .int (0 : Int32)), (0, .ref (ad 64)), (1, .int x1), (4, .int x4), (7, .int x7), (8, .int x8)]) F.1 F.2.1 dX10_readsBoats_247 rfl hl (by decide) rfl (fun ls hl => ?_)
            exact B248 σ21 _ _ _ x1 (0 : Int32) x4 x7 h hB (lv_sub hl [1, 2, 0, 3, 4] rfl)
      have B189 : ∀ (σ0 : Mem) (H : Heap) (locs : List Loc) (ls : Array Slot) (x1 : Int32) (x2 : Int32) (x4 : Int32) (x5 : Int32) (x7 : Int32) (x8 : Int32), f_X10_readsBoats_b189 (f_X10_readsBoats_b24 n24) σ0 x1 x2 x4 x5 x7 x8 = some o → Bd D cy ad σ0 s.heap H locs → lv_has ls 9 [(0, .ref (ad 64)), (1, .int x1), (2, .int x2), (4, .int x4), (5, .int x5), (7, .int x7), (8, .int x8)] → W p l e rm_X10_readsBoats s m ([.ref (ad 64)] : List Value).toArray below meth c H locs 0 0 (MQ below (CQi D cy ad o.1 o.2) ([.ref (ad 64)] : List Value).toArray s 0 0 (AA ad)) (F0 m 189 ls []) := by
        intro σ0 H locs ls x1 x2 x4 x5 x7 x8 h hB hl
        unfold f_X10_readsBoats_b189 at h
        refine lv_iload F.1 F.2.1 dX10_readsBoats_189 (lv_at hl 5 rfl) ?_
        refine lv_if_eq (tgt := 224) F.1 F.2.1 dX10_readsBoats_191 (by decide) (fun c17 => ?_) (fun c17 => ?_)
        · replace h := it_e c17 h
          exact B224 σ0 _ _ _ x1 x2 x4 x7 x8 h hB (lv_sub hl [0, 1, 2, 3, 5, 6] rfl)
        · replace h := ie_e c17 h
          refine lv_aload_n F.1 F.2.1 dX10_readsBoats_194 rfl (lv_at hl 0 rfl) ?_
          refine gf_RX10_31 F hE hB po_64 rfl dX10_readsBoats_195 ?_
          refine lv_bipush (v := 7) F.1 F.2.1 dX10_readsBoats_198 (by decide) ?_
          refine lv_aload_n F.1 F.2.1 dX10_readsBoats_200 rfl (lv_at hl 0 rfl) ?_
          refine gf_RX10_111 F hE hB po_64 rfl dX10_readsBoats_201 ?_
          refine lv_imul F.1 F.2.1 dX10_readsBoats_204 ?_
          refine lv_bipush (v := 6) F.1 F.2.1 dX10_readsBoats_205 (by decide) ?_
          refine lv_iadd F.1 F.2.1 dX10_readsBoats_207 ?_
          refine lv_iload F.1 F.2.1 dX10_readsBoats_208 (lv_at hl 4 rfl) ?_
          refine lv_bipush (v := 48) F.1 F.2.1 dX10_readsBoats_210 (by decide) ?_
          refine lv_isub F.1 F.2.1 dX10_readsBoats_212 ?_
          obtain ⟨hi22, h⟩ := ck_e h
          obtain ⟨σ23, e24, h⟩ := lt_e h
          refine q_iast F hE hI hB row_72 hi22 dX10_readsBoats_213 e24 (fun H locs hB => ?_)
          refine lv_aload_n F.1 F.2.1 dX10_readsBoats_214 rfl (lv_at hl 0 rfl) ?_
          refine lv_dup F.1 F.2.1 dX10_readsBoats_215 rfl ?_
          refine gf_RX10_111 F hE hB po_64 rfl dX10_readsBoats_216 ?_
          refine lv_iconst (v := 1) F.1 F.2.1 dX10_readsBoats_219 (by decide) ?_
          refine lv_iadd F.1 F.2.1 dX10_readsBoats_220 ?_
          obtain ⟨σ25, e26, h⟩ := lt_e h
          refine pf_RX10_111 F hE hI hB po_64 rfl rfl (Nat.le_of_ble_eq_true rfl) rfl dX10_readsBoats_221 e26 (fun H locs hB => ?_)
          exact B224 σ25 _ _ _ x1 x2 x4 x7 x8 h hB (lv_sub hl [0, 1, 2, 3, 5, 6] rfl)
      have B159 : ∀ (σ0 : Mem) (H : Heap) (locs : List Loc) (ls : Array Slot) (x1 : Int32) (x2 : Int32) (x4 : Int32) (x5 : Int32) (x6 : Int32) (x7 : Int32) (x8 : Int32), f_X10_readsBoats_b159 (f_X10_readsBoats_b24 n24) σ0 x1 x2 x4 x5 x6 x7 x8 = some o → Bd D cy ad σ0 s.heap H locs → lv_has ls 9 [(0, .ref (ad 64)), (1, .int x1), (2, .int x2), (4, .int x4), (5, .int x5), (6, .int x6), (7, .int x7), (8, .int x8)] → W p l e rm_X10_readsBoats s m ([.ref (ad 64)] : List Value).toArray below meth c H locs 0 0 (MQ below (CQi D cy ad o.1 o.2) ([.ref (ad 64)] : List Value).toArray s 0 0 (AA ad)) (F0 m 159 ls []) := by
        intro σ0 H locs ls x1 x2 x4 x5 x6 x7 x8 h hB hl
        unfold f_X10_readsBoats_b159 at h
        refine lv_iload F.1 F.2.1 dX10_readsBoats_159 (lv_at hl 5 rfl) ?_
        refine lv_if_eq (tgt := 189) F.1 F.2.1 dX10_readsBoats_161 (by decide) (fun c16 => ?_) (fun c16 => ?_)
        · replace h := it_e c16 h
          exact B189 σ0 _ _ _ x1 x2 x4 x5 x7 x8 h hB (lv_sub hl [0, 1, 2, 3, 4, 6, 7] rfl)
        · replace h := ie_e c16 h
          refine lv_aload_n F.1 F.2.1 dX10_readsBoats_164 rfl (lv_at hl 0 rfl) ?_
          refine gf_RX10_31 F hE hB po_64 rfl dX10_readsBoats_165 ?_
          refine lv_bipush (v := 7) F.1 F.2.1 dX10_readsBoats_168 (by decide) ?_
          refine lv_aload_n F.1 F.2.1 dX10_readsBoats_170 rfl (lv_at hl 0 rfl) ?_
          refine gf_RX10_111 F hE hB po_64 rfl dX10_readsBoats_171 ?_
          refine lv_imul F.1 F.2.1 dX10_readsBoats_174 ?_
          refine lv_iload F.1 F.2.1 dX10_readsBoats_175 (lv_at hl 4 rfl) ?_
          refine lv_iadd F.1 F.2.1 dX10_readsBoats_177 ?_
          refine lv_bipush (v := 97) F.1 F.2.1 dX10_readsBoats_178 (by decide) ?_
          refine lv_isub F.1 F.2.1 dX10_readsBoats_180 ?_
          refine lv_dup2_11 F.1 F.2.1 dX10_readsBoats_181 rfl rfl ?_
          obtain ⟨hi27, h⟩ := ck_e h
          refine q_iald F hE hB po_72 hi27 dX10_readsBoats_182 ?_
          refine lv_iconst (v := 1) F.1 F.2.1 dX10_readsBoats_183 (by decide) ?_
          refine lv_iadd F.1 F.2.1 dX10_readsBoats_184 ?_
          obtain ⟨hi28, h⟩ := ck_e h
          obtain ⟨σ29, e30, h⟩ := lt_e h
          refine q_iast F hE hI hB row_72 hi28 dX10_readsBoats_185 e30 (fun H locs hB => ?_)
          refine lv_iinc (v := (x2 + (1 : Int32))) (lv' := [(2, .int (x2 + (1 : Int32))), (0, .ref (ad 64)), (1, .int x1), (4, .int x4), (5, .int x5), (6, .int x6), (7, .int x7), (8, .int x8)]) F.1 F.2.1 dX10_readsBoats_186 hl (k := 2) rfl rfl (by decide) rfl (fun ls hl => ?_)
          exact B189 σ29 _ _ _ x1 (x2 + (1 : Int32)) x4 x5 x7 x8 h hB (lv_sub hl [1, 2, 0, 3, 4, 6, 7] rfl)
      have B134 : ∀ (σ0 : Mem) (H : Heap) (locs : List Loc) (ls : Array Slot) (x1 : Int32) (x2 : Int32) (x4 : Int32) (x5 : Int32) (x6 : Int32) (x7 : Int32) (y0 : Int32), f_X10_readsBoats_b134 (f_X10_readsBoats_b24 n24) σ0 x1 x2 x4 x5 x6 x7 y0 = some o → Bd D cy ad σ0 s.heap H locs → lv_has ls 9 [(0, .ref (ad 64)), (1, .int x1), (2, .int x2), (4, .int x4), (5, .int x5), (6, .int x6), (7, .int x7)] → W p l e rm_X10_readsBoats s m ([.ref (ad 64)] : List Value).toArray below meth c H locs 0 0 (MQ below (CQi D cy ad o.1 o.2) ([.ref (ad 64)] : List Value).toArray s 0 0 (AA ad)) (F0 m 134 ls [.int y0]) := by
        intro σ0 H locs ls x1 x2 x4 x5 x6 x7 y0 h hB hl
        unfold f_X10_readsBoats_b134 at h
        refine lv_istore (lv' := [(8, .int y0), (0, .ref (ad 64)), (1, .int x1), (2, .int x2), (4, .int x4), (5, .int x5), (6, .int x6), (7, .int x7)]) F.1 F.2.1 dX10_readsBoats_134 hl (by decide) rfl (fun ls hl => ?_)
        refine lv_iload F.1 F.2.1 dX10_readsBoats_136 (lv_at hl 6 rfl) ?_
        refine lv_if_ne (tgt := 159) F.1 F.2.1 dX10_readsBoats_138 (by decide) (fun c15 => ?_) (fun c15 => ?_)
        · replace h := ie_e c15 h
          exact B159 σ0 _ _ _ x1 x2 x4 x5 x6 x7 y0 h hB (lv_sub hl [1, 2, 3, 4, 5, 6, 7, 0] rfl)
        · replace h := it_e c15 h
          refine lv_iload F.1 F.2.1 dX10_readsBoats_141 (lv_at hl 7 rfl) ?_
          refine lv_if_ne (tgt := 159) F.1 F.2.1 dX10_readsBoats_143 (by decide) (fun c31 => ?_) (fun c31 => ?_)
          · replace h := ie_e c31 h
            exact B159 σ0 _ _ _ x1 x2 x4 x5 x6 x7 y0 h hB (lv_sub hl [1, 2, 3, 4, 5, 6, 7, 0] rfl)
          · replace h := it_e c31 h
            refine lv_iload F.1 F.2.1 dX10_readsBoats_146 (lv_at hl 0 rfl) ?_
            refine lv_if_ne (tgt := 159) F.1 F.2.1 dX10_readsBoats_148 (by decide) (fun c32 => ?_) (fun c32 => ?_)
            · replace h := ie_e c32 h
              exact B159 σ0 _ _ _ x1 x2 x4 x5 x6 x7 y0 h hB (lv_sub hl [1, 2, 3, 4, 5, 6, 7, 0] rfl)
            · replace h := it_e c32 h
              refine lv_aload_n F.1 F.2.1 dX10_readsBoats_151 rfl (lv_at hl 1 rfl) ?_
              refine lv_iconst (v := 0) F.1 F.2.1 dX10_readsBoats_152 (by decide) ?_
              obtain ⟨σ33, e34, h⟩ := lt_e h
              refine pf_RX10_111 F hE hI hB po_64 rfl rfl (Nat.le_of_ble_eq_true rfl) rfl dX10_readsBoats_153 e34 (fun H locs hB => ?_)
              refine lv_iload F.1 F.2.1 dX10_readsBoats_156 (lv_at hl 4 rfl) ?_
              exact q_iret F hlocks hr hB (so1 h) (so2 h) dX10_readsBoats_158
      have B133 : ∀ (σ0 : Mem) (H : Heap) (locs : List Loc) (ls : Array Slot) (x1 : Int32) (x2 : Int32) (x4 : Int32) (x5 : Int32) (x6 : Int32) (x7 : Int32), f_X10_readsBoats_b133 (f_X10_readsBoats_b24 n24) σ0 x1 x2 x4 x5 x6 x7 = some o → Bd D cy ad σ0 s.heap H locs → lv_has ls 9 [(0, .ref (ad 64)), (1, .int x1), (2, .int x2), (4, .int x4), (5, .int x5), (6, .int x6), (7, .int x7)] → W p l e rm_X10_readsBoats s m ([.ref (ad 64)] : List Value).toArray below meth c H locs 0 0 (MQ below (CQi D cy ad o.1 o.2) ([.ref (ad 64)] : List Value).toArray s 0 0 (AA ad)) (F0 m 133 ls []) := by
        intro σ0 H locs ls x1 x2 x4 x5 x6 x7 h hB hl
        unfold f_X10_readsBoats_b133 at h
        refine lv_iconst (v := 0) F.1 F.2.1 dX10_readsBoats_133 (by decide) ?_
        exact B134 σ0 _ _ _ x1 x2 x4 x5 x6 x7 (0 : Int32) h hB (lv_sub hl [0, 1, 2, 3, 4, 5, 6] rfl)
      have B116 : ∀ (σ0 : Mem) (H : Heap) (locs : List Loc) (ls : Array Slot) (x1 : Int32) (x2 : Int32) (x3 : Int32) (x4 : Int32) (x5 : Int32) (x6 : Int32) (y0 : Int32), f_X10_readsBoats_b116 (f_X10_readsBoats_b24 n24) σ0 x1 x2 x3 x4 x5 x6 y0 = some o → Bd D cy ad σ0 s.heap H locs → lv_has ls 9 [(0, .ref (ad 64)), (1, .int x1), (2, .int x2), (3, .int x3), (4, .int x4), (5, .int x5), (6, .int x6)] → W p l e rm_X10_readsBoats s m ([.ref (ad 64)] : List Value).toArray below meth c H locs 0 0 (MQ below (CQi D cy ad o.1 o.2) ([.ref (ad 64)] : List Value).toArray s 0 0 (AA ad)) (F0 m 116 ls [.int y0]) := by
        intro σ0 H locs ls x1 x2 x3 x4 x5 x6 y0 h hB hl
        unfold f_X10_readsBoats_b116 at h
        refine lv_istore (lv' := [(7, .int y0), (0, .ref (ad 64)), (1, .int x1), (2, .int x2), (3, .int x3), (4, .int x4), (5, .int x5), (6, .int x6)]) F.1 F.2.1 dX10_readsBoats_116 hl (by decide) rfl (fun ls hl => ?_)
        refine lv_iload_n F.1 F.2.1 dX10_readsBoats_118 rfl (lv_at hl 4 rfl) ?_
        refine lv_if_eq (tgt := 133) F.1 F.2.1 dX10_readsBoats_119 (by decide) (fun c14 => ?_) (fun c14 => ?_)
        · replace h := it_e c14 h
          exact B133 σ0 _ _ _ x1 x2 x4 x5 x6 y0 h hB (lv_sub hl [1, 2, 3, 5, 6, 7, 0] rfl)
        · replace h := ie_e c14 h
          refine lv_iload F.1 F.2.1 dX10_readsBoats_122 (lv_at hl 6 rfl) ?_
          refine lv_bipush (v := 59) F.1 F.2.1 dX10_readsBoats_124 (by decide) ?_
          refine lv_icmp_ne (tgt := 133) F.1 F.2.1 dX10_readsBoats_126 (by decide) (fun c35 => ?_) (fun c35 => ?_)
          · replace h := ie_e c35 h
            exact B133 σ0 _ _ _ x1 x2 x4 x5 x6 y0 h hB (lv_sub hl [1, 2, 3, 5, 6, 7, 0] rfl)
          · replace h := it_e c35 h
            refine lv_iconst (v := 1) F.1 F.2.1 dX10_readsBoats_129 (by decide) ?_
            refine lv_goto (tgt := 134) F.1 F.2.1 dX10_readsBoats_130 (by decide) ?_
            exact B134 σ0 _ _ _ x1 x2 x4 x5 x6 y0 (1 : Int32) h hB (lv_sub hl [1, 2, 3, 5, 6, 7, 0] rfl)
      have B115 : ∀ (σ0 : Mem) (H : Heap) (locs : List Loc) (ls : Array Slot) (x1 : Int32) (x2 : Int32) (x3 : Int32) (x4 : Int32) (x5 : Int32) (x6 : Int32), f_X10_readsBoats_b115 (f_X10_readsBoats_b24 n24) σ0 x1 x2 x3 x4 x5 x6 = some o → Bd D cy ad σ0 s.heap H locs → lv_has ls 9 [(0, .ref (ad 64)), (1, .int x1), (2, .int x2), (3, .int x3), (4, .int x4), (5, .int x5), (6, .int x6)] → W p l e rm_X10_readsBoats s m ([.ref (ad 64)] : List Value).toArray below meth c H locs 0 0 (MQ below (CQi D cy ad o.1 o.2) ([.ref (ad 64)] : List Value).toArray s 0 0 (AA ad)) (F0 m 115 ls []) := by
        intro σ0 H locs ls x1 x2 x3 x4 x5 x6 h hB hl
        unfold f_X10_readsBoats_b115 at h
        refine lv_iconst (v := 0) F.1 F.2.1 dX10_readsBoats_115 (by decide) ?_
        exact B116 σ0 _ _ _ x1 x2 x3 x4 x5 x6 (0 : Int32) h hB (lv_sub hl [0, 1, 2, 3, 4, 5, 6] rfl)
      have B81 : ∀ (σ0 : Mem) (H : Heap) (locs : List Loc) (ls : Array Slot) (x1 : Int32) (x2 : Int32) (x3 : Int32) (x4 : Int32) (x5 : Int32) (y0 : Int32), f_X10_readsBoats_b81 (f_X10_readsBoats_b24 n24) σ0 x1 x2 x3 x4 x5 y0 = some o → Bd D cy ad σ0 s.heap H locs → lv_has ls 9 [(0, .ref (ad 64)), (1, .int x1), (2, .int x2), (3, .int x3), (4, .int x4), (5, .int x5)] → W p l e rm_X10_readsBoats s m ([.ref (ad 64)] : List Value).toArray below meth c H locs 0 0 (MQ below (CQi D cy ad o.1 o.2) ([.ref (ad 64)] : List Value).toArray s 0 0 (AA ad)) (F0 m 81 ls [.int y0]) := by
        intro σ0 H locs ls x1 x2 x3 x4 x5 y0 h hB hl
        unfold f_X10_readsBoats_b81 at h
        refine lv_istore (lv' := [(6, .int y0), (0, .ref (ad 64)), (1, .int x1), (2, .int x2), (3, .int x3), (4, .int x4), (5, .int x5)]) F.1 F.2.1 dX10_readsBoats_81 hl (by decide) rfl (fun ls hl => ?_)
        refine lv_iload_n F.1 F.2.1 dX10_readsBoats_83 rfl (lv_at hl 4 rfl) ?_
        refine lv_if_ne (tgt := 115) F.1 F.2.1 dX10_readsBoats_84 (by decide) (fun c13 => ?_) (fun c13 => ?_)
        · replace h := ie_e c13 h
          exact B115 σ0 _ _ _ x1 x2 x3 x4 x5 y0 h hB (lv_sub hl [1, 2, 3, 4, 5, 6, 0] rfl)
        · replace h := it_e c13 h
          refine lv_iload F.1 F.2.1 dX10_readsBoats_87 (lv_at hl 6 rfl) ?_
          refine lv_i2l F.1 F.2.1 dX10_readsBoats_89 rfl ?_
          refine lv_ldc2 (v := 48) F.1 F.2.1 F.2.2.2.1 (F.2.2.2.2 _ wm_k_RX10_118) dX10_readsBoats_90 ?_
          refine lv_ldc2 (v := 57) F.1 F.2.1 F.2.2.2.1 (F.2.2.2.2 _ wm_k_RX10_103) dX10_readsBoats_93 ?_
          obtain ⟨v37, hc36, h⟩ := bp_e h
          refine q_ci hB (q_goS F hE hB (k_X10_in hI σ0 x5.toInt64 (48 : Int64) (57 : Int64) hc36) (ca_RX10_64 F.2.2.2.2 ⟨Nat.le_of_ble_eq_true rfl, Nat.le_of_ble_eq_true rfl⟩) rfl hl.1 rfl (Nat.le_of_ble_eq_true rfl) dX10_readsBoats_96 ⟨Nat.le_of_ble_eq_true rfl, Nat.le_of_ble_eq_true rfl⟩) (fun H locs hB => ?_)
          refine lv_if_eq (tgt := 115) F.1 F.2.1 dX10_readsBoats_99 (by decide) (fun c38 => ?_) (fun c38 => ?_)
          · replace h := it_e c38 h
            exact B115 σ0 _ _ _ x1 x2 x3 x4 x5 y0 h hB (lv_sub hl [1, 2, 3, 4, 5, 6, 0] rfl)
          · replace h := ie_e c38 h
            refine lv_aload_n F.1 F.2.1 dX10_readsBoats_102 rfl (lv_at hl 1 rfl) ?_
            refine gf_RX10_111 F hE hB po_64 rfl dX10_readsBoats_103 ?_
            refine lv_bipush (v := 8) F.1 F.2.1 dX10_readsBoats_106 (by decide) ?_
            refine lv_icmp_ge (tgt := 115) F.1 F.2.1 dX10_readsBoats_108 (by decide) (fun c39 => ?_) (fun c39 => ?_)
            · replace h := it_e c39 h
              exact B115 σ0 _ _ _ x1 x2 x3 x4 x5 y0 h hB (lv_sub hl [1, 2, 3, 4, 5, 6, 0] rfl)
            · replace h := ie_e c39 h
              refine lv_iconst (v := 1) F.1 F.2.1 dX10_readsBoats_111 (by decide) ?_
              refine lv_goto (tgt := 116) F.1 F.2.1 dX10_readsBoats_112 (by decide) ?_
              exact B116 σ0 _ _ _ x1 x2 x3 x4 x5 y0 (1 : Int32) h hB (lv_sub hl [1, 2, 3, 4, 5, 6, 0] rfl)
      have B80 : ∀ (σ0 : Mem) (H : Heap) (locs : List Loc) (ls : Array Slot) (x1 : Int32) (x2 : Int32) (x3 : Int32) (x4 : Int32) (x5 : Int32), f_X10_readsBoats_b80 (f_X10_readsBoats_b24 n24) σ0 x1 x2 x3 x4 x5 = some o → Bd D cy ad σ0 s.heap H locs → lv_has ls 9 [(0, .ref (ad 64)), (1, .int x1), (2, .int x2), (3, .int x3), (4, .int x4), (5, .int x5)] → W p l e rm_X10_readsBoats s m ([.ref (ad 64)] : List Value).toArray below meth c H locs 0 0 (MQ below (CQi D cy ad o.1 o.2) ([.ref (ad 64)] : List Value).toArray s 0 0 (AA ad)) (F0 m 80 ls []) := by
        intro σ0 H locs ls x1 x2 x3 x4 x5 h hB hl
        unfold f_X10_readsBoats_b80 at h
        refine lv_iconst (v := 0) F.1 F.2.1 dX10_readsBoats_80 (by decide) ?_
        exact B81 σ0 _ _ _ x1 x2 x3 x4 x5 (0 : Int32) h hB (lv_sub hl [0, 1, 2, 3, 4, 5] rfl)
      intro σ0 H locs ls x1 x2 x3 x4 h hB hl
      rw [f_X10_readsBoats_b24] at h
      refine lv_iload F.1 F.2.1 dX10_readsBoats_24 (lv_at hl 4 rfl) ?_
      refine lv_iload_n F.1 F.2.1 dX10_readsBoats_26 rfl (lv_at hl 1 rfl) ?_
      refine lv_icmp_ge (tgt := 257) F.1 F.2.1 dX10_readsBoats_27 (by decide) (fun c6 => ?_) (fun c6 => ?_)
      · replace h := it_e c6 h
        refine lv_iload_n F.1 F.2.1 dX10_readsBoats_257 rfl (lv_at hl 1 rfl) ?_
        refine lv_if_le (tgt := 272) F.1 F.2.1 dX10_readsBoats_258 (by decide) (fun c7 => ?_) (fun c7 => ?_)
        · replace h := it_e c7 h
          refine lv_iconst (v := (-1)) F.1 F.2.1 dX10_readsBoats_272 (by decide) ?_
          exact q_iret F hlocks hr hB (so1 h) (so2 h) dX10_readsBoats_273
        · replace h := ie_e c7 h
          refine lv_iload_n F.1 F.2.1 dX10_readsBoats_261 rfl (lv_at hl 3 rfl) ?_
          refine lv_if_ne (tgt := 272) F.1 F.2.1 dX10_readsBoats_262 (by decide) (fun c8 => ?_) (fun c8 => ?_)
          · replace h := ie_e c8 h
            refine lv_iconst (v := (-1)) F.1 F.2.1 dX10_readsBoats_272 (by decide) ?_
            exact q_iret F hlocks hr hB (so1 h) (so2 h) dX10_readsBoats_273
          · replace h := it_e c8 h
            refine lv_aload_n F.1 F.2.1 dX10_readsBoats_265 rfl (lv_at hl 0 rfl) ?_
            refine lv_iconst (v := 0) F.1 F.2.1 dX10_readsBoats_266 (by decide) ?_
            obtain ⟨σ9, e10, h⟩ := lt_e h
            refine pf_RX10_111 F hE hI hB po_64 rfl rfl (Nat.le_of_ble_eq_true rfl) rfl dX10_readsBoats_267 e10 (fun H locs hB => ?_)
            refine lv_iload_n F.1 F.2.1 dX10_readsBoats_270 rfl (lv_at hl 1 rfl) ?_
            exact q_iret F hlocks hr hB (so1 h) (so2 h) dX10_readsBoats_271
      · replace h := ie_e c6 h
        refine lv_aload_n F.1 F.2.1 dX10_readsBoats_30 rfl (lv_at hl 0 rfl) ?_
        refine gf_RX10_22 F hE hB po_64 rfl dX10_readsBoats_31 ?_
        refine lv_bipush (v := 64) F.1 F.2.1 dX10_readsBoats_34 (by decide) ?_
        refine lv_iload F.1 F.2.1 dX10_readsBoats_36 (lv_at hl 4 rfl) ?_
        refine lv_iadd F.1 F.2.1 dX10_readsBoats_38 ?_
        obtain ⟨hi11, h⟩ := ck_e h
        refine q_iald F hE hB po_69 hi11 dX10_readsBoats_39 ?_
        refine lv_istore (lv' := [(5, .int (σ0.1 69 ((64 : Int32) + x4).toNatClampNeg)), (0, .ref (ad 64)), (1, .int x1), (2, .int x2), (3, .int x3), (4, .int x4)]) F.1 F.2.1 dX10_readsBoats_40 hl (by decide) rfl (fun ls hl => ?_)
        refine lv_iload_n F.1 F.2.1 dX10_readsBoats_42 rfl (lv_at hl 4 rfl) ?_
        refine lv_if_ne (tgt := 80) F.1 F.2.1 dX10_readsBoats_43 (by decide) (fun c12 => ?_) (fun c12 => ?_)
        · replace h := ie_e c12 h
          exact B80 σ0 _ _ _ x1 x2 x3 x4 (σ0.1 69 ((64 : Int32) + x4).toNatClampNeg) h hB (lv_sub hl [1, 2, 3, 4, 5, 0] rfl)
        · replace h := it_e c12 h
          refine lv_iload F.1 F.2.1 dX10_readsBoats_46 (lv_at hl 0 rfl) ?_
          refine lv_i2l F.1 F.2.1 dX10_readsBoats_48 rfl ?_
          refine lv_ldc2 (v := 97) F.1 F.2.1 F.2.2.2.1 (F.2.2.2.2 _ wm_k_RX10_97) dX10_readsBoats_49 ?_
          refine lv_ldc2 (v := 102) F.1 F.2.1 F.2.2.2.1 (F.2.2.2.2 _ wm_k_RX10_99) dX10_readsBoats_52 ?_
          obtain ⟨v41, hc40, h⟩ := bp_e h
          refine q_ci hB (q_goS F hE hB (k_X10_in hI σ0 (σ0.1 69 ((64 : Int32) + x4).toNatClampNeg).toInt64 (97 : Int64) (102 : Int64) hc40) (ca_RX10_64 F.2.2.2.2 ⟨Nat.le_of_ble_eq_true rfl, Nat.le_of_ble_eq_true rfl⟩) rfl hl.1 rfl (Nat.le_of_ble_eq_true rfl) dX10_readsBoats_55 ⟨Nat.le_of_ble_eq_true rfl, Nat.le_of_ble_eq_true rfl⟩) (fun H locs hB => ?_)
          refine lv_if_eq (tgt := 80) F.1 F.2.1 dX10_readsBoats_58 (by decide) (fun c42 => ?_) (fun c42 => ?_)
          · replace h := it_e c42 h
            exact B80 σ0 _ _ _ x1 x2 x3 x4 (σ0.1 69 ((64 : Int32) + x4).toNatClampNeg) h hB (lv_sub hl [1, 2, 3, 4, 5, 0] rfl)
          · replace h := ie_e c42 h
            refine lv_iload_n F.1 F.2.1 dX10_readsBoats_61 rfl (lv_at hl 3 rfl) ?_
            refine lv_bipush (v := 6) F.1 F.2.1 dX10_readsBoats_62 (by decide) ?_
            refine lv_icmp_ge (tgt := 80) F.1 F.2.1 dX10_readsBoats_64 (by decide) (fun c43 => ?_) (fun c43 => ?_)
            · replace h := it_e c43 h
              exact B80 σ0 _ _ _ x1 x2 x3 x4 (σ0.1 69 ((64 : Int32) + x4).toNatClampNeg) h hB (lv_sub hl [1, 2, 3, 4, 5, 0] rfl)
            · replace h := ie_e c43 h
              refine lv_aload_n F.1 F.2.1 dX10_readsBoats_67 rfl (lv_at hl 1 rfl) ?_
              refine gf_RX10_111 F hE hB po_64 rfl dX10_readsBoats_68 ?_
              refine lv_bipush (v := 8) F.1 F.2.1 dX10_readsBoats_71 (by decide) ?_
              refine lv_icmp_ge (tgt := 80) F.1 F.2.1 dX10_readsBoats_73 (by decide) (fun c44 => ?_) (fun c44 => ?_)
              · replace h := it_e c44 h
                exact B80 σ0 _ _ _ x1 x2 x3 x4 (σ0.1 69 ((64 : Int32) + x4).toNatClampNeg) h hB (lv_sub hl [1, 2, 3, 4, 5, 0] rfl)
              · replace h := ie_e c44 h
                refine lv_iconst (v := 1) F.1 F.2.1 dX10_readsBoats_76 (by decide) ?_
                refine lv_goto (tgt := 81) F.1 F.2.1 dX10_readsBoats_77 (by decide) ?_
                exact B81 σ0 _ _ _ x1 x2 x3 x4 (σ0.1 69 ((64 : Int32) + x4).toNatClampNeg) (1 : Int32) h hB (lv_sub hl [1, 2, 3, 4, 5, 0] rfl)
  unfold f_X10_readsBoats at h
  refine lv_aload_n F.1 F.2.1 dX10_readsBoats_0 rfl (lv_at hl 0 rfl) ?_
  refine lv_iconst (v := 0) F.1 F.2.1 dX10_readsBoats_1 (by decide) ?_
  obtain ⟨σ1, e2, h⟩ := lt_e h
  refine pf_RX10_111 F hE hI hB po_64 rfl rfl (Nat.le_of_ble_eq_true rfl) rfl dX10_readsBoats_2 e2 (fun H locs hB => ?_)
  refine lv_aload_n F.1 F.2.1 dX10_readsBoats_5 rfl (lv_at hl 0 rfl) ?_
  refine gf_RX10_25 F hE hB po_64 rfl dX10_readsBoats_6 ?_
  refine lv_iconst (v := 1) F.1 F.2.1 dX10_readsBoats_9 (by decide) ?_
  obtain ⟨hi3, h⟩ := ck_e h
  refine q_iald F hE hB po_70 hi3 dX10_readsBoats_10 ?_
  refine lv_istore_n (lv' := [(1, .int (σ1.1 70 (1 : Int32).toNatClampNeg)), (0, .ref (ad 64))]) F.1 F.2.1 dX10_readsBoats_11 rfl hl (by decide) rfl (fun ls hl => ?_)
  refine lv_iconst (v := 0) F.1 F.2.1 dX10_readsBoats_12 (by decide) ?_
  refine lv_istore_n (lv' := [(2, .int (0 : Int32)), (1, .int (σ1.1 70 (1 : Int32).toNatClampNeg)), (0, .ref (ad 64))]) F.1 F.2.1 dX10_readsBoats_13 rfl hl (by decide) rfl (fun ls hl => ?_)
  refine lv_iconst (v := 0) F.1 F.2.1 dX10_readsBoats_14 (by decide) ?_
  refine lv_istore_n (lv' := [(3, .int (0 : Int32)), (2, .int (0 : Int32)), (1, .int (σ1.1 70 (1 : Int32).toNatClampNeg)), (0, .ref (ad 64))]) F.1 F.2.1 dX10_readsBoats_15 rfl hl (by decide) rfl (fun ls hl => ?_)
  refine lv_aload_n F.1 F.2.1 dX10_readsBoats_16 rfl (lv_at hl 3 rfl) ?_
  refine lv_iconst (v := 0) F.1 F.2.1 dX10_readsBoats_17 (by decide) ?_
  obtain ⟨σ5, hc4, h⟩ := bv_e h
  refine q_cv hB (q_goV F hE hB (k_X10_bares hI σ1 (0 : Int32) hc4) (ca_RX10_114 F.2.2.2.2 ⟨Nat.le_of_ble_eq_true rfl, Nat.le_of_ble_eq_true rfl⟩) rfl po_64 rfl hl.1 rfl (Nat.le_of_ble_eq_true rfl) dX10_readsBoats_18 ⟨Nat.le_of_ble_eq_true rfl, Nat.le_of_ble_eq_true rfl⟩) (fun H locs hB => ?_)
  refine lv_iconst (v := 0) F.1 F.2.1 dX10_readsBoats_21 (by decide) ?_
  refine lv_istore (lv' := [(4, .int (0 : Int32)), (3, .int (0 : Int32)), (2, .int (0 : Int32)), (1, .int (σ1.1 70 (1 : Int32).toNatClampNeg)), (0, .ref (ad 64))]) F.1 F.2.1 dX10_readsBoats_22 hl (by decide) rfl (fun ls hl => ?_)
  exact B24 300 σ5 _ _ _ (σ1.1 70 (1 : Int32).toNatClampNeg) (0 : Int32) (0 : Int32) (0 : Int32) h hB (lv_sub hl [4, 3, 2, 1, 0] rfl)
def f_X10_fault (σ0 : Mem) (a1 : Int32) : Option (Int32 × Mem) := (bp (f_X10_isTwo σ0 a1) (fun v2 => (if v2 = (0 : Int32) then (some ((-2 : Int32), σ0)) else (if a1 = (0 : Int32) then (bi (f_X10_readsBridges σ0) (fun v10 σ9 => (some (v10, σ9)))) else (bi (f_X10_readsBoats σ0) (fun v7 σ6 => (some (v7, σ6))))))))
set_option maxHeartbeats 4000000 in
set_option maxRecDepth 100000 in
theorem k_X10_fault {l : Launch} {D : va_G} {cy : Nat → ClassId} {ad : Nat → Nat} {ta tb : Nat} (hI : AdI ad) (σ0 : Mem) (a1 : Int32) {o : Int32 × Mem} (h : f_X10_fault σ0 a1 = some o) : Met l yX10_fault (Cond.code yX10_fault cX10_fault 2 (some .int) :: wG) rm_X10_fault (CP D cy ad ta tb σ0 [.ref (ad 64), .int a1]) (CQi D cy ad o.1 o.2) 0 0 (AA ad) := by
  refine Met.ofW (cc := cX10_fault) (maxL := 2) (ret := (some .int)) (by decide) rfl ?_
  intro p e s m args below meth c s₁ B hml hv
  obtain ⟨rfl, hE, hP⟩ := hv
  have hts := atoms_spec (ws := Cond.code yX10_fault cX10_fault 2 (some .int) :: wG) B.pre
  have F : CallFix p m c cX10_fault 2 s _ wG RX10 := ⟨B.exec, B.bytes, hml, findClass_of_methodNamed B.named, fun w hw => hts w (List.mem_cons_of_mem _ hw)⟩
  have hr := B.returns
  have hlocks := B.notSynchronized
  have hB : Bd D cy ad σ0 s.heap s.heap [] := ⟨hP, va_S.rf⟩
  have hl := lv_entry ([.ref (ad 64), .int a1] : List Value) (n := 2) (Nat.le_of_ble_eq_true rfl)
  rw [lg_entry_eq]
  generalize (lg_sl ([.ref (ad 64), .int a1] : List Value) ++ List.replicate (2 - (lg_sl ([.ref (ad 64), .int a1] : List Value)).length) Slot.unset).toArray = ls at hl ⊢
  have hl : lv_has ls 2 [(0, .ref (ad 64)), (1, .int a1)] := hl
  unfold f_X10_fault at h
  refine lv_iload_n F.1 F.2.1 dX10_fault_0 rfl (lv_at hl 1 rfl) ?_
  obtain ⟨v2, hc1, h⟩ := bp_e h
  refine q_ci hB (q_goS F hE hB (k_X10_isTwo hI σ0 a1 hc1) (ca_RX10_92 F.2.2.2.2 ⟨Nat.le_of_ble_eq_true rfl, Nat.le_of_ble_eq_true rfl⟩) rfl hl.1 rfl (Nat.le_of_ble_eq_true rfl) dX10_fault_1 ⟨Nat.le_of_ble_eq_true rfl, Nat.le_of_ble_eq_true rfl⟩) (fun H locs hB => ?_)
  refine lv_if_ne (tgt := 12) F.1 F.2.1 dX10_fault_4 (by decide) (fun c3 => ?_) (fun c3 => ?_)
  · replace h := ie_e c3 h
    refine lv_iload_n F.1 F.2.1 dX10_fault_12 rfl (lv_at hl 1 rfl) ?_
    refine lv_if_ne (tgt := 23) F.1 F.2.1 dX10_fault_13 (by decide) (fun c4 => ?_) (fun c4 => ?_)
    · replace h := ie_e c4 h
      refine lv_aload_n F.1 F.2.1 dX10_fault_23 rfl (lv_at hl 0 rfl) ?_
      obtain ⟨v7, σ6, hc5, h⟩ := bi_e h
      refine q_ci hB (q_goV F hE hB (k_X10_readsBoats hI σ0 hc5) (ca_RX10_124 F.2.2.2.2 ⟨Nat.le_of_ble_eq_true rfl, Nat.le_of_ble_eq_true rfl⟩) rfl po_64 rfl hl.1 rfl (Nat.le_of_ble_eq_true rfl) dX10_fault_24 ⟨Nat.le_of_ble_eq_true rfl, Nat.le_of_ble_eq_true rfl⟩) (fun H locs hB => ?_)
      exact q_iret F hlocks hr hB (so1 h) (so2 h) dX10_fault_27
    · replace h := it_e c4 h
      refine lv_aload_n F.1 F.2.1 dX10_fault_16 rfl (lv_at hl 0 rfl) ?_
      obtain ⟨v10, σ9, hc8, h⟩ := bi_e h
      refine q_ci hB (q_goV F hE hB (k_X10_readsBridges hI σ0 hc8) (ca_RX10_120 F.2.2.2.2 ⟨Nat.le_of_ble_eq_true rfl, Nat.le_of_ble_eq_true rfl⟩) rfl po_64 rfl hl.1 rfl (Nat.le_of_ble_eq_true rfl) dX10_fault_17 ⟨Nat.le_of_ble_eq_true rfl, Nat.le_of_ble_eq_true rfl⟩) (fun H locs hB => ?_)
      refine lv_goto (tgt := 27) F.1 F.2.1 dX10_fault_20 (by decide) ?_
      exact q_iret F hlocks hr hB (so1 h) (so2 h) dX10_fault_27
  · replace h := it_e c3 h
    refine lv_bipush (v := (-2)) F.1 F.2.1 dX10_fault_7 (by decide) ?_
    refine lv_goto (tgt := 27) F.1 F.2.1 dX10_fault_9 (by decide) ?_
    exact q_iret F hlocks hr hB (so1 h) (so2 h) dX10_fault_27
def f_X10_find (σ0 : Mem) : Option (Mem) := (bi (f_X10_readsBridges σ0) (fun v3 σ2 => (bi (f_X10_readsBoats σ2) (fun v6 σ5 => (some σ5)))))
set_option maxHeartbeats 4000000 in
set_option maxRecDepth 100000 in
theorem k_X10_find {l : Launch} {D : va_G} {cy : Nat → ClassId} {ad : Nat → Nat} {ta tb : Nat} (hI : AdI ad) (σ0 : Mem) {o : Mem} (h : f_X10_find σ0 = some o) : Met l yX10_find (Cond.code yX10_find cX10_find 1 none :: wG) rm_X10_find (CP D cy ad ta tb σ0 [.ref (ad 64)]) (CQv D cy ad o) 0 0 (AA ad) := by
  refine Met.ofW (cc := cX10_find) (maxL := 1) (ret := none) (by decide) rfl ?_
  intro p e s m args below meth c s₁ B hml hv
  obtain ⟨rfl, hE, hP⟩ := hv
  have hts := atoms_spec (ws := Cond.code yX10_find cX10_find 1 none :: wG) B.pre
  have F : CallFix p m c cX10_find 1 s _ wG RX10 := ⟨B.exec, B.bytes, hml, findClass_of_methodNamed B.named, fun w hw => hts w (List.mem_cons_of_mem _ hw)⟩
  have hr := B.returns
  have hlocks := B.notSynchronized
  have hB : Bd D cy ad σ0 s.heap s.heap [] := ⟨hP, va_S.rf⟩
  have hl := lv_entry ([.ref (ad 64)] : List Value) (n := 1) (Nat.le_of_ble_eq_true rfl)
  rw [lg_entry_eq]
  generalize (lg_sl ([.ref (ad 64)] : List Value) ++ List.replicate (1 - (lg_sl ([.ref (ad 64)] : List Value)).length) Slot.unset).toArray = ls at hl ⊢
  have hl : lv_has ls 1 [(0, .ref (ad 64))] := hl
  unfold f_X10_find at h
  refine lv_aload_n F.1 F.2.1 dX10_find_0 rfl (lv_at hl 0 rfl) ?_
  obtain ⟨v3, σ2, hc1, h⟩ := bi_e h
  refine q_ci hB (q_goV F hE hB (k_X10_readsBridges hI σ0 hc1) (ca_RX10_120 F.2.2.2.2 ⟨Nat.le_of_ble_eq_true rfl, Nat.le_of_ble_eq_true rfl⟩) rfl po_64 rfl hl.1 rfl (Nat.le_of_ble_eq_true rfl) dX10_find_1 ⟨Nat.le_of_ble_eq_true rfl, Nat.le_of_ble_eq_true rfl⟩) (fun H locs hB => ?_)
  refine lv_pop F.1 F.2.1 dX10_find_4 rfl ?_
  refine lv_aload_n F.1 F.2.1 dX10_find_5 rfl (lv_at hl 0 rfl) ?_
  obtain ⟨v6, σ5, hc4, h⟩ := bi_e h
  refine q_ci hB (q_goV F hE hB (k_X10_readsBoats hI σ2 hc4) (ca_RX10_124 F.2.2.2.2 ⟨Nat.le_of_ble_eq_true rfl, Nat.le_of_ble_eq_true rfl⟩) rfl po_64 rfl hl.1 rfl (Nat.le_of_ble_eq_true rfl) dX10_find_6 ⟨Nat.le_of_ble_eq_true rfl, Nat.le_of_ble_eq_true rfl⟩) (fun H locs hB => ?_)
  refine lv_pop F.1 F.2.1 dX10_find_9 rfl ?_
  exact q_vret F hlocks hr hB (Option.some.inj h) dX10_find_10
def f_X10_isBridge (σ0 : Mem) (a1 : Int32) : Option (Int32) := (bp (f_X10_in σ0 a1.toInt64 (0 : Int64) ((σ0.1 64 7) - (1 : Int32)).toInt64) (fun v2 => (cb v2 (some v2))))
set_option maxHeartbeats 4000000 in
set_option maxRecDepth 100000 in
theorem k_X10_isBridge {l : Launch} {D : va_G} {cy : Nat → ClassId} {ad : Nat → Nat} {ta tb : Nat} (hI : AdI ad) (σ0 : Mem) (a1 : Int32) {o : Int32} (h : f_X10_isBridge σ0 a1 = some o) : Met l yX10_isBridge (Cond.code yX10_isBridge cX10_isBridge 2 (some .boolean) :: wG) rm_X10_isBridge (CP D cy ad ta tb σ0 [.ref (ad 64), .int a1]) (CQi D cy ad o σ0) 0 0 (AA ad) := by
  refine Met.ofW (cc := cX10_isBridge) (maxL := 2) (ret := (some .boolean)) (by decide) rfl ?_
  intro p e s m args below meth c s₁ B hml hv
  obtain ⟨rfl, hE, hP⟩ := hv
  have hts := atoms_spec (ws := Cond.code yX10_isBridge cX10_isBridge 2 (some .boolean) :: wG) B.pre
  have F : CallFix p m c cX10_isBridge 2 s _ wG RX10 := ⟨B.exec, B.bytes, hml, findClass_of_methodNamed B.named, fun w hw => hts w (List.mem_cons_of_mem _ hw)⟩
  have hr := B.returns
  have hlocks := B.notSynchronized
  have hB : Bd D cy ad σ0 s.heap s.heap [] := ⟨hP, va_S.rf⟩
  have hl := lv_entry ([.ref (ad 64), .int a1] : List Value) (n := 2) (Nat.le_of_ble_eq_true rfl)
  rw [lg_entry_eq]
  generalize (lg_sl ([.ref (ad 64), .int a1] : List Value) ++ List.replicate (2 - (lg_sl ([.ref (ad 64), .int a1] : List Value)).length) Slot.unset).toArray = ls at hl ⊢
  have hl : lv_has ls 2 [(0, .ref (ad 64)), (1, .int a1)] := hl
  unfold f_X10_isBridge at h
  refine lv_iload_n F.1 F.2.1 dX10_isBridge_0 rfl (lv_at hl 1 rfl) ?_
  refine lv_i2l F.1 F.2.1 dX10_isBridge_1 rfl ?_
  refine lv_lconst (v := 0) F.1 F.2.1 dX10_isBridge_2 (by decide) ?_
  refine lv_aload_n F.1 F.2.1 dX10_isBridge_3 rfl (lv_at hl 0 rfl) ?_
  refine gf_RX10_105 F hE hB po_64 rfl dX10_isBridge_4 ?_
  refine lv_iconst (v := 1) F.1 F.2.1 dX10_isBridge_7 (by decide) ?_
  refine lv_isub F.1 F.2.1 dX10_isBridge_8 ?_
  refine lv_i2l F.1 F.2.1 dX10_isBridge_9 rfl ?_
  obtain ⟨v2, hc1, h⟩ := bp_e h
  refine q_ci hB (q_goS F hE hB (k_X10_in hI σ0 a1.toInt64 (0 : Int64) ((σ0.1 64 7) - (1 : Int32)).toInt64 hc1) (ca_RX10_64 F.2.2.2.2 ⟨Nat.le_of_ble_eq_true rfl, Nat.le_of_ble_eq_true rfl⟩) rfl hl.1 rfl (Nat.le_of_ble_eq_true rfl) dX10_isBridge_10 ⟨Nat.le_of_ble_eq_true rfl, Nat.le_of_ble_eq_true rfl⟩) (fun H locs hB => ?_)
  obtain ⟨hn3, h⟩ := cb_e h
  exact q_zret F hlocks hr hn3 hB (Option.some.inj h) rfl dX10_isBridge_13
def f_X10_isBoat (σ0 : Mem) (a1 : Int32) : Option (Int32) := (bp (f_X10_in σ0 a1.toInt64 (0 : Int64) ((σ0.1 64 9) - (1 : Int32)).toInt64) (fun v2 => (cb v2 (some v2))))
set_option maxHeartbeats 4000000 in
set_option maxRecDepth 100000 in
theorem k_X10_isBoat {l : Launch} {D : va_G} {cy : Nat → ClassId} {ad : Nat → Nat} {ta tb : Nat} (hI : AdI ad) (σ0 : Mem) (a1 : Int32) {o : Int32} (h : f_X10_isBoat σ0 a1 = some o) : Met l yX10_isBoat (Cond.code yX10_isBoat cX10_isBoat 2 (some .boolean) :: wG) rm_X10_isBoat (CP D cy ad ta tb σ0 [.ref (ad 64), .int a1]) (CQi D cy ad o σ0) 0 0 (AA ad) := by
  refine Met.ofW (cc := cX10_isBoat) (maxL := 2) (ret := (some .boolean)) (by decide) rfl ?_
  intro p e s m args below meth c s₁ B hml hv
  obtain ⟨rfl, hE, hP⟩ := hv
  have hts := atoms_spec (ws := Cond.code yX10_isBoat cX10_isBoat 2 (some .boolean) :: wG) B.pre
  have F : CallFix p m c cX10_isBoat 2 s _ wG RX10 := ⟨B.exec, B.bytes, hml, findClass_of_methodNamed B.named, fun w hw => hts w (List.mem_cons_of_mem _ hw)⟩
  have hr := B.returns
  have hlocks := B.notSynchronized
  have hB : Bd D cy ad σ0 s.heap s.heap [] := ⟨hP, va_S.rf⟩
  have hl := lv_entry ([.ref (ad 64), .int a1] : List Value) (n := 2) (Nat.le_of_ble_eq_true rfl)
  rw [lg_entry_eq]
  generalize (lg_sl ([.ref (ad 64), .int a1] : List Value) ++ List.replicate (2 - (lg_sl ([.ref (ad 64), .int a1] : List Value)).length) Slot.unset).toArray = ls at hl ⊢
  have hl : lv_has ls 2 [(0, .ref (ad 64)), (1, .int a1)] := hl
  unfold f_X10_isBoat at h
  refine lv_iload_n F.1 F.2.1 dX10_isBoat_0 rfl (lv_at hl 1 rfl) ?_
  refine lv_i2l F.1 F.2.1 dX10_isBoat_1 rfl ?_
  refine lv_lconst (v := 0) F.1 F.2.1 dX10_isBoat_2 (by decide) ?_
  refine lv_aload_n F.1 F.2.1 dX10_isBoat_3 rfl (lv_at hl 0 rfl) ?_
  refine gf_RX10_111 F hE hB po_64 rfl dX10_isBoat_4 ?_
  refine lv_iconst (v := 1) F.1 F.2.1 dX10_isBoat_7 (by decide) ?_
  refine lv_isub F.1 F.2.1 dX10_isBoat_8 ?_
  refine lv_i2l F.1 F.2.1 dX10_isBoat_9 rfl ?_
  obtain ⟨v2, hc1, h⟩ := bp_e h
  refine q_ci hB (q_goS F hE hB (k_X10_in hI σ0 a1.toInt64 (0 : Int64) ((σ0.1 64 9) - (1 : Int32)).toInt64 hc1) (ca_RX10_64 F.2.2.2.2 ⟨Nat.le_of_ble_eq_true rfl, Nat.le_of_ble_eq_true rfl⟩) rfl hl.1 rfl (Nat.le_of_ble_eq_true rfl) dX10_isBoat_10 ⟨Nat.le_of_ble_eq_true rfl, Nat.le_of_ble_eq_true rfl⟩) (fun H locs hB => ?_)
  obtain ⟨hn3, h⟩ := cb_e h
  exact q_zret F hlocks hr hn3 hB (Option.some.inj h) rfl dX10_isBoat_13
def f_X10_isStep (σ0 : Mem) (a0 : Int32) : Option (Int32) := (bp (f_X10_in σ0 a0.toInt64 (0 : Int64) (99 : Int64)) (fun v2 => (cb v2 (some v2))))
set_option maxHeartbeats 4000000 in
set_option maxRecDepth 100000 in
theorem k_X10_isStep {l : Launch} {D : va_G} {cy : Nat → ClassId} {ad : Nat → Nat} {ta tb : Nat} (hI : AdI ad) (σ0 : Mem) (a0 : Int32) {o : Int32} (h : f_X10_isStep σ0 a0 = some o) : Met l yX10_isStep (Cond.code yX10_isStep cX10_isStep 1 (some .boolean) :: wG) rm_X10_isStep (CP D cy ad ta tb σ0 [.int a0]) (CQi D cy ad o σ0) 0 0 (AA ad) := by
  refine Met.ofW (cc := cX10_isStep) (maxL := 1) (ret := (some .boolean)) (by decide) rfl ?_
  intro p e s m args below meth c s₁ B hml hv
  obtain ⟨rfl, hE, hP⟩ := hv
  have hts := atoms_spec (ws := Cond.code yX10_isStep cX10_isStep 1 (some .boolean) :: wG) B.pre
  have F : CallFix p m c cX10_isStep 1 s _ wG RX10 := ⟨B.exec, B.bytes, hml, findClass_of_methodNamed B.named, fun w hw => hts w (List.mem_cons_of_mem _ hw)⟩
  have hr := B.returns
  have hlocks := B.notSynchronized
  have hB : Bd D cy ad σ0 s.heap s.heap [] := ⟨hP, va_S.rf⟩
  have hl := lv_entry ([.int a0] : List Value) (n := 1) (Nat.le_of_ble_eq_true rfl)
  rw [lg_entry_eq]
  generalize (lg_sl ([.int a0] : List Value) ++ List.replicate (1 - (lg_sl ([.int a0] : List Value)).length) Slot.unset).toArray = ls at hl ⊢
  have hl : lv_has ls 1 [(0, .int a0)] := hl
  unfold f_X10_isStep at h
  refine lv_iload_n F.1 F.2.1 dX10_isStep_0 rfl (lv_at hl 0 rfl) ?_
  refine lv_i2l F.1 F.2.1 dX10_isStep_1 rfl ?_
  refine lv_lconst (v := 0) F.1 F.2.1 dX10_isStep_2 (by decide) ?_
  refine lv_ldc2 (v := 99) F.1 F.2.1 F.2.2.2.1 (F.2.2.2.2 _ wm_k_RX10_127) dX10_isStep_3 ?_
  obtain ⟨v2, hc1, h⟩ := bp_e h
  refine q_ci hB (q_goS F hE hB (k_X10_in hI σ0 a0.toInt64 (0 : Int64) (99 : Int64) hc1) (ca_RX10_64 F.2.2.2.2 ⟨Nat.le_of_ble_eq_true rfl, Nat.le_of_ble_eq_true rfl⟩) rfl hl.1 rfl (Nat.le_of_ble_eq_true rfl) dX10_isStep_6 ⟨Nat.le_of_ble_eq_true rfl, Nat.le_of_ble_eq_true rfl⟩) (fun H locs hB => ?_)
  obtain ⟨hn3, h⟩ := cb_e h
  exact q_zret F hlocks hr hn3 hB (Option.some.inj h) rfl dX10_isStep_9
def f_X10_bridge (σ0 : Mem) (a1 : Int32) (a2 : Int32) : Option (Int32 × Mem) := (bv (f_X10_find σ0) (fun σ2 => (bp (f_X10_isBridge σ2 a1) (fun v4 => (if v4 = (0 : Int32) then (some ((-2 : Int32), σ2)) else (bp (f_X10_in σ2 a2.toInt64 (0 : Int64) (2 : Int64)) (fun v7 => (if v7 = (0 : Int32) then (some ((-2 : Int32), σ2)) else (ck (((3 : Int32) * a1) + a2) 24 (some ((σ2.1 71 (((3 : Int32) * a1) + a2).toNatClampNeg), σ2)))))))))))
set_option maxHeartbeats 4000000 in
set_option maxRecDepth 100000 in
theorem k_X10_bridge {l : Launch} {D : va_G} {cy : Nat → ClassId} {ad : Nat → Nat} {ta tb : Nat} (hI : AdI ad) (σ0 : Mem) (a1 : Int32) (a2 : Int32) {o : Int32 × Mem} (h : f_X10_bridge σ0 a1 a2 = some o) : Met l yX10_bridge (Cond.code yX10_bridge cX10_bridge 3 (some .int) :: wG) rm_X10_bridge (CP D cy ad ta tb σ0 [.ref (ad 64), .int a1, .int a2]) (CQi D cy ad o.1 o.2) 0 0 (AA ad) := by
  refine Met.ofW (cc := cX10_bridge) (maxL := 3) (ret := (some .int)) (by decide) rfl ?_
  intro p e s m args below meth c s₁ B hml hv
  obtain ⟨rfl, hE, hP⟩ := hv
  have hts := atoms_spec (ws := Cond.code yX10_bridge cX10_bridge 3 (some .int) :: wG) B.pre
  have F : CallFix p m c cX10_bridge 3 s _ wG RX10 := ⟨B.exec, B.bytes, hml, findClass_of_methodNamed B.named, fun w hw => hts w (List.mem_cons_of_mem _ hw)⟩
  have hr := B.returns
  have hlocks := B.notSynchronized
  have hB : Bd D cy ad σ0 s.heap s.heap [] := ⟨hP, va_S.rf⟩
  have hl := lv_entry ([.ref (ad 64), .int a1, .int a2] : List Value) (n := 3) (Nat.le_of_ble_eq_true rfl)
  rw [lg_entry_eq]
  generalize (lg_sl ([.ref (ad 64), .int a1, .int a2] : List Value) ++ List.replicate (3 - (lg_sl ([.ref (ad 64), .int a1, .int a2] : List Value)).length) Slot.unset).toArray = ls at hl ⊢
  have hl : lv_has ls 3 [(0, .ref (ad 64)), (1, .int a1), (2, .int a2)] := hl
  unfold f_X10_bridge at h
  refine lv_aload_n F.1 F.2.1 dX10_bridge_0 rfl (lv_at hl 0 rfl) ?_
  obtain ⟨σ2, hc1, h⟩ := bv_e h
  refine q_cv hB (q_goV F hE hB (k_X10_find hI σ0 hc1) (ca_RX10_129 F.2.2.2.2 ⟨Nat.le_of_ble_eq_true rfl, Nat.le_of_ble_eq_true rfl⟩) rfl po_64 rfl hl.1 rfl (Nat.le_of_ble_eq_true rfl) dX10_bridge_1 ⟨Nat.le_of_ble_eq_true rfl, Nat.le_of_ble_eq_true rfl⟩) (fun H locs hB => ?_)
  refine lv_aload_n F.1 F.2.1 dX10_bridge_4 rfl (lv_at hl 0 rfl) ?_
  refine lv_iload_n F.1 F.2.1 dX10_bridge_5 rfl (lv_at hl 1 rfl) ?_
  obtain ⟨v4, hc3, h⟩ := bp_e h
  refine q_ci hB (q_goV F hE hB (k_X10_isBridge hI σ2 a1 hc3) (ca_RX10_132 F.2.2.2.2 ⟨Nat.le_of_ble_eq_true rfl, Nat.le_of_ble_eq_true rfl⟩) rfl po_64 rfl hl.1 rfl (Nat.le_of_ble_eq_true rfl) dX10_bridge_6 ⟨Nat.le_of_ble_eq_true rfl, Nat.le_of_ble_eq_true rfl⟩) (fun H locs hB => ?_)
  refine lv_if_eq (tgt := 37) F.1 F.2.1 dX10_bridge_9 (by decide) (fun c5 => ?_) (fun c5 => ?_)
  · replace h := it_e c5 h
    refine lv_bipush (v := (-2)) F.1 F.2.1 dX10_bridge_37 (by decide) ?_
    exact q_iret F hlocks hr hB (so1 h) (so2 h) dX10_bridge_39
  · replace h := ie_e c5 h
    refine lv_iload_n F.1 F.2.1 dX10_bridge_12 rfl (lv_at hl 2 rfl) ?_
    refine lv_i2l F.1 F.2.1 dX10_bridge_13 rfl ?_
    refine lv_lconst (v := 0) F.1 F.2.1 dX10_bridge_14 (by decide) ?_
    refine lv_ldc2 (v := 2) F.1 F.2.1 F.2.2.2.1 (F.2.2.2.2 _ wm_k_RX10_77) dX10_bridge_15 ?_
    obtain ⟨v7, hc6, h⟩ := bp_e h
    refine q_ci hB (q_goS F hE hB (k_X10_in hI σ2 a2.toInt64 (0 : Int64) (2 : Int64) hc6) (ca_RX10_64 F.2.2.2.2 ⟨Nat.le_of_ble_eq_true rfl, Nat.le_of_ble_eq_true rfl⟩) rfl hl.1 rfl (Nat.le_of_ble_eq_true rfl) dX10_bridge_18 ⟨Nat.le_of_ble_eq_true rfl, Nat.le_of_ble_eq_true rfl⟩) (fun H locs hB => ?_)
    refine lv_if_eq (tgt := 37) F.1 F.2.1 dX10_bridge_21 (by decide) (fun c8 => ?_) (fun c8 => ?_)
    · replace h := it_e c8 h
      refine lv_bipush (v := (-2)) F.1 F.2.1 dX10_bridge_37 (by decide) ?_
      exact q_iret F hlocks hr hB (so1 h) (so2 h) dX10_bridge_39
    · replace h := ie_e c8 h
      refine lv_aload_n F.1 F.2.1 dX10_bridge_24 rfl (lv_at hl 0 rfl) ?_
      refine gf_RX10_28 F hE hB po_64 rfl dX10_bridge_25 ?_
      refine lv_iconst (v := 3) F.1 F.2.1 dX10_bridge_28 (by decide) ?_
      refine lv_iload_n F.1 F.2.1 dX10_bridge_29 rfl (lv_at hl 1 rfl) ?_
      refine lv_imul F.1 F.2.1 dX10_bridge_30 ?_
      refine lv_iload_n F.1 F.2.1 dX10_bridge_31 rfl (lv_at hl 2 rfl) ?_
      refine lv_iadd F.1 F.2.1 dX10_bridge_32 ?_
      obtain ⟨hi9, h⟩ := ck_e h
      refine q_iald F hE hB po_71 hi9 dX10_bridge_33 ?_
      refine lv_goto (tgt := 39) F.1 F.2.1 dX10_bridge_34 (by decide) ?_
      exact q_iret F hlocks hr hB (so1 h) (so2 h) dX10_bridge_39
def f_X10_boat (σ0 : Mem) (a1 : Int32) (a2 : Int32) : Option (Int32 × Mem) := (bv (f_X10_find σ0) (fun σ2 => (bp (f_X10_isBoat σ2 a1) (fun v4 => (if v4 = (0 : Int32) then (some ((-2 : Int32), σ2)) else (bp (f_X10_in σ2 a2.toInt64 (0 : Int64) (6 : Int64)) (fun v7 => (if v7 = (0 : Int32) then (some ((-2 : Int32), σ2)) else (ck (((7 : Int32) * a1) + a2) 56 (some ((σ2.1 72 (((7 : Int32) * a1) + a2).toNatClampNeg), σ2)))))))))))
set_option maxHeartbeats 4000000 in
set_option maxRecDepth 100000 in
theorem k_X10_boat {l : Launch} {D : va_G} {cy : Nat → ClassId} {ad : Nat → Nat} {ta tb : Nat} (hI : AdI ad) (σ0 : Mem) (a1 : Int32) (a2 : Int32) {o : Int32 × Mem} (h : f_X10_boat σ0 a1 a2 = some o) : Met l yX10_boat (Cond.code yX10_boat cX10_boat 3 (some .int) :: wG) rm_X10_boat (CP D cy ad ta tb σ0 [.ref (ad 64), .int a1, .int a2]) (CQi D cy ad o.1 o.2) 0 0 (AA ad) := by
  refine Met.ofW (cc := cX10_boat) (maxL := 3) (ret := (some .int)) (by decide) rfl ?_
  intro p e s m args below meth c s₁ B hml hv
  obtain ⟨rfl, hE, hP⟩ := hv
  have hts := atoms_spec (ws := Cond.code yX10_boat cX10_boat 3 (some .int) :: wG) B.pre
  have F : CallFix p m c cX10_boat 3 s _ wG RX10 := ⟨B.exec, B.bytes, hml, findClass_of_methodNamed B.named, fun w hw => hts w (List.mem_cons_of_mem _ hw)⟩
  have hr := B.returns
  have hlocks := B.notSynchronized
  have hB : Bd D cy ad σ0 s.heap s.heap [] := ⟨hP, va_S.rf⟩
  have hl := lv_entry ([.ref (ad 64), .int a1, .int a2] : List Value) (n := 3) (Nat.le_of_ble_eq_true rfl)
  rw [lg_entry_eq]
  generalize (lg_sl ([.ref (ad 64), .int a1, .int a2] : List Value) ++ List.replicate (3 - (lg_sl ([.ref (ad 64), .int a1, .int a2] : List Value)).length) Slot.unset).toArray = ls at hl ⊢
  have hl : lv_has ls 3 [(0, .ref (ad 64)), (1, .int a1), (2, .int a2)] := hl
  unfold f_X10_boat at h
  refine lv_aload_n F.1 F.2.1 dX10_boat_0 rfl (lv_at hl 0 rfl) ?_
  obtain ⟨σ2, hc1, h⟩ := bv_e h
  refine q_cv hB (q_goV F hE hB (k_X10_find hI σ0 hc1) (ca_RX10_129 F.2.2.2.2 ⟨Nat.le_of_ble_eq_true rfl, Nat.le_of_ble_eq_true rfl⟩) rfl po_64 rfl hl.1 rfl (Nat.le_of_ble_eq_true rfl) dX10_boat_1 ⟨Nat.le_of_ble_eq_true rfl, Nat.le_of_ble_eq_true rfl⟩) (fun H locs hB => ?_)
  refine lv_aload_n F.1 F.2.1 dX10_boat_4 rfl (lv_at hl 0 rfl) ?_
  refine lv_iload_n F.1 F.2.1 dX10_boat_5 rfl (lv_at hl 1 rfl) ?_
  obtain ⟨v4, hc3, h⟩ := bp_e h
  refine q_ci hB (q_goV F hE hB (k_X10_isBoat hI σ2 a1 hc3) (ca_RX10_135 F.2.2.2.2 ⟨Nat.le_of_ble_eq_true rfl, Nat.le_of_ble_eq_true rfl⟩) rfl po_64 rfl hl.1 rfl (Nat.le_of_ble_eq_true rfl) dX10_boat_6 ⟨Nat.le_of_ble_eq_true rfl, Nat.le_of_ble_eq_true rfl⟩) (fun H locs hB => ?_)
  refine lv_if_eq (tgt := 38) F.1 F.2.1 dX10_boat_9 (by decide) (fun c5 => ?_) (fun c5 => ?_)
  · replace h := it_e c5 h
    refine lv_bipush (v := (-2)) F.1 F.2.1 dX10_boat_38 (by decide) ?_
    exact q_iret F hlocks hr hB (so1 h) (so2 h) dX10_boat_40
  · replace h := ie_e c5 h
    refine lv_iload_n F.1 F.2.1 dX10_boat_12 rfl (lv_at hl 2 rfl) ?_
    refine lv_i2l F.1 F.2.1 dX10_boat_13 rfl ?_
    refine lv_lconst (v := 0) F.1 F.2.1 dX10_boat_14 (by decide) ?_
    refine lv_ldc2 (v := 6) F.1 F.2.1 F.2.2.2.1 (F.2.2.2.2 _ wm_k_RX10_138) dX10_boat_15 ?_
    obtain ⟨v7, hc6, h⟩ := bp_e h
    refine q_ci hB (q_goS F hE hB (k_X10_in hI σ2 a2.toInt64 (0 : Int64) (6 : Int64) hc6) (ca_RX10_64 F.2.2.2.2 ⟨Nat.le_of_ble_eq_true rfl, Nat.le_of_ble_eq_true rfl⟩) rfl hl.1 rfl (Nat.le_of_ble_eq_true rfl) dX10_boat_18 ⟨Nat.le_of_ble_eq_true rfl, Nat.le_of_ble_eq_true rfl⟩) (fun H locs hB => ?_)
    refine lv_if_eq (tgt := 38) F.1 F.2.1 dX10_boat_21 (by decide) (fun c8 => ?_) (fun c8 => ?_)
    · replace h := it_e c8 h
      refine lv_bipush (v := (-2)) F.1 F.2.1 dX10_boat_38 (by decide) ?_
      exact q_iret F hlocks hr hB (so1 h) (so2 h) dX10_boat_40
    · replace h := ie_e c8 h
      refine lv_aload_n F.1 F.2.1 dX10_boat_24 rfl (lv_at hl 0 rfl) ?_
      refine gf_RX10_31 F hE hB po_64 rfl dX10_boat_25 ?_
      refine lv_bipush (v := 7) F.1 F.2.1 dX10_boat_28 (by decide) ?_
      refine lv_iload_n F.1 F.2.1 dX10_boat_30 rfl (lv_at hl 1 rfl) ?_
      refine lv_imul F.1 F.2.1 dX10_boat_31 ?_
      refine lv_iload_n F.1 F.2.1 dX10_boat_32 rfl (lv_at hl 2 rfl) ?_
      refine lv_iadd F.1 F.2.1 dX10_boat_33 ?_
      obtain ⟨hi9, h⟩ := ck_e h
      refine q_iald F hE hB po_72 hi9 dX10_boat_34 ?_
      refine lv_goto (tgt := 40) F.1 F.2.1 dX10_boat_35 (by decide) ?_
      exact q_iret F hlocks hr hB (so1 h) (so2 h) dX10_boat_40
