/-! 12c: what the start of the law says: classes, tables, the two rows of constants -/
/-! THE CLAIM OUT OF ONE WALK OF THE LAW'S BODY. Your part is whole_start (and what it stands on); all else here is the same for every law, but numbers. -/
def R_law : String := "BowingBridgesLaw"
def lw_P (b : Addr) (xs : List Int32) (args : Array Value) (s : State) : Prop := args = #[.ref b] ∧ s.IntsAt b xs ∧ xs.length ≤ 3072 ∧ (Jvm.Cond.and given_1 narrow_1).before args s = true
def lw_Q (_ : Array Value) (s : State) (o : Outcome) (t : State) : Prop := o = .returned (some (.int 1)) ∧ Framed s o t [] 600000 7302250
def lw_Z (below : List Frame) (a : Array Value) (s : State) : State → Prop := fun t => ∃ o, t.status = .running ∧ Ended t below o ∧ lw_Q a s o t
/-- the law's own end, with 1 on the stack, nothing written that was there before, its room as the claim has it -/
theorem lw_ret {p : Program} {l : Launch} {e : Env} {s : State} {m : MethodId} {below : List Frame} {meth : Method} {c : Code} {b : Nat} (hx : p.tables.exec = Jvm.exec) (hb : c.code = code) (hr : meth.sig.returnType = ret) (hlocks : meth.locks = false) {pc : Nat} {H : Heap} {ls : Array Slot} (hdg : decode code pc = .ok (.ireturn, 1)) : W p l e room_1 s m #[Value.ref b] below meth c H [] 600000 7302250 (lw_Z below #[Value.ref b] s) (F0 m pc ls [.int 1]) := by
  intro T hT X
  obtain ⟨fs, hret, hrun, hended, hW, hframe⟩ := X.leave (v := some (.int 1)) (hlocks := hlocks) (fun h => by rw [hr] at h; cases h)
  have hmeth' : T.vm.method? m = some meth := X.method'
  refine ⟨T.setFrames fs, ?_, .returned (some (.int 1)), hrun, hended, rfl, ⟨_, rfl⟩, hW, hframe⟩
  jvm_step X.here [X.here.top, hx, hb, hdg, hmeth', hr, ret, narrow_b1]
  (try refine ⟨rfl, ?_⟩); (try refine ⟨rfl, ?_⟩)
  first | (intro acts; rw [hret _ acts rfl rfl rfl]) | rw [hret _ _ rfl rfl rfl]
  exact Steps.refl _
/-- what holds at the law's entry: the machine, the code, the tables' words (any of lw_tbl by 'hts w (by decide +kernel)'), the script of L ints xs at the cell b, what the Statement gives of the start (any of its parts by flat_of_before) -/
def lw_At (p : Program) (s : State) (m : MethodId) (meth : Method) (c : Code) (b L : Nat) (xs : Nat → Int32) : Prop :=
  p.tables.exec = Jvm.exec ∧ c.code = code ∧ meth.sig.returnType = ret ∧ c.maxLocals = 4 ∧ s.vm.findClass R_law = some m.cls ∧ (∀ w ∈ lw_tbl, w.before #[Value.ref b] s = true) ∧ va_X b L xs s s.heap ∧ b < s.heap.size ∧ meth.locks = false ∧ (Jvm.Cond.and given_1 narrow_1).before #[Value.ref b] s = true
theorem lg_eq {x y : Int64} (h : y = x) : lg_cmp x y = 0 := by
  subst h
  simp [lg_cmp]
theorem i6_le {L i : Nat} (hL : L ≤ 3072) (hi : i ≤ 3072) (h : ¬ nI L - 6 < nI i) : i + 6 ≤ L := by
  have h1 : (nI L - 6).toInt = (L : Int) - 6 := by
    rw [Int32.toInt_sub, nI_toInt (by omega)]
    show Int.bmod ((L : Int) - 6) (2 ^ 32) = _
    exact Int.bmod_eq_of_le (by omega) (by omega)
  rw [Int32.lt_iff_toInt_lt, h1, nI_toInt (by omega)] at h
  omega
theorem arr_of {s : State} {args : Array Value} {ty : FieldType} (h : (Cond.arrayClass ty).before args s = true) : ∃ cA : ClassId, ArrOfT s cA ty ∧ s.vm.findClass ("[" ++ ty.toString) = some cA := by
  obtain ⟨cA, k, comp, h1, h2, h3⟩ := Cond.arrayClass_spec h
  exact ⟨cA, fun n z => ⟨fun q hq => (by cases hq), k, h2, comp, h3⟩, h1⟩
theorem arr_q {s : State} {args : Array Value} {C : String} (h : (Cond.arrayOver (.object C)).before args s = true) : ∃ cA : ClassId, ArrOfT s cA (.object C) ∧ va_RA s cA (.object C) := by
  obtain ⟨comp, cA, k, h1, h2, h3, h4, h5⟩ := Cond.arrayOver_spec h
  exact ⟨cA, fun n z => ⟨fun q hq => (by cases hq), k, h3, comp, h4⟩, k, comp, h3, h4, h1, h5⟩
theorem arr_g {s : State} {args : Array Value} (h : (Cond.arrayOver (.array .int)).before args s = true) : ∃ cA : ClassId, ArrOfT s cA (.array .int) ∧ va_RA s cA (.array .int) := by
  obtain ⟨comp, cA, k, h1, h3, h4, h5⟩ := mg_over h
  exact ⟨cA, fun n z => ⟨fun q hq => (by cases hq), k, h3, comp, h4⟩, h5⟩
set_option maxHeartbeats 4000000 in
theorem lw_EC {p : Program} {s : State} {m : MethodId} {meth : Method} {c : Code} {b L : Nat} {xs : Nat → Int32} (C0 : lw_At p s m meth c b L xs) : ∃ (D : va_G) (cy : Nat → ClassId), EC D cy s := by
  obtain ⟨hx, hb, hr, hml, hown, hts, hX, hbl, hlocks, hgv⟩ := C0
  obtain ⟨c0, i0, hK0⟩ := u_known (C := RX0) (T := TX0) (N := 4) (n := 4) hts (fun w h => tb_G w (inlX0 w h)) (hts _ (tb_T _ wt_n_RX0))
  obtain ⟨c1, i1, hK1⟩ := u_known (C := RX1) (T := TX1) (N := 4) (n := 4) hts (fun w h => tb_G w (inlX1 w h)) (hts _ (tb_T _ wt_n_RX1))
  obtain ⟨c2, i2, hK2⟩ := u_known (C := RX2) (T := TX2) (N := 5) (n := 5) hts (fun w h => tb_G w (inlX2 w h)) (hts _ (tb_T _ wt_n_RX2))
  obtain ⟨c3, i3, hK3⟩ := u_known (C := RX3) (T := TX3) (N := 5) (n := 5) hts (fun w h => tb_G w (inlX3 w h)) (hts _ (tb_T _ wt_n_RX3))
  obtain ⟨c4, i4, hK4⟩ := u_known (C := RX4) (T := TX4) (N := 4) (n := 4) hts (fun w h => tb_G w (inlX4 w h)) (hts _ (tb_T _ wt_n_RX4))
  obtain ⟨c5, i5, hK5⟩ := u_known (C := RX5) (T := TX5) (N := 4) (n := 4) hts (fun w h => tb_G w (inlX5 w h)) (hts _ (tb_T _ wt_n_RX5))
  obtain ⟨c6, i6, hK6⟩ := u_known (C := RX6) (T := TX6) (N := 4) (n := 4) hts (fun w h => tb_G w (inlX6 w h)) (hts _ (tb_T _ wt_n_RX6))
  obtain ⟨c7, i7, hK7⟩ := u_known (C := RX7) (T := TX7) (N := 2) (n := 2) hts (fun w h => tb_G w (inlX7 w h)) (hts _ (tb_T _ wt_n_RX7))
  obtain ⟨c8, i8, hK8⟩ := u_known (C := RX8) (T := TX8) (N := 7) (n := 7) hts (fun w h => tb_G w (inlX8 w h)) (hts _ (tb_T _ wt_n_RX8))
  obtain ⟨c9, i9, hK9⟩ := u_known (C := RX9) (T := TX9) (N := 13) (n := 13) hts (fun w h => tb_G w (inlX9 w h)) (hts _ (tb_T _ wt_n_RX9))
  obtain ⟨c10, i10, hK10⟩ := u_known (C := RX10) (T := TX10) (N := 26) (n := 26) hts (fun w h => tb_G w (inlX10 w h)) (hts _ (tb_T _ wt_n_RX10))
  obtain ⟨y0, a0, f0⟩ := arr_of (hts _ (tb_T _ wt_a_int))
  obtain ⟨y1, a1, f1⟩ := arr_of (hts _ (tb_T _ wt_a_long))
  obtain ⟨y2, a2, f2⟩ := arr_q (hts _ tb_aoT)
  obtain ⟨y3, a3, f3⟩ := arr_q (hts _ tb_aoS)
  obtain ⟨y4, a4, f4⟩ := arr_g (hts _ tb_aoA)
  refine ⟨(fun k => match k with | 0 => c0 | 1 => c1 | 2 => c2 | 3 => c3 | 4 => c4 | 5 => c5 | 6 => c6 | 7 => c7 | 8 => c8 | 9 => c9 | _ => c10, fun k => match k with | 0 => i0 | 1 => i1 | 2 => i2 | 3 => i3 | 4 => i4 | 5 => i5 | 6 => i6 | 7 => i7 | 8 => i8 | 9 => i9 | _ => i10), fun k => match k with | 0 => y0 | 1 => y1 | 2 => y2 | 3 => y3 | _ => y4, ⟨fun k q hq => ?_, fun k q hq => ?_⟩, fun q hq => ?_, va_AO.of (hts _ tb_aoT), va_AO.of (hts _ tb_aoS), hts _ tb_aoA⟩
  · match k, hq with
    | 0, hq => cases hq; exact hK0
    | 1, hq => cases hq; exact hK1
    | 2, hq => cases hq; exact hK2
    | 3, hq => cases hq; exact hK3
    | 4, hq => cases hq; exact hK4
    | 5, hq => cases hq; exact hK5
    | 6, hq => cases hq; exact hK6
    | 7, hq => cases hq; exact hK7
    | 8, hq => cases hq; exact hK8
    | 9, hq => cases hq; exact hK9
    | 10, hq => cases hq; exact hK10
    | k + 11, hq => cases hq
  · match k, hq with
    | 0, hq => cases hq; exact ⟨a0, f0⟩
    | 1, hq => cases hq; exact ⟨a1, f1⟩
    | 2, hq => cases hq; exact ⟨a2, f2⟩
    | 3, hq => cases hq; exact ⟨a3, f3⟩
    | 4, hq => cases hq; exact ⟨a4, f4⟩
    | k + 5, hq => cases hq
  · exact va_Nw.of rfl (hts _ (tb_nM _ (List.mem_map.mpr ⟨q, hq, rfl⟩)))
set_option maxHeartbeats 4000000 in
set_option maxRecDepth 100000 in
theorem lw_FIRST {p : Program} {s : State} {m : MethodId} {meth : Method} {c : Code} {b L : Nat} {xs : Nat → Int32} (C0 : lw_At p s m meth c b L xs) : ∃ t : Nat, va_Z "BowingBridges" "CARGO_FIRST" "[I" (.ref t) (fun q => s.heap.size ≤ q) s s.heap ∧ va_T .int t 28 (fun j => .int (cgF j)) (fun q => s.heap.size ≤ q) s s.heap := by
  obtain ⟨hx, hb, hr, hml, hown, hts, hX, hbl, hlocks, hgv⟩ := C0
  have hs := flat_of_before _ hgv
  have hA : ∀ a : Nat, a < s.heap.size → ¬ (fun q => s.heap.size ≤ q) a := fun a h => Nat.not_le.mpr h
  obtain ⟨t, ht, hT⟩ := va_Tof (tm := .static "BowingBridges" "CARGO_FIRST" "[I") (ty := .int) (N := 28) (f := fun j => .int (cgF j)) (A := fun q => s.heap.size ≤ q) (by decide) (hs _ (by decide +kernel)) (va_eqt (z := 28) (hs _ (by decide +kernel))) (fun j hj => by
    match j, hj with
    | 0, _ => exact va_eqt (z := cgF 0) (hs _ (by decide +kernel))
    | 1, _ => exact va_eqt (z := cgF 1) (hs _ (by decide +kernel))
    | 2, _ => exact va_eqt (z := cgF 2) (hs _ (by decide +kernel))
    | 3, _ => exact va_eqt (z := cgF 3) (hs _ (by decide +kernel))
    | 4, _ => exact va_eqt (z := cgF 4) (hs _ (by decide +kernel))
    | 5, _ => exact va_eqt (z := cgF 5) (hs _ (by decide +kernel))
    | 6, _ => exact va_eqt (z := cgF 6) (hs _ (by decide +kernel))
    | 7, _ => exact va_eqt (z := cgF 7) (hs _ (by decide +kernel))
    | 8, _ => exact va_eqt (z := cgF 8) (hs _ (by decide +kernel))
    | 9, _ => exact va_eqt (z := cgF 9) (hs _ (by decide +kernel))
    | 10, _ => exact va_eqt (z := cgF 10) (hs _ (by decide +kernel))
    | 11, _ => exact va_eqt (z := cgF 11) (hs _ (by decide +kernel))
    | 12, _ => exact va_eqt (z := cgF 12) (hs _ (by decide +kernel))
    | 13, _ => exact va_eqt (z := cgF 13) (hs _ (by decide +kernel))
    | 14, _ => exact va_eqt (z := cgF 14) (hs _ (by decide +kernel))
    | 15, _ => exact va_eqt (z := cgF 15) (hs _ (by decide +kernel))
    | 16, _ => exact va_eqt (z := cgF 16) (hs _ (by decide +kernel))
    | 17, _ => exact va_eqt (z := cgF 17) (hs _ (by decide +kernel))
    | 18, _ => exact va_eqt (z := cgF 18) (hs _ (by decide +kernel))
    | 19, _ => exact va_eqt (z := cgF 19) (hs _ (by decide +kernel))
    | 20, _ => exact va_eqt (z := cgF 20) (hs _ (by decide +kernel))
    | 21, _ => exact va_eqt (z := cgF 21) (hs _ (by decide +kernel))
    | 22, _ => exact va_eqt (z := cgF 22) (hs _ (by decide +kernel))
    | 23, _ => exact va_eqt (z := cgF 23) (hs _ (by decide +kernel))
    | 24, _ => exact va_eqt (z := cgF 24) (hs _ (by decide +kernel))
    | 25, _ => exact va_eqt (z := cgF 25) (hs _ (by decide +kernel))
    | 26, _ => exact va_eqt (z := cgF 26) (hs _ (by decide +kernel))
    | 27, _ => exact va_eqt (z := cgF 27) (hs _ (by decide +kernel))
    | j + 28, hj => exact absurd hj (by omega)) hA
  exact ⟨t, va_Zof (hts _ tb_lsF) (hts _ (tb_T _ (wt_G wm_n_RX9))) ht hA, hT⟩
set_option maxHeartbeats 4000000 in
set_option maxRecDepth 100000 in
theorem lw_SECOND {p : Program} {s : State} {m : MethodId} {meth : Method} {c : Code} {b L : Nat} {xs : Nat → Int32} (C0 : lw_At p s m meth c b L xs) : ∃ t : Nat, va_Z "BowingBridges" "CARGO_SECOND" "[I" (.ref t) (fun q => s.heap.size ≤ q) s s.heap ∧ va_T .int t 28 (fun j => .int (cgS j)) (fun q => s.heap.size ≤ q) s s.heap := by
  obtain ⟨hx, hb, hr, hml, hown, hts, hX, hbl, hlocks, hgv⟩ := C0
  have hs := flat_of_before _ hgv
  have hA : ∀ a : Nat, a < s.heap.size → ¬ (fun q => s.heap.size ≤ q) a := fun a h => Nat.not_le.mpr h
  obtain ⟨t, ht, hT⟩ := va_Tof (tm := .static "BowingBridges" "CARGO_SECOND" "[I") (ty := .int) (N := 28) (f := fun j => .int (cgS j)) (A := fun q => s.heap.size ≤ q) (by decide) (hs _ (by decide +kernel)) (va_eqt (z := 28) (hs _ (by decide +kernel))) (fun j hj => by
    match j, hj with
    | 0, _ => exact va_eqt (z := cgS 0) (hs _ (by decide +kernel))
    | 1, _ => exact va_eqt (z := cgS 1) (hs _ (by decide +kernel))
    | 2, _ => exact va_eqt (z := cgS 2) (hs _ (by decide +kernel))
    | 3, _ => exact va_eqt (z := cgS 3) (hs _ (by decide +kernel))
    | 4, _ => exact va_eqt (z := cgS 4) (hs _ (by decide +kernel))
    | 5, _ => exact va_eqt (z := cgS 5) (hs _ (by decide +kernel))
    | 6, _ => exact va_eqt (z := cgS 6) (hs _ (by decide +kernel))
    | 7, _ => exact va_eqt (z := cgS 7) (hs _ (by decide +kernel))
    | 8, _ => exact va_eqt (z := cgS 8) (hs _ (by decide +kernel))
    | 9, _ => exact va_eqt (z := cgS 9) (hs _ (by decide +kernel))
    | 10, _ => exact va_eqt (z := cgS 10) (hs _ (by decide +kernel))
    | 11, _ => exact va_eqt (z := cgS 11) (hs _ (by decide +kernel))
    | 12, _ => exact va_eqt (z := cgS 12) (hs _ (by decide +kernel))
    | 13, _ => exact va_eqt (z := cgS 13) (hs _ (by decide +kernel))
    | 14, _ => exact va_eqt (z := cgS 14) (hs _ (by decide +kernel))
    | 15, _ => exact va_eqt (z := cgS 15) (hs _ (by decide +kernel))
    | 16, _ => exact va_eqt (z := cgS 16) (hs _ (by decide +kernel))
    | 17, _ => exact va_eqt (z := cgS 17) (hs _ (by decide +kernel))
    | 18, _ => exact va_eqt (z := cgS 18) (hs _ (by decide +kernel))
    | 19, _ => exact va_eqt (z := cgS 19) (hs _ (by decide +kernel))
    | 20, _ => exact va_eqt (z := cgS 20) (hs _ (by decide +kernel))
    | 21, _ => exact va_eqt (z := cgS 21) (hs _ (by decide +kernel))
    | 22, _ => exact va_eqt (z := cgS 22) (hs _ (by decide +kernel))
    | 23, _ => exact va_eqt (z := cgS 23) (hs _ (by decide +kernel))
    | 24, _ => exact va_eqt (z := cgS 24) (hs _ (by decide +kernel))
    | 25, _ => exact va_eqt (z := cgS 25) (hs _ (by decide +kernel))
    | 26, _ => exact va_eqt (z := cgS 26) (hs _ (by decide +kernel))
    | 27, _ => exact va_eqt (z := cgS 27) (hs _ (by decide +kernel))
    | j + 28, hj => exact absurd hj (by omega)) hA
  exact ⟨t, va_Zof (hts _ tb_lsS) (hts _ (tb_T _ (wt_G wm_n_RX9))) ht hA, hT⟩
theorem lw_EV {p : Program} {s : State} {m : MethodId} {meth : Method} {c : Code} {b L : Nat} {xs : Nat → Int32} (C0 : lw_At p s m meth c b L xs) {D : va_G} {cy : Nat → ClassId} (hE : EC D cy s) {ad : Nat → Nat} (hge : ∀ r, r < 80 → s.heap.size ≤ ad r) : ∃ ta tb : Nat, EV D cy ad ta tb s := by
  obtain ⟨ta, z1, t1⟩ := lw_FIRST C0
  obtain ⟨tb, z2, t2⟩ := lw_SECOND C0
  have hAB : ∀ q, AA ad q → s.heap.size ≤ q := fun q h => by
    obtain ⟨r, hr, rfl⟩ := h
    exact hge r hr
  obtain ⟨hx, hb, hr, hml, hown, hts, hX, hbl, hlocks, hgv⟩ := C0
  exact ⟨ta, tb, hE.1, fun q hq => va_Nw.of rfl (hts _ (tb_nF _ (List.mem_map.mpr ⟨q, hq, rfl⟩))), hE.2.1, ⟨z1.narrow hAB, t1.narrow hAB⟩, z2.narrow hAB, t2.narrow hAB⟩
