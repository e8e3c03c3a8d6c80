/-! 11b: rows for the constructors -/
def EC (D : va_G) (cy : Nat → ClassId) (U : State) : Prop :=
  va_K D vwCl (tyL cy) U ∧ (∀ q ∈ nM, va_Nw (.methodLinkNest q.1 q.2.1 q.2.2.1 q.2.2.2) U) ∧ va_AO "BowingBridges$Text" U ∧ va_AO "BowingBridges$Sheet" U ∧ (Cond.arrayOver (.array .int)).before #[] U = true
theorem ao_moved {u U : State} (hvm : u.vm.Alike U.vm) (h : (Cond.arrayOver (.array .int)).before #[] u = true) : (Cond.arrayOver (.array .int)).before #[] U = true := by
  simp only [Cond.before, Cond.holds, Cond.value, beq_iff_eq] at h
  cases hc : u.vm.findClass (FieldType.array .int).toString with
  | none => simp [hc] at h
  | some comp =>
    simp only [hc, Option.bind_some, Option.bind_eq_some_iff, Option.map_eq_some_iff] at h
    obtain ⟨c, hi, k, hk, hb⟩ := h
    obtain ⟨k', hk', he⟩ := hvm.2.2 _ _ hk
    have hi2 : (U.vm.classes.findIdx? fun (x : Class) => match x.kind with | .array component _ => component == comp | _ => false) = some c := by
      have e1 := va_idx_bare u.vm comp
      first | rw [hvm.bare_eq] at e1 | rw [← hvm.bare_eq] at e1
      exact ((va_idx_bare U.vm comp).symm.trans e1).trans hi
    have f1 : U.vm.findClass (FieldType.array .int).toString = some comp := by rw [hvm.findClass]; exact hc
    have hkd : k'.kind = k.kind := by rw [he]
    unfold Cond.before Cond.holds
    simp only [Cond.value]
    rw [f1, Option.bind_some]
    refine (congrArg (fun o : Option Nat => (o.bind (fun c => (U.vm.classes[c]?).map fun (k : Class) => match k.kind with | .array _ ty => decide (ty = FieldType.array .int) && decide (U.vm.findClass ("[" ++ (FieldType.array .int).toString) = some c) | _ => false) == some true)) hi2).trans ?_
    simp only [hk', Option.bind_some, Option.map_some, hkd, hvm.findClass, beq_iff_eq, Option.some.injEq]
    exact hb
theorem EC.goes {D : va_G} {cy : Nat → ClassId} {s U : State} (h : EC D cy s) (hW : s.WarmedH U.vm) : EC D cy U := by
  obtain ⟨h1, h2, h3, h4, h5⟩ := h
  exact ⟨va_K.moved hW.alike h1, fun q hq => va_Nw.warmM hW (h2 q hq), h3.moved hW.alike, h4.moved hW.alike, ao_moved hW.alike h5⟩
theorem EC.blind {D : va_G} {cy : Nat → ClassId} {U : State} {g : JFrame} {mk : MethodId} {a : Array Value} (h : EC D cy U) : EC D cy (U.calling g mk a) := by
  have hv : U.vm = (U.calling g mk a).vm := rfl
  have hal : U.vm.Alike (U.calling g mk a).vm := Vm.Alike.refl U.vm
  obtain ⟨h1, h2, h3, h4, h5⟩ := h
  exact ⟨va_K.moved hal h1, fun q hq => va_Nw.same rfl hv (h2 q hq), h3.moved hal, h4.moved hal, ao_moved hal h5⟩
abbrev rI (cy : Nat → ClassId) (n : Nat) : va_E := .inl (cy 0, n, .inl (fun _ => 0))
def Bw (D : va_G) (A : Nat → Prop) (ws : va_W) (H0 H : Heap) (locs : List Loc) : Prop := va_P D vwCl ws H ∧ va_D A ws ∧ va_S A H0 H locs
def CI (D : va_G) (cy : Nat → ClassId) (a : Nat) (e0 : va_E) (sz : Nat) (As : List Value) : Array Value → State → Prop := va_Pc (.ref a :: As) (fun U => U.heap.size = sz ∧ EC D cy U ∧ va_P D vwCl [(a, e0)] U.heap)
def QI {S : Type} (D : va_G) (a : Nat) (e0 : va_E) (sz : Nat) (ro : S → Nat) (wf : S → va_W) : Array Value → State → Outcome → State → Prop := va_Qv (fun u : S => ro u = a) (fun u t => va_P D vwCl (wf u) t.heap ∧ va_D (va_A [(a, e0)] sz) (wf u)) (va_A [(a, e0)] sz)
theorem one_get {a : Nat × va_E} {k : Nat} {q : Nat × va_E} (h : [a][k]? = some q) : k = 0 ∧ q = a := by
  have h0 : k < 1 := (List.getElem?_eq_some_iff.mp h).1
  have : k = 0 := by omega
  subst this
  cases h
  exact ⟨rfl, rfl⟩
theorem Bw.start {D : va_G} {a : Nat} {e0 : va_E} {H : Heap} (h : va_P D vwCl [(a, e0)] H) : Bw D (va_A [(a, e0)] H.size) [(a, e0)] H H [] := by
  refine ⟨h, ⟨fun i j x y hi hj _ => ?_, fun k q hk => va_A.in hk⟩, va_S.rf⟩
  have := (one_get hi).1
  have := (one_get hj).1
  omega
theorem CI.blind {D : va_G} {cy : Nat → ClassId} {a : Nat} {e0 : va_E} {sz : Nat} {As : List Value} : FrameBlind (CI D cy a e0 sz As) := fun a U g mk q => ⟨q.1, q.2.1, q.2.2.1.blind, q.2.2.2⟩
theorem last_get {ws : va_W} {x : Nat × va_E} : (ws ++ [x])[ws.length]? = some x := by simp
theorem CI.at {D : va_G} {cy : Nat → ClassId} {A : Nat → Prop} {a : Nat} {e0 : va_E} {As : List Value} {s : State} {H : Heap} {ws : va_W} {locs : List Loc} (hE : EC D cy s) (hB : Bw D A (ws ++ [(a, e0)]) s.heap H locs) : ∀ U : State, U.heap = H → s.WarmedH U.vm → CI D cy a e0 H.size As (Value.ref a :: As).toArray U := fun U hU hW => ⟨rfl, by rw [hU], hE.goes hW, by
  rw [hU]
  intro k q hk
  rw [(one_get hk).2]
  exact hB.1 ws.length _ last_get⟩
theorem z_join {D : va_G} {A : Nat → Prop} {ws w1 : va_W} {a : Nat} {e0 : va_E} {H H1 : Heap} (hP : va_P D vwCl (ws ++ [(a, e0)]) H) (hD : va_D A (ws ++ [(a, e0)])) (hF : ∀ q, va_A [(a, e0)] H.size q → A q) (hk : ∀ q : Nat, q < H.size → ¬ va_A [(a, e0)] H.size q → H1[q]? = H[q]?) (hP1 : va_P D vwCl w1 H1) (hD1 : va_D (va_A [(a, e0)] H.size) w1) : va_P D vwCl (ws ++ w1) H1 ∧ va_D A (ws ++ w1) := by
  have hw : ∀ (k : Nat) (q : Nat × va_E), ws[k]? = some q → (ws ++ [(a, e0)])[k]? = some q := fun k q h => by
    rw [List.getElem?_append_left (List.getElem?_eq_some_iff.mp h).1]
    exact h
  have ap : ∀ (k : Nat) (q : Nat × va_E), ws[k]? = some q → q.1 < H.size ∧ ¬ va_A [(a, e0)] H.size q.1 := by
    intro k q h
    have hl := (hP k q (hw k q h)).lt
    refine ⟨hl, fun hv => ?_⟩
    rcases hv with ⟨j, e, hj⟩ | hj
    · have h1 : q.1 = a := congrArg Prod.fst (one_get hj).2
      have h2 := hD.1 k ws.length q (a, e0) (hw k q h) last_get h1
      have h3 := (List.getElem?_eq_some_iff.mp h).1
      omega
    · omega
  refine ⟨va_P.app (fun k q h => (hP k q (hw k q h)).kept (hk q.1 (ap k q h).1 (ap k q h).2)) hP1, va_D.app ⟨fun i j x y hi hj hxy => hD.1 i j x y (hw i x hi) (hw j y hj) hxy, fun k q h => hD.2 k q (hw k q h)⟩ (hD1.weaken (fun k q _ h => hF q.1 h)) (fun i j x y hx hy hxy => (ap i x hx).2 (by rw [hxy]; exact hD1.2 j y hy))⟩
/-- the last cell comes third -/
theorem Bw.rot {D : va_G} {A : Nat → Prop} {c0 c1 x : Nat × va_E} {T : va_W} {H0 H : Heap} {locs : List Loc} (hB : Bw D A ((c0 :: c1 :: T) ++ [x]) H0 H locs) : Bw D A (c0 :: c1 :: x :: T) H0 H locs := by
  have hg : ∀ (k : Nat) (q : Nat × va_E), (c0 :: c1 :: x :: T)[k]? = some q → ((c0 :: c1 :: T) ++ [x])[if k = 2 then T.length + 2 else if k < 2 then k else k - 1]? = some q := by
    intro k q h
    match k, h with
    | 0, h => exact h
    | 1, h => exact h
    | 2, h =>
      rw [if_pos rfl]
      have e1 : T.length + 2 = (c0 :: c1 :: T).length := rfl
      rw [e1, last_get]
      exact h
    | k + 3, h =>
      rw [if_neg (by omega), if_neg (by omega), show k + 3 - 1 = k + 2 by omega]
      have h1 : T[k]? = some q := h
      have hl := (List.getElem?_eq_some_iff.mp h1).1
      rw [List.getElem?_append_left (by show k + 2 < T.length + 2; omega)]
      exact h1
  refine ⟨hB.1.by _ hg, hB.2.1.by _ hg (fun i j hi hj h => ?_), hB.2.2⟩
  have hi : i < T.length + 3 := hi
  have hj : j < T.length + 3 := hj
  split at h <;> split at h <;> (try split at h) <;> (try split at h) <;> omega
section ZR
variable {p : Program} {l : Launch} {e : Env} {R : Room} {s : State} {m : MethodId} {args : Array Value} {below : List Frame} {meth : Method} {c : Code} {H : Heap} {locs : List Loc} {cells slots : Nat} {Q : State → Prop}
variable {cc : ByteArray} {pc nL : Nat} {ls : Array Slot} {rest : List Value} {D : va_G} {cy : Nat → ClassId} {A : Nat → Prop} {own : String} {ws : va_W}
theorem z_obj (F : CallFix p m c cc nL s args wT own) (hsz : ls.size = nL) {a idx : Nat} (hlk : Cond.methodLink own idx objectInit ∈ wT) (hdg : decode cc pc = .ok (.invokespecial idx, 3)) (hf : 1 ≤ R.frames) (hlo : 12 ≤ R.locals)
    (kk : W p l e R s m args below meth c H locs cells slots Q (F0 m (pc + 3) ls [])) : W p l e R s m args below meth c H locs cells slots Q (F0 m pc ls [.ref a]) := by
  refine W.objInit F.1 F.2.1 F.2.2.2.1 (F.2.2.2.2 _ hlk) (F.2.2.2.2 _ wt_i_obj) (F.2.2.2.2 _ wt_c_obj) rfl (by rw [F.2.2.1]; exact hsz) rfl hdg hf (by simpa [F0] using hlo) ?_
  refine W.eq (g2 := F0 m (pc + 3) ls []) rfl ?_
  exact kk
theorem z_int (F : CallFix p m c cc nL s args wT own) (hE : EC D cy s) (hA : ∀ q, s.heap.size ≤ q → A q) (hB : Bw D A ws s.heap H locs) {n : Int32} (N : Nat) (hn : ¬ n < 0) (hN : n.toNatClampNeg = N) (hby : N * componentBytes .int ≤ 536870912) (hc : cells + 1 ≤ R.cells) (hs : slots + N ≤ R.slots) (hdg : decode cc pc = .ok (.newarray .int, 2))
    (kk : ∀ (q : Nat) (H1 : Heap), Bw D A (ws ++ [(q, rI cy N)]) s.heap H1 locs → W p l e R s m args below meth c H1 locs (cells + 1) (slots + N) Q (F0 m (pc + 2) ls (.ref q :: rest))) : W p l e R s m args below meth c H locs cells slots Q (F0 m pc ls (.int n :: rest)) :=
  va_newa F.1 F.2.1 (atype := .int) (F.2.2.2.2 _ wt_a_int) rfl hE.1 hB.1 hB.2.1 hB.2.2 hA (a0 := (N, .inl fun _ => 0)) (fun _ => rfl) hn hN hby hc hs hdg (fun q cA H1 hK h1 h2 h3 => by
    have e1 : s.vm.findClass ("[" ++ FieldType.int.toString) = some cA := (hK.2 5 (cA, .int) rfl).2
    have e2 : s.vm.findClass ("[" ++ FieldType.int.toString) = some (cy 0) := (hE.1.2 0 (cy 0, .int) rfl).2
    have e3 : cA = cy 0 := Option.some.inj (e1.symm.trans e2)
    subst e3
    exact kk q H1 ⟨h1, h2, h3⟩)
theorem z_long (F : CallFix p m c cc nL s args wT own) (hE : EC D cy s) (hA : ∀ q, s.heap.size ≤ q → A q) (hB : Bw D A ws s.heap H locs) {n : Int32} (N : Nat) (hn : ¬ n < 0) (hN : n.toNatClampNeg = N) (hby : N * componentBytes .long ≤ 536870912) (hc : cells + 1 ≤ R.cells) (hs : slots + N ≤ R.slots) (hdg : decode cc pc = .ok (.newarray .long, 2))
    (kk : ∀ (q : Nat) (H1 : Heap), Bw D A (ws ++ [(q, .inl (cy 1, N, .inr (.inl (fun _ => 0))))]) s.heap H1 locs → W p l e R s m args below meth c H1 locs (cells + 1) (slots + N) Q (F0 m (pc + 2) ls (.ref q :: rest))) : W p l e R s m args below meth c H locs cells slots Q (F0 m pc ls (.int n :: rest)) :=
  va_newa F.1 F.2.1 (atype := .long) (F.2.2.2.2 _ wt_a_long) rfl hE.1 hB.1 hB.2.1 hB.2.2 hA (a0 := (N, .inr (.inl fun _ => 0))) (fun _ => rfl) hn hN hby hc hs hdg (fun q cA H1 hK h1 h2 h3 => by
    have e1 : s.vm.findClass ("[" ++ FieldType.long.toString) = some cA := (hK.2 5 (cA, .long) rfl).2
    have e2 : s.vm.findClass ("[" ++ FieldType.long.toString) = some (cy 1) := (hE.1.2 1 (cy 1, .long) rfl).2
    have e3 : cA = cy 1 := Option.some.inj (e1.symm.trans e2)
    subst e3
    exact kk q H1 ⟨h1, h2, h3⟩)
theorem z_refs (F : CallFix p m c cc nL s args wT own) (hE : EC D cy s) (hA : ∀ q, s.heap.size ≤ q → A q) (hB : Bw D A ws s.heap H locs) {C : String} {t0 index : Nat} (ht : (tyL cy)[t0]? = some (cy t0, .object C)) (hao : va_AO C s) (hlk : Cond.classLink own index C ∈ wT) {n : Int32} (N : Nat) (hn : ¬ n < 0) (hN : n.toNatClampNeg = N) (hby : N * 4 ≤ 536870912) (hc : cells + 1 ≤ R.cells) (hs : slots + N ≤ R.slots) (hdg : decode cc pc = .ok (.anewarray index, 3))
    (kk : ∀ (q : Nat) (H1 : Heap), Bw D A (ws ++ [(q, .inl (cy t0, N, .inr (.inr (.inr (.inr (fun _ => none))))))]) s.heap H1 locs → W p l e R s m args below meth c H1 locs (cells + 1) (slots + N) Q (F0 m (pc + 3) ls (.ref q :: rest))) : W p l e R s m args below meth c H locs cells slots Q (F0 m pc ls (.int n :: rest)) :=
  va_newq F.1 F.2.1 F.2.2.2.1 (F.2.2.2.2 _ hlk) hao hE.1 hB.1 hB.2.1 hB.2.2 hA hn hN hby hc hs hdg (fun q cA H1 hK h1 h2 h3 => by
    obtain ⟨_, _, -, -, -, e1⟩ := (hK.2 5 (cA, .object C) rfl).2
    obtain ⟨_, _, -, -, -, e2⟩ := (hE.1.2 t0 (cy t0, .object C) ht).2
    have e3 : cA = cy t0 := Option.some.inj (e1.symm.trans e2)
    subst e3
    exact kk q H1 ⟨h1, h2, h3⟩)
theorem z_grid (F : CallFix p m c cc nL s args wT own) (hE : EC D cy s) (hA : ∀ q, s.heap.size ≤ q → A q) (hB : Bw D A ws s.heap H locs) {index : Nat} (hlk : Cond.classLink own index ("[" ++ (FieldType.array .int).toString) ∈ wT) (hc : cells + (1 + 8) ≤ R.cells) (hs : slots + (8 + 8 * 6) ≤ R.slots) (hdg : decode cc pc = .ok (.multianewarray index 2, 4))
    (kk : ∀ (q : Nat) (r : Nat → Nat) (H1 : Heap), Bw D A (ws ++ [(q, .inl (cy 4, 8, .inr (.inr (.inr (.inr (fun i => some (r i))))))), (r 0, rI cy 6), (r 1, rI cy 6), (r 2, rI cy 6), (r 3, rI cy 6), (r 4, rI cy 6), (r 5, rI cy 6), (r 6, rI cy 6), (r 7, rI cy 6)]) s.heap H1 locs → W p l e R s m args below meth c H1 locs (cells + 9) (slots + 56) Q (F0 m (pc + 4) ls (.ref q :: rest))) : W p l e R s m args below meth c H locs cells slots Q (F0 m pc ls (.int 6 :: .int 8 :: rest)) :=
  mu_grid F.1 F.2.1 F.2.2.2.1 (F.2.2.2.2 _ hlk) hE.2.2.2.2 (F.2.2.2.2 _ wt_a_int) (hE.1.2 0 (cy 0, .int) rfl).2 (hE.1.2 4 (cy 4, .array .int) rfl).2 hB.1 hB.2.1 hB.2.2 hA (N' := 8) (K' := 6) (z := (6, .inl fun _ => 0)) (by decide) (by decide) rfl rfl (by decide) (by decide) (by decide) hc hs (fun c => arrV_new c 6 _) hdg (fun q r H1 h1 h2 h3 => kk q r H1 ⟨h1, h2, h3⟩)
theorem z_put (F : CallFix p m c cc nL s args wT own) (hE : EC D cy s) {a ci : Nat} {fs : List Value} {tl : va_W} (hB : Bw D A ((a, .inr (ci, fs)) :: tl) s.heap H locs) {T : u_T} {N index : Nat} (hc : vwCl[ci]? = some (own, T, N)) (hin : ∀ w ∈ u_ws own T N, w ∈ wG) (ty0 : Nat → FieldType) (hty : ∀ k, k < N → parseFieldDescriptor (T k).2.2.1 = some (ty0 k)) (hnm : ∀ a, a < N → ∀ b, b < N → a ≠ b → (T a).2.1 ≠ (T b).2.1) (k : Nat) (hk : k < N) (hlk : Cond.fieldLink own index (T k).1 (T k).2.1 (T k).2.2.1 ∈ wG) (hfin : (T k).2.2.2 = false) {ty : FieldType} {v : Value} (hd : parseFieldDescriptor (T k).2.2.1 = some ty) (hn : narrow ty v = v) (hfit : fits ty v = true) (hl : k < fs.length) (hdg : decode cc pc = .ok (.putfield index, 3))
    (kk : ∀ (H1 : Heap) (locs1 : List Loc), Bw D A ((a, .inr (ci, fs.set k v)) :: tl) s.heap H1 locs1 → W p l e R s m args below meth c H1 locs1 cells slots Q (F0 m (pc + 3) ls rest)) : W p l e R s m args below meth c H locs cells slots Q (F0 m pc ls (v :: .ref a :: rest)) :=
  va_put F.1 F.2.1 F.2.2.2.2 (fun w h => wt_G (hin w h)) ty0 hty hnm F.2.2.2.1 hE.1 hB.1 hB.2.1 hB.2.2 0 rfl hc k hk (F.2.2.2.2 _ (wt_G hlk)) (fun _ h => h) hfin hd hn hfit hl hdg (fun H1 locs1 h1 h2 h3 => kk H1 locs1 ⟨h1, h2, h3⟩)
theorem z_putF (F : CallFix p m c cc nL s args wT own) (hE : EC D cy s) (hin2 : meth.name = "<init>") {a ci : Nat} {fs : List Value} {tl : va_W} (hB : Bw D A ((a, .inr (ci, fs)) :: tl) s.heap H locs) {T : u_T} {N index : Nat} (hc : vwCl[ci]? = some (own, T, N)) (hin : ∀ w ∈ u_ws own T N, w ∈ wG) (ty0 : Nat → FieldType) (hty : ∀ k, k < N → parseFieldDescriptor (T k).2.2.1 = some (ty0 k)) (hnm : ∀ a, a < N → ∀ b, b < N → a ≠ b → (T a).2.1 ≠ (T b).2.1) (k : Nat) (hk : k < N) (hlk : Cond.fieldLink own index (T k).1 (T k).2.1 (T k).2.2.1 ∈ wG) (hfin : (T k).2.2.2 = true) (hdecl : (T k).1 = own) {ty : FieldType} {v : Value} (hd : parseFieldDescriptor (T k).2.2.1 = some ty) (hn : narrow ty v = v) (hfit : fits ty v = true) (hl : k < fs.length) (hdg : decode cc pc = .ok (.putfield index, 3))
    (kk : ∀ (H1 : Heap) (locs1 : List Loc), Bw D A ((a, .inr (ci, fs.set k v)) :: tl) s.heap H1 locs1 → W p l e R s m args below meth c H1 locs1 cells slots Q (F0 m (pc + 3) ls rest)) : W p l e R s m args below meth c H locs cells slots Q (F0 m pc ls (v :: .ref a :: rest)) :=
  va_putF F.1 F.2.1 F.2.2.2.2 (fun w h => wt_G (hin w h)) ty0 hty hnm F.2.2.2.1 hE.1 hB.1 hB.2.1 hB.2.2 0 rfl hc k hk (F.2.2.2.2 _ (wt_G hlk)) (fun _ h => h) hfin hin2 hdecl hd hn hfit hl hdg (fun H1 locs1 h1 h2 h3 => kk H1 locs1 ⟨h1, h2, h3⟩)
theorem z_get (F : CallFix p m c cc nL s args wT own) (hE : EC D cy s) {a ci : Nat} {fs : List Value} {tl : va_W} (hB : Bw D A ((a, .inr (ci, fs)) :: tl) s.heap H locs) {T : u_T} {N index : Nat} (hc : vwCl[ci]? = some (own, T, N)) (hin : ∀ w ∈ u_ws own T N, w ∈ wG) (k : Nat) (hk : k < N) {v : Value} (hlk : Cond.fieldLink own index (T k).1 (T k).2.1 (T k).2.2.1 ∈ wG) (hv : fs[k]? = some v) (hdg : decode cc pc = .ok (.getfield index, 3))
    (kk : W p l e R s m args below meth c H locs cells slots Q (F0 m (pc + 3) ls (v :: rest))) : W p l e R s m args below meth c H locs cells slots Q (F0 m pc ls (.ref a :: rest)) :=
  va_get F.1 F.2.1 F.2.2.2.2 (fun w h => wt_G (hin w h)) F.2.2.2.1 hE.1 hB.1 0 rfl hc k hk (F.2.2.2.2 _ (wt_G hlk)) (fun _ h => h) hv hdg kk
theorem z_new (F : CallFix p m c cc nL s args wT own) (hE : EC D cy s) (hA : ∀ q, s.heap.size ≤ q → A q) (hB : Bw D A ws s.heap H locs) {C : String} {T : u_T} {N ci index : Nat} (hc : vwCl[ci]? = some (C, T, N)) (hin : ∀ w ∈ u_ws C T N, w ∈ wG) (ty0 : Nat → FieldType) (hty : ∀ k, k < N → parseFieldDescriptor (T k).2.2.1 = some (ty0 k)) (hlk : Cond.classLink own index C ∈ wT) (hins : Cond.instantiable C N ∈ wT) (hini : Cond.initialized C ∈ wG) {fs : List Value} (hfs : ∀ j, j < N → defaultValue (ty0 j) = vp_V fs j) (hce : cells + 1 ≤ R.cells) (hsl : slots + N ≤ R.slots) (hdg : decode cc pc = .ok (.new index, 3))
    (kk : ∀ (q : Nat) (H1 : Heap), Bw D A (ws ++ [(q, .inr (ci, fs))]) s.heap H1 locs → W p l e R s m args below meth c H1 locs (cells + 1) (slots + N) Q (F0 m (pc + 3) ls (.ref q :: rest))) : W p l e R s m args below meth c H locs cells slots Q (F0 m pc ls rest) :=
  va_new F.1 F.2.1 F.2.2.2.2 (fun w h => wt_G (hin w h)) ty0 hty F.2.2.2.1 (F.2.2.2.2 _ hlk) (F.2.2.2.2 _ hins) (F.2.2.2.2 _ (wt_G hini)) hE.1 hB.1 hB.2.1 hB.2.2 hA hc hfs hce hsl hdg (fun q H1 h1 h2 h3 => kk q H1 ⟨h1, h2, h3⟩)
theorem z_cv {S : Type} {a mc ms : Nat} {e0 : va_E} {st : List Value} {av : Array Value} {ro : S → Nat} {wf : S → va_W} (hA : ∀ q, s.heap.size ≤ q → A q) (hB : Bw D A (ws ++ [(a, e0)]) s.heap H locs) (hg : va_Run p l e R s m args below meth c H locs cells slots mc ms (F0 m pc ls st) rest (QI D a e0 H.size ro wf av) (va_A [(a, e0)] H.size))
    (kk : ∀ (u : S) (H1 : Heap) (locs1 : List Loc), ro u = a → Bw D A (ws ++ wf u) s.heap H1 locs1 → W p l e R s m args below meth c H1 locs1 (cells + mc) (slots + ms) Q (F0 m (pc + 3) ls rest)) : W p l e R s m args below meth c H locs cells slots Q (F0 m pc ls st) := by
  have hF : ∀ q, va_A [(a, e0)] H.size q → A q := by
    intro q h
    rcases h with ⟨k, e9, h⟩ | h
    · have h1 : q = a := congrArg Prod.fst (one_get h).2
      rw [h1]
      exact hB.2.1.2 ws.length (a, e0) last_get
    · exact hA q (Nat.le_trans hB.2.2.1 h)
  refine va_callv hg hB.2.2 (fun q _ h => hF q h) hF (fun u t H1 locs1 ht _ hp hq _ hk hS => ?_)
  obtain ⟨h1, h2⟩ := z_join hB.1 hB.2.1 hF hk (by rw [← ht]; exact hq.1) hq.2
  exact kk u H1 locs1 hp ⟨h1, h2, hS⟩
theorem z_init {S : Type} {a mc ms maxL index : Nat} {e0 : va_E} {y : MethodName} {b : ByteArray} {rm : Room} {ro : S → Nat} {wf : S → va_W} (F : CallFix p m c cc nL s args wT own) (hE : EC D cy s) (hA : ∀ q, s.heap.size ≤ q → A q) (hB : Bw D A (ws ++ [(a, e0)]) s.heap H locs) (hM : Met l y (Cond.code y b maxL none :: wT) rm (CI D cy a e0 H.size []) (QI D a e0 H.size ro wf) mc ms (va_A [(a, e0)] H.size))
    (hq : (own, index, y, "BowingBridges") ∈ nM) (hco : Cond.code y b maxL none ∈ wT) (hiy : Cond.instanceMethod y ∈ wT) (hini : Cond.initialized y.cls ∈ wG) (hy : y.name = "<init>") (hd : y.cls ≠ "java/lang/invoke/MethodHandle" ∧ y.cls ≠ "java/lang/invoke/VarHandle" ∧ (parseMethodDescriptor y.desc).map (fun d => d.parameters.length) = some 0) (hrc : rm.cells = mc) (hrs : rm.slots = ms) (hR : rm.frames + 1 ≤ R.frames ∧ 8 + (maxL + 11) + rm.locals ≤ R.locals)
    (hsize : ls.size = nL) (hW : (rest.map fun v => v.category).sum ≤ 8) (hdg : decode cc pc = .ok (.invokespecial index, 3)) (hf : cells + mc ≤ R.cells ∧ slots + ms ≤ R.slots)
    (kk : ∀ (u : S) (H1 : Heap) (locs1 : List Loc), ro u = a → Bw D A (ws ++ wf u) s.heap H1 locs1 → W p l e R s m args below meth c H1 locs1 (cells + mc) (slots + ms) Q (F0 m (pc + 3) ls rest)) : W p l e R s m args below meth c H locs cells slots Q (F0 m pc ls (.ref a :: rest)) :=
  z_cv hA hB (va_runIN (As := []) (rest := rest) F hM ⟨va_cnB 0 F.2.2.2.2 (gt_cons hco) rfl hrc hrs (hE.2.1 _ hq) (F.2.2.2.2 _ (wt_G hini)) hd hR, hy, F.2.2.2.2 _ hiy⟩ ⟨CI.blind, CI.at hE hB⟩ rfl rfl hsize rfl (lv_room hW) hdg hf) kk
theorem z_initL {S : Type} {a mc ms maxL index : Nat} {e0 : va_E} {y : MethodName} {b : ByteArray} {rm : Room} {ro : S → Nat} {wf : S → va_W} {As : List Value} {st : List Value} (n : Nat) (F : CallFix p m c cc nL s args wT own) (hE : EC D cy s) (hA : ∀ q, s.heap.size ≤ q → A q) (hB : Bw D A (ws ++ [(a, e0)]) s.heap H locs) (hM : Met l y (Cond.code y b maxL none :: wT) rm (CI D cy a e0 H.size As) (QI D a e0 H.size ro wf) mc ms (va_A [(a, e0)] H.size))
    (hlk : Cond.methodLink own index y ∈ wT) (hco : Cond.code y b maxL none ∈ wT) (hiy : Cond.instanceMethod y ∈ wT) (hini : Cond.initialized y.cls ∈ wG) (hy : y.name = "<init>") (hd : y.cls ≠ "java/lang/invoke/MethodHandle" ∧ y.cls ≠ "java/lang/invoke/VarHandle" ∧ (parseMethodDescriptor y.desc).map (fun d => d.parameters.length) = some n) (hrc : rm.cells = mc) (hrs : rm.slots = ms) (hR : rm.frames + 1 ≤ R.frames ∧ 8 + (maxL + 11) + rm.locals ≤ R.locals) (hst : st = As.reverse ++ .ref a :: rest) (hn : As.length = n)
    (hsize : ls.size = nL) (hW : (rest.map fun v => v.category).sum ≤ 8) (hdg : decode cc pc = .ok (.invokespecial index, 3)) (hf : cells + mc ≤ R.cells ∧ slots + ms ≤ R.slots)
    (kk : ∀ (u : S) (H1 : Heap) (locs1 : List Loc), ro u = a → Bw D A (ws ++ wf u) s.heap H1 locs1 → W p l e R s m args below meth c H1 locs1 (cells + mc) (slots + ms) Q (F0 m (pc + 3) ls rest)) : W p l e R s m args below meth c H locs cells slots Q (F0 m pc ls st) :=
  z_cv hA hB (va_runI (As := As) (rest := rest) F hM (cwI n F.2.2.2.2 (gt_cons hco) rfl hrc hrs (F.2.2.2.2 _ (wt_G hini)) (F.2.2.2.2 _ hlk) (F.2.2.2.2 _ hiy) hy hd hR) ⟨CI.blind, CI.at hE hB⟩ rfl hn hsize hst (lv_room hW) hdg hf) kk
theorem z_ast (F : CallFix p m c cc nL s args wT own) (hE : EC D cy s) (hB : Bw D A ws s.heap H locs) (q0 t0 qk ci : Nat) {r : vw_C} {n v a : Nat} {vs : List Value} {f : Nat → Option Nat} (ha : ws[q0]? = some (a, .inl (cy t0, n, .inr (.inr (.inr (.inr f)))))) (ht : (tyL cy)[t0]? = some (cy t0, .object r.1)) (hv : ws[qk]? = some (v, .inr (ci, vs))) (hc : vwCl[ci]? = some r) {i : Int32} (hin : vp_in i n) (hdg : decode cc pc = .ok (.aastore, 1))
    (kk : ∀ (H1 : Heap) (locs1 : List Loc), Bw D A (ws.set q0 (a, .inl (cy t0, n, .inr (.inr (.inr (.inr (va_up f i.toNatClampNeg (some v)))))))) s.heap H1 locs1 → W p l e R s m args below meth c H1 locs1 cells slots Q (F0 m (pc + 1) ls rest)) : W p l e R s m args below meth c H locs cells slots Q (F0 m pc ls (.ref v :: .int i :: .ref a :: rest)) :=
  va_astq F.1 F.2.1 hE.1 hB.1 hB.2.1 hB.2.2 q0 t0 qk ci ha ht hv hc hin hdg (fun H1 locs1 h1 h2 h3 => kk H1 locs1 ⟨h1, h2, h3⟩)
theorem z_iast (F : CallFix p m c cc nL s args wT own) (hE : EC D cy s) (hB : Bw D A ws s.heap H locs) (q0 : Nat) {n a : Nat} {f : Nat → Int32} (ha : ws[q0]? = some (a, .inl (cy 0, n, .inl f))) {i x : Int32} (hin : vp_in i n) (hdg : decode cc pc = .ok (.iastore, 1))
    (kk : ∀ (H1 : Heap) (locs1 : List Loc), Bw D A (ws.set q0 (a, .inl (cy 0, n, .inl (upd f i.toNatClampNeg x)))) s.heap H1 locs1 → W p l e R s m args below meth c H1 locs1 cells slots Q (F0 m (pc + 1) ls rest)) : W p l e R s m args below meth c H locs cells slots Q (F0 m pc ls (.int x :: .int i :: .ref a :: rest)) :=
  va_iast F.1 F.2.1 hE.1 hB.1 hB.2.1 hB.2.2 q0 0 ha rfl hin hdg (fun H1 locs1 h1 h2 h3 => kk H1 locs1 ⟨h1, h2, h3⟩)
theorem z_ret {S : Type} {a : Nat} {e0 : va_E} {ro : S → Nat} {wf : S → va_W} (F : CallFix p m c cc nL s args wT own) (hlocks : meth.locks = false) (hr : meth.sig.returnType = none) (u : S) (hu : ro u = a) (hB : Bw D (va_A [(a, e0)] s.heap.size) (wf u) s.heap H locs) (hdg : decode cc pc = .ok (.return_, 1)) : W p l e R s m args below meth c H locs cells slots (MQ below (QI D a e0 s.heap.size ro wf) args s cells slots (va_A [(a, e0)] s.heap.size)) (F0 m pc ls []) :=
  W.vret F.1 F.2.1 hr (fun t ht _ => ⟨⟨u, rfl, hu, by rw [ht]; exact hB.1, hB.2.1⟩, hB.2.2.F ht⟩) hB.2.2.2.2 hdg
end ZR
