/-! 01aa: rows of rows, made at once (multianewarray) -/
theorem ar_congr {c : ClassId} {N : Nat} {f g : Nat → Value} (h : ∀ j, j < N → f j = g j) : arrV c N f = arrV c N g := by
  unfold arrV
  have : (fun j : Fin N => f j.val) = (fun j : Fin N => g j.val) := funext fun j => h j.val j.isLt
  rw [this]
/-- a cell x behind a state's own, and j cells y behind that -/
def mg_st (T : State) (x y : Cell) : Nat → State
  | 0 => T.pushCell x
  | j + 1 => (mg_st T x y j).pushCell y
theorem mg_size (T : State) (x y : Cell) : ∀ j : Nat, (mg_st T x y j).heap.size = T.heap.size + 1 + j
  | 0 => by
    show (T.heap.push x).size = _
    rw [Array.size_push]
  | j + 1 => by
    show ((mg_st T x y j).heap.push y).size = _
    rw [Array.size_push, mg_size T x y j]
    omega
theorem mg_used (T : State) (x y : Cell) : ∀ j : Nat, (mg_st T x y j).slotsUsed = T.slotsUsed + x.slots.size + j * y.slots.size
  | 0 => by
    show T.slotsUsed + x.slots.size = _
    omega
  | j + 1 => by
    show (mg_st T x y j).slotsUsed + y.slots.size = _
    rw [mg_used T x y j, Nat.succ_mul]
    omega
theorem mg_old (T : State) (x y : Cell) {a : Nat} (h : a < T.heap.size) : ∀ j : Nat, (mg_st T x y j).heap[a]? = T.heap[a]?
  | 0 => by
    show (T.heap.push x)[a]? = _
    rw [Array.getElem?_push, if_neg (by omega)]
  | j + 1 => by
    show ((mg_st T x y j).heap.push y)[a]? = _
    have := mg_size T x y j
    rw [Array.getElem?_push, if_neg (by omega)]
    exact mg_old T x y h j
theorem mg_head (T : State) (x y : Cell) : ∀ j : Nat, (mg_st T x y j).heap[T.heap.size]? = some x
  | 0 => by
    show (T.heap.push x)[T.heap.size]? = _
    rw [Array.getElem?_push, if_pos rfl]
  | j + 1 => by
    show ((mg_st T x y j).heap.push y)[T.heap.size]? = _
    have := mg_size T x y j
    rw [Array.getElem?_push, if_neg (by omega)]
    exact mg_head T x y j
theorem mg_row (T : State) (x y : Cell) (i : Nat) : ∀ j : Nat, i < j → (mg_st T x y j).heap[T.heap.size + 1 + i]? = some y
  | 0, h => absurd h (Nat.not_lt_zero i)
  | j + 1, h => by
    show ((mg_st T x y j).heap.push y)[T.heap.size + 1 + i]? = _
    have hz := mg_size T x y j
    by_cases e : i = j
    · rw [Array.getElem?_push, if_pos (by omega)]
    · rw [Array.getElem?_push, if_neg (by omega)]
      exact mg_row T x y i j (by omega)
theorem mg_set (T : State) (x y x' : Cell) (hx : x'.slots.size = x.slots.size) : ∀ j : Nat, (mg_st T x y j).setCell T.heap.size x' = mg_st T x' y j
  | 0 => State.setCell_pushCell _ _ _ hx
  | j + 1 => by
    have hz := mg_size T x y j
    have e : ((mg_st T x y j).heap.push y).setIfInBounds T.heap.size x' = ((mg_st T x y j).heap.setIfInBounds T.heap.size x').push y := by
      apply Array.ext_getElem?
      intro i
      rw [Array.getElem?_setIfInBounds, Array.getElem?_push, Array.getElem?_push, Array.getElem?_setIfInBounds, Array.size_push, Array.size_setIfInBounds]
      by_cases h1 : T.heap.size = i
      · rw [if_pos h1, if_pos h1, if_pos (by omega), if_neg (by omega), if_pos (by omega)]
      · rw [if_neg h1, if_neg h1]
    show ({ (mg_st T x y j) with heap := ((mg_st T x y j).heap.push y).setIfInBounds T.heap.size x', slotsUsed := (mg_st T x y j).slotsUsed + y.slots.size } : State) = (mg_st T x' y j).pushCell y
    rw [← mg_set T x y x' hx j, e]
    rfl
theorem mg_top (T : State) (x y : Cell) (g : JFrame) : ∀ j : Nat, mg_st (T.setTop g) x y j = (mg_st T x y j).setTop g
  | 0 => rfl
  | j + 1 => by
    show (mg_st (T.setTop g) x y j).pushCell y = _
    rw [mg_top T x y g j]
    rfl
theorem mg_vm (T : State) (x y : Cell) : ∀ j : Nat, (mg_st T x y j).vm = T.vm
  | 0 => rfl
  | j + 1 => mg_vm T x y j
theorem mg_fits (T : State) (x y : Cell) : ∀ j : Nat, (mg_st T x y j).fitsSlot = T.fitsSlot
  | 0 => rfl
  | j + 1 => mg_fits T x y j
theorem mg_java (T : State) (x y : Cell) : ∀ j : Nat, (mg_st T x y j).topJava? = T.topJava?
  | 0 => rfl
  | j + 1 => mg_java T x y j
theorem mg_stand {p : Program} {l : Launch} {e : Env} {R : Room} {s : State} {m : MethodId} {args : Array Value} {below : List Frame} {meth : Method} {c : Code} {T : State} {locs : List Loc} {cells slots : Nat} (X : Stand p l e R s m args below meth c T locs cells slots) (x y : Cell) : ∀ j : Nat, Stand p l e R s m args below meth c (mg_st T x y j) locs (cells + 1 + j) (slots + x.slots.size + j * y.slots.size)
  | 0 => by
    rw [Nat.zero_mul]
    exact X.pushed x
  | j + 1 => by
    have h := (mg_stand X x y j).pushed y
    rw [Nat.succ_mul, ← Nat.add_assoc, ← Nat.add_assoc]
    exact h
section MGW
variable {E : CtlPost} {e : Env} {d : Bool} {acts : List Action} {S : State}
theorem mg_new {Q : Addr → Pre} {cA comp : ClassId} {k : Class} {ty : FieldType} {v : Value} {n : Nat} (hk : S.vm.classes[cA]? = some k) (hkind : k.kind = .array comp ty) (hf : fits ty v = true) (hd : v.isDefault = true) (h1 : n ≤ e.platform.arrayLengthLimit) (h2 : n * componentBytes ty ≤ e.platform.maxHeapBytes) (h3 : S.heap.size < e.platform.maxCells) (h4 : S.slotsUsed + n ≤ e.platform.maxSlots)
    (hQ : Q S.heap.size d acts (S.pushCell { cls := cA, slots := Array.replicate n v, vm := .none })) : wp (Jvm.newArray cA n v) Q E e d acts S := by
  have hfit : ∀ i u, (Array.replicate n v)[i]? = some u → S.fitsSlot cA .none i u = true := by
    intro i u hu
    rw [Array.getElem?_replicate] at hu
    split at hu
    · cases hu
      simp [State.fitsSlot, State.slotType?, hk, hkind, hf]
    · cases hu
  have hdef : allocActs (Array.replicate n v) S.heap.size acts = acts := by
    unfold allocActs
    rw [if_pos (by rw [Array.all_replicate]; split <;> simp [hd])]
  simp only [Jvm.newArray, Jvm.arrayFits, wp_bind', W.ask, W.ite, W.theClass, W.mark, W.stop, W.alloc, wp_pure']
  rw [if_neg (by omega)]
  refine ⟨k, hk, ?_⟩
  rw [hkind]
  simp only [wp_bind', W.ask, W.ite, W.mark, W.stop, wp_pure']
  rw [if_neg (by omega), if_neg (by omega)]
  exact ⟨h3, by rw [Array.size_replicate]; exact h4, hfit, by rw [hdef]; exact hQ⟩
theorem mg_one {Q : Addr → Pre} {cI comp : ClassId} {kI : Class} {k : Int32} (hkI : S.vm.classes[cI]? = some kI) (hkind : kI.kind = .array comp .int) (hk : ¬ k < 0) (h1 : k.toNatClampNeg ≤ e.platform.arrayLengthLimit) (h2 : k.toNatClampNeg * componentBytes .int ≤ e.platform.maxHeapBytes) (h3 : S.heap.size < e.platform.maxCells) (h4 : S.slotsUsed + k.toNatClampNeg ≤ e.platform.maxSlots)
    (hQ : Q S.heap.size d acts (S.pushCell { cls := cI, slots := Array.replicate k.toNatClampNeg (defaultValue .int), vm := .none })) : wp (multianewarray.make cI [k]) Q E e d acts S := by
  rw [multianewarray.make]
  simp only [wp_bind', W.ite, W.theClass, wp_pure']
  rw [if_neg hk]
  refine ⟨kI, hkI, ?_⟩
  rw [hkind]
  exact mg_new hkI hkind rfl rfl h1 h2 h3 h4 hQ
/-- the row of rows when i of them stand -/
def mg_out (cG : ClassId) (N h0 i : Nat) : Cell := arrV cG N (fun q => va_rf (if q < i then some (h0 + 1 + q) else none))
theorem mg_out_z (cG : ClassId) (N h0 : Nat) : ({ cls := cG, slots := Array.replicate N .null, vm := .none } : Cell) = mg_out cG N h0 0 := by
  rw [arrV_new]
  exact ar_congr fun q _ => by rw [if_neg (Nat.not_lt_zero q)]; rfl
theorem mg_out_s (cG : ClassId) (N h0 i : Nat) : (mg_out cG N h0 i).setSlot i (.ref (h0 + 1 + i)) = mg_out cG N h0 (i + 1) := by
  unfold mg_out
  rw [arrV_store]
  refine ar_congr fun q _ => ?_
  unfold updV
  by_cases e : q = i
  · rw [if_pos e, if_pos (by omega), e]
    rfl
  · rw [if_neg e]
    show va_rf (if q < i then some (h0 + 1 + q) else none) = _
    by_cases h : q < i
    · rw [if_pos h, if_pos (by omega)]
    · rw [if_neg h, if_neg (by omega)]
theorem mg_out_n (cG : ClassId) (N h0 i : Nat) : (mg_out cG N h0 i).slots.size = N := arrV_size _ _ _
theorem mg_loop {T : State} {cG cI comp : ClassId} {kG kI : Class} {k : Int32} {N : Nat} {f : Nat → PUnit → Sem (ForInStep PUnit)} (hfm : ∀ i u, f i u = (do let x ← multianewarray.make cI [k]; Jvm.writeLoc T.heap.size i (.ref x); Pure.pure (ForInStep.yield PUnit.unit)))
    (hkG : T.vm.classes[cG]? = some kG) (hkindG : kG.kind = .array cI (.array .int)) (hkI : T.vm.classes[cI]? = some kI) (hkind : kI.kind = .array comp .int) (hk : ¬ k < 0) (h1 : k.toNatClampNeg ≤ e.platform.arrayLengthLimit) (h2 : k.toNatClampNeg * componentBytes .int ≤ e.platform.maxHeapBytes) (h3 : T.heap.size + (1 + N) ≤ e.platform.maxCells) (h4 : T.slotsUsed + (N + N * k.toNatClampNeg) ≤ e.platform.maxSlots)
    {Q : PUnit → Pre} (hQ : ∀ acts', Q PUnit.unit true acts' (mg_st T (mg_out cG N T.heap.size N) { cls := cI, slots := Array.replicate k.toNatClampNeg (defaultValue .int), vm := .none } N)) :
    ∀ (j i : Nat) (acts : List Action), i + j = N → wp (forIn (List.range' i j) PUnit.unit f) Q E e true acts (mg_st T (mg_out cG N T.heap.size i) { cls := cI, slots := Array.replicate k.toNatClampNeg (defaultValue .int), vm := .none } i)
  | 0, i, acts, hij => by
    cases hij
    simp only [List.range'_zero, List.forIn_nil, wp_pure']
    exact hQ acts
  | j + 1, i, acts, hij => by
    simp only [List.range'_succ, List.forIn_cons, hfm, wp_bind', wp_pure']
    have hz := mg_size T (mg_out cG N T.heap.size i) { cls := cI, slots := Array.replicate k.toNatClampNeg (defaultValue .int), vm := .none } i
    have hu := mg_used T (mg_out cG N T.heap.size i) { cls := cI, slots := Array.replicate k.toNatClampNeg (defaultValue .int), vm := .none } i
    have hm : (i + 1) * k.toNatClampNeg ≤ N * k.toNatClampNeg := Nat.mul_le_mul_right _ (by omega)
    rw [Nat.succ_mul] at hm
    rw [mg_out_n, Array.size_replicate] at hu
    refine mg_one (comp := comp) (kI := kI) (by rw [mg_vm]; exact hkI) hkind hk h1 h2 (by omega) (by omega) ?_
    rw [wp_bind', W.writeLoc]
    refine ⟨mg_out cG N T.heap.size i, mg_head T _ _ (i + 1), (by intro h; cases h), (by rw [mg_out_n]; omega), ?_, ?_⟩
    · show (mg_st T _ _ (i + 1)).fitsSlot cG .none i _ = true
      rw [mg_fits]
      simp [State.fitsSlot, State.slotType?, hkG, hkindG, fits]
    · rw [hz, mg_out_s]
      have e := mg_set T (mg_out cG N T.heap.size i) { cls := cI, slots := Array.replicate k.toNatClampNeg (defaultValue .int), vm := .none } (mg_out cG N T.heap.size (i + 1)) (by rw [mg_out_n, mg_out_n]) (i + 1)
      rw [show (mg_st T (mg_out cG N T.heap.size i) { cls := cI, slots := Array.replicate k.toNatClampNeg (defaultValue .int), vm := .none } i).pushCell { cls := cI, slots := Array.replicate k.toNatClampNeg (defaultValue .int), vm := .none } = mg_st T (mg_out cG N T.heap.size i) { cls := cI, slots := Array.replicate k.toNatClampNeg (defaultValue .int), vm := .none } (i + 1) from rfl, e]
      exact mg_loop hfm hkG hkindG hkI hkind hk h1 h2 h3 h4 hQ j (i + 1) _ (by omega)
theorem mg_two {T : State} {cG cI comp : ClassId} {kG kI : Class} {n k : Int32} (hkG : T.vm.classes[cG]? = some kG) (hkindG : kG.kind = .array cI (.array .int)) (hkI : T.vm.classes[cI]? = some kI) (hkind : kI.kind = .array comp .int) (hn : ¬ n < 0) (hk : ¬ k < 0)
    (g1 : n.toNatClampNeg ≤ e.platform.arrayLengthLimit) (g2 : n.toNatClampNeg * 4 ≤ e.platform.maxHeapBytes) (h1 : k.toNatClampNeg ≤ e.platform.arrayLengthLimit) (h2 : k.toNatClampNeg * componentBytes .int ≤ e.platform.maxHeapBytes) (h3 : T.heap.size + (1 + n.toNatClampNeg) ≤ e.platform.maxCells) (h4 : T.slotsUsed + (n.toNatClampNeg + n.toNatClampNeg * k.toNatClampNeg) ≤ e.platform.maxSlots)
    {Q : Addr → Pre} (hQ : ∀ acts', Q T.heap.size true acts' (mg_st T (mg_out cG n.toNatClampNeg T.heap.size n.toNatClampNeg) { cls := cI, slots := Array.replicate k.toNatClampNeg (defaultValue .int), vm := .none } n.toNatClampNeg)) : wp (multianewarray.make cG [n, k]) Q E e true acts T := by
  rw [multianewarray.make]
  simp only [wp_bind', W.ite, W.theClass, wp_pure']
  rw [if_neg hn]
  refine ⟨kG, hkG, ?_⟩
  rw [hkindG]
  simp only [wp_bind', W.ite, wp_pure']
  refine mg_new hkG hkindG rfl rfl g1 g2 (by omega) (by omega) ?_
  have hf : List.find? (fun x => decide (x < 0)) [k] = none := by simp [hk]
  simp only [hf, ite_self]
  rw [wp_bind', mg_out_z cG _ T.heap.size, Std.Legacy.Range.forIn_eq_forIn_range']
  refine mg_loop (T := T) (cG := cG) (cI := cI) (comp := comp) (kG := kG) (kI := kI) (k := k) (N := n.toNatClampNeg) (fun i u => rfl) hkG hkindG hkI hkind hk h1 h2 h3 h4 (fun acts' => ?_) _ 0 _ ?_
  · rw [wp_pure']
    exact hQ acts'
  · simp [Std.Legacy.Range.size]
theorem mg_sem {T : State} {g : JFrame} {vm₁ : Vm} {index : Nat} {cG cI comp : ClassId} {kG kI : Class} {n k : Int32} {rest : List Value} (ht : T.topJava?.isSome) (hst : g.stack = .int k :: .int n :: rest) (hg : (Jvm.resolveClass g.method.cls index).Gives e.toSetting T.vm (.ok cG) vm₁) (hsz : vm₁.classes.size ≤ T.vm.classes.size)
    (hkG : vm₁.classes[cG]? = some kG) (hkindG : kG.kind = .array cI (.array .int)) (hkI : vm₁.classes[cI]? = some kI) (hkind : kI.kind = .array comp .int) (hn : ¬ n < 0) (hk : ¬ k < 0)
    (g1 : n.toNatClampNeg ≤ e.platform.arrayLengthLimit) (g2 : n.toNatClampNeg * 4 ≤ e.platform.maxHeapBytes) (h1 : k.toNatClampNeg ≤ e.platform.arrayLengthLimit) (h2 : k.toNatClampNeg * componentBytes .int ≤ e.platform.maxHeapBytes) (h3 : T.heap.size + (1 + n.toNatClampNeg) ≤ e.platform.maxCells) (h4 : T.slotsUsed + (n.toNatClampNeg + n.toNatClampNeg * k.toNatClampNeg) ≤ e.platform.maxSlots)
    {Q : Unit → Pre} (hQ : ∀ acts', Q () true acts' ((mg_st (T.setVm vm₁) (mg_out cG n.toNatClampNeg T.heap.size n.toNatClampNeg) { cls := cI, slots := Array.replicate k.toNatClampNeg (defaultValue .int), vm := .none } n.toNatClampNeg).setTop { g with stack := .ref T.heap.size :: rest })) : wp (multianewarray.sem index 2) Q E e d acts (T.setTop g) := by
  unfold multianewarray.sem
  rw [wp_bind', W.resolveClassAt_links (State.method?_setTop g ht) hg hsz, wp_bind']
  refine (popN_top (s := T.setVm vm₁) (f := g) (args := [.int n, .int k]) (rest := rest) ht hst).mpr ?_
  simp only [List.mapM_cons, List.mapM_nil, wp_bind', wp_pure']
  refine mg_two (T := (T.setVm vm₁).setTop { g with stack := rest }) hkG hkindG hkI hkind hn hk g1 g2 h1 h2 h3 h4 (fun acts' => ?_)
  rw [wp_bind', W.mark, W.pushRef, mg_top]
  refine ⟨{ g with stack := rest }, State.topJava?_setTop' _ (by rw [mg_java]; exact ht), ?_⟩
  rw [State.setTop_setTop]
  exact hQ acts'
end MGW
theorem mg_over {args : Array Value} {s : State} {t : FieldType} (h : (Cond.arrayOver (.array t)).before args s = true) : ∃ (comp cA : ClassId) (k : Class), s.vm.findClass (FieldType.array t).toString = some comp ∧ s.vm.classes[cA]? = some k ∧ k.kind = .array comp (.array t) ∧ s.vm.findClass ("[" ++ (FieldType.array t).toString) = some cA := by
  simp only [Cond.before, Cond.holds, Cond.value, beq_iff_eq, Option.bind_eq_some_iff, Option.map_eq_some_iff] at h
  obtain ⟨comp, hc, cA, hi, k, hk, hb⟩ := h
  obtain ⟨hlt, hp, -⟩ := Array.findIdx?_eq_some_iff_getElem.mp hi
  rw [(Array.getElem?_eq_some_iff.mp hk).2] at hp
  cases hkd : k.kind with
  | array q ty =>
    rw [hkd] at hp hb
    simp only [Bool.and_eq_true, decide_eq_true_eq, beq_iff_eq] at hp hb
    exact ⟨comp, cA, k, hc, hk, by rw [hkd, hp, hb.1], hb.2⟩
  | _ =>
    rw [hkd] at hb
    cases hb
section MUL
variable {p : Program} {l : Launch} {e : Env} {R : Room} {s : State} {m : MethodId} {args : Array Value} {below : List Frame} {meth : Method} {c : Code} {T : State} {locs : List Loc} {cells slots : Nat}
theorem mg_walk (X : Stand p l e R s m args below meth c T locs cells slots) (hexec : p.tables.exec = Jvm.exec) {own : String} {index : Nat} {cI cG : ClassId} (hown : s.vm.findClass own = some m.cls) (hclink : (Cond.classLink own index ("[" ++ (FieldType.array .int).toString)).before args s = true) (hover : (Cond.arrayOver (.array .int)).before args s = true) (harr : (Cond.arrayClass .int).before args s = true)
    (hcI : s.vm.findClass (FieldType.array .int).toString = some cI) (hcG : s.vm.findClass ("[" ++ (FieldType.array .int).toString) = some cG) {g : JFrame} (hg : g.method = m) (hdg : decode c.code g.pc = .ok (.multianewarray index 2, 4)) {n k : Int32} {rest : List Value} (hst : g.stack = .int k :: .int n :: rest) (hn : ¬ n < 0) (hk : ¬ k < 0)
    (hb1 : n.toNatClampNeg * 4 ≤ 536870912) (hb2 : k.toNatClampNeg * componentBytes .int ≤ 536870912) (hcells : cells + (1 + n.toNatClampNeg) ≤ R.cells) (hslots : slots + (n.toNatClampNeg + n.toNatClampNeg * k.toNatClampNeg) ≤ R.slots) :
    ∃ vm₁ : Vm, Stand p l e R s m args below meth c (mg_st (T.setVm vm₁) (mg_out cG n.toNatClampNeg T.heap.size n.toNatClampNeg) { cls := cI, slots := Array.replicate k.toNatClampNeg (defaultValue .int), vm := .none } n.toNatClampNeg) locs (cells + 1 + n.toNatClampNeg) (slots + n.toNatClampNeg + n.toNatClampNeg * k.toNatClampNeg) ∧
      ∀ target, Steps p.tables e below ((mg_st (T.setVm vm₁) (mg_out cG n.toNatClampNeg T.heap.size n.toNatClampNeg) { cls := cI, slots := Array.replicate k.toNatClampNeg (defaultValue .int), vm := .none } n.toNatClampNeg).setTop { g with pc := g.pc + 4, stack := .ref T.heap.size :: rest }) target → Steps p.tables e below (T.setTop g) target := by
  subst hg
  have hpl : e.platform.magicAccessors = ({} : Platform).magicAccessors := by rw [X.admits.platform]
  obtain ⟨q1, q2, kG, w1, w2, w3, w4⟩ := mg_over hover
  cases hcI.symm.trans w1
  cases hcG.symm.trans w4
  obtain ⟨q3, kI, comp, v1, v2, v3⟩ := Cond.arrayClass_spec harr
  cases hcI.symm.trans v1
  obtain ⟨q4, u1, u2⟩ := Cond.classLink_spec hown hclink e.platform hpl
  cases hcG.symm.trans u1
  obtain ⟨r1, r2, -⟩ := State.classEntry (e := e) X.warmed u2
  have hsz : (T.vm.noted g.method.cls index (.cls cG)).classes.size ≤ T.vm.classes.size := by no_record
  generalize T.vm.noted g.method.cls index (.cls cG) = vm₁ at r1 r2 hsz
  obtain ⟨kG₁, a1, a2⟩ := r2.alike.2.2 _ _ w2
  obtain ⟨kI₁, b1, b2⟩ := r2.alike.2.2 _ _ v2
  have hX := mg_stand (X.noted r2) (mg_out cG n.toNatClampNeg T.heap.size n.toNatClampNeg) { cls := cI, slots := Array.replicate k.toNatClampNeg (defaultValue .int), vm := .none } n.toNatClampNeg
  rw [mg_out_n, Array.size_replicate] at hX
  obtain ⟨hr1, hr2⟩ := X.roomAbove hcells hslots
  have hl := Launch.admits_arrayLengthLimit X.admits
  have hm := Launch.admits_maxHeapBytes X.admits
  have hb3 : k.toNatClampNeg * 4 ≤ 536870912 := hb2
  refine ⟨vm₁, hX, fun target h => ?_⟩
  jvm_step X.here [hexec, hdg]
  refine mg_sem (vm₁ := vm₁) (cG := cG) (cI := cI) (comp := comp) (kG := kG₁) (kI := kI₁) (n := n) (k := k) (rest := rest) X.here.top hst r1 hsz a1 (by rw [a2]; exact w3) b1 (by rw [b2]; exact v3) hn hk (by omega) (by omega) (by omega) (by rw [hm]; exact hb2) hr1 hr2 (fun acts' => ?_)
  intro acts2
  rw [afterInstr_ok]
  exact h
variable {H : Heap} {Q : State → Prop} {cc : ByteArray} {pc : Nat} {ls : Array Slot} {rest : List Value} {D : va_G} {cl : List vw_C} {A : Nat → Prop} {ws : va_W} {H0 : Heap}
theorem mu_grid (hexec : p.tables.exec = Jvm.exec) (hb : c.code = cc) {own : String} {index : Nat} {cI cG : ClassId} (hown : s.vm.findClass own = some m.cls) (hclink : (Cond.classLink own index ("[" ++ (FieldType.array .int).toString)).before args s = true) (hover : (Cond.arrayOver (.array .int)).before args s = true) (harr : (Cond.arrayClass .int).before args s = true)
    (hcI : s.vm.findClass (FieldType.array .int).toString = some cI) (hcG : s.vm.findClass ("[" ++ (FieldType.array .int).toString) = some cG) (hP : va_P D cl ws H) (hD : va_D A ws) (hS : va_S A H0 H locs) (hA : ∀ q, H0.size ≤ q → A q)
    {n k : Int32} {N' K' : Nat} {z : vp_A} (hn : ¬ n < 0) (hk : ¬ k < 0) (hN : n.toNatClampNeg = N') (hM : k.toNatClampNeg = K') (hb1 : N' * 4 ≤ 536870912) (hb2 : K' * componentBytes .int ≤ 536870912) (hb3 : K' ≤ 536870912) (hcells : cells + (1 + N') ≤ R.cells) (hslots : slots + (N' + N' * K') ≤ R.slots)
    (hz : ∀ c : ClassId, ({ cls := c, slots := Array.replicate K' (defaultValue .int), vm := .none } : Cell) = vp_cell c z) (hdg : decode cc pc = .ok (.multianewarray index 2, 4))
    (kk : ∀ (q : Nat) (r : Nat → Nat) (H1 : Heap), va_P D cl (ws ++ ((q, .inl (cG, N', .inr (.inr (.inr (.inr (fun i => some (r i))))))) :: (List.range N').map (fun i => (r i, .inl (cI, z))))) H1 → va_D A (ws ++ ((q, .inl (cG, N', .inr (.inr (.inr (.inr (fun i => some (r i))))))) :: (List.range N').map (fun i => (r i, .inl (cI, z))))) → va_S A H0 H1 locs →
      W p l e R s m args below meth c H1 locs (cells + 1 + N') (slots + N' + N' * K') Q (F0 m (pc + 4) ls (.ref q :: rest))) : W p l e R s m args below meth c H locs cells slots Q (F0 m pc ls (.int k :: .int n :: rest)) := by
  subst hN
  subst hM
  intro T hT Xs
  obtain ⟨vm₁, X', step⟩ := mg_walk Xs hexec hown hclink hover harr hcI hcG (g := F0 m pc ls (.int k :: .int n :: rest)) rfl (by rw [hb]; exact hdg) rfl hn hk hb1 hb2 hcells hslots
  rw [hz cI] at X' step
  have hTh : (T.setVm vm₁).heap = H := hT
  have hout : mg_out cG n.toNatClampNeg T.heap.size n.toNatClampNeg = vp_cell cG (n.toNatClampNeg, .inr (.inr (.inr (.inr (fun i => some (H.size + 1 + i)))))) := by
    rw [vp_cell_q, hT]
    exact ar_congr fun j hj => by rw [if_pos hj]
  rw [hout] at X' step
  have f1 := mg_size (T.setVm vm₁) (vp_cell cG (n.toNatClampNeg, .inr (.inr (.inr (.inr (fun i => some (H.size + 1 + i))))))) (vp_cell cI z) n.toNatClampNeg
  have f2 := mg_head (T.setVm vm₁) (vp_cell cG (n.toNatClampNeg, .inr (.inr (.inr (.inr (fun i => some (H.size + 1 + i))))))) (vp_cell cI z) n.toNatClampNeg
  have hold : ∀ x : Nat, x < H.size → (mg_st (T.setVm vm₁) (vp_cell cG (n.toNatClampNeg, .inr (.inr (.inr (.inr (fun i => some (H.size + 1 + i))))))) (vp_cell cI z) n.toNatClampNeg).heap[x]? = H[x]? := fun x hx => by
    have h9 := mg_old (T.setVm vm₁) (vp_cell cG (n.toNatClampNeg, .inr (.inr (.inr (.inr (fun i => some (H.size + 1 + i))))))) (vp_cell cI z) (a := x) (by rw [hTh]; exact hx) n.toNatClampNeg
    rw [hTh] at h9
    exact h9
  have hrow : ∀ j : Nat, j < n.toNatClampNeg → (mg_st (T.setVm vm₁) (vp_cell cG (n.toNatClampNeg, .inr (.inr (.inr (.inr (fun i => some (H.size + 1 + i))))))) (vp_cell cI z) n.toNatClampNeg).heap[H.size + 1 + j]? = some (vp_cell cI z) := fun j hj => by
    have h9 := mg_row (T.setVm vm₁) (vp_cell cG (n.toNatClampNeg, .inr (.inr (.inr (.inr (fun i => some (H.size + 1 + i))))))) (vp_cell cI z) j n.toNatClampNeg hj
    rw [hTh] at h9
    exact h9
  rw [hTh] at f1 f2
  generalize mg_st (T.setVm vm₁) (vp_cell cG (n.toNatClampNeg, .inr (.inr (.inr (.inr (fun i => some (H.size + 1 + i))))))) (vp_cell cI z) n.toNatClampNeg = F at X' step f1 f2 hold hrow
  have hP1 : va_P D cl (ws ++ ((H.size, .inl (cG, n.toNatClampNeg, .inr (.inr (.inr (.inr (fun i => some (H.size + 1 + i))))))) :: (List.range n.toNatClampNeg).map (fun i => (H.size + 1 + i, .inl (cI, z))))) F.heap := (hP.kept (fun k9 x hx => hold x.1 ((hP k9 x hx).lt))).app (fun k9 x hx => by
    rcases List.mem_cons.mp (List.mem_of_getElem? hx) with rfl | h
    · exact f2
    · obtain ⟨i, hi, rfl⟩ := List.mem_map.mp h
      exact hrow i (List.mem_range.mp hi))
  have hr : ∀ (k9 : Nat) (x : Nat × va_E), (((H.size, .inl (cG, n.toNatClampNeg, .inr (.inr (.inr (.inr (fun i => some (H.size + 1 + i))))))) :: (List.range n.toNatClampNeg).map (fun i => (H.size + 1 + i, .inl (cI, z)))) : va_W)[k9]? = some x → x.1 = H.size + k9 := fun k9 x hx => by
    cases k9 with
    | zero => cases hx; rfl
    | succ j =>
      rw [List.getElem?_cons_succ, List.getElem?_map] at hx
      by_cases h9 : j < n.toNatClampNeg
      · rw [List.getElem?_range h9] at hx
        cases hx
        show H.size + 1 + j = _
        omega
      · have hn0 : (List.range n.toNatClampNeg)[j]? = none := List.getElem?_eq_none (by rw [List.length_range]; omega)
        rw [hn0] at hx
        cases hx
  have hD1 : va_D A (ws ++ ((H.size, .inl (cG, n.toNatClampNeg, .inr (.inr (.inr (.inr (fun i => some (H.size + 1 + i))))))) :: (List.range n.toNatClampNeg).map (fun i => (H.size + 1 + i, .inl (cI, z))))) := by
    refine hD.app ⟨fun i j x y hi hj hxy => ?_, fun k9 x hx => hA _ ?_⟩ (fun i j x y hx hy => ?_)
    · have := hr _ _ hi
      have := hr _ _ hj
      omega
    · have := hr _ _ hx
      have := hS.1
      omega
    · have := (hP i x hx).lt
      have := hr _ _ hy
      omega
  obtain ⟨t2, a1, b1⟩ := kk H.size (fun i => H.size + 1 + i) F.heap hP1 hD1 ⟨Nat.le_trans hS.1 (by omega), fun x h1 h2 => (hold x (Nat.lt_of_lt_of_le h1 hS.1)).trans (hS.2.1 x h1 h2), hS.2.2⟩ F rfl X'
  exact ⟨t2, step t2 (by rw [hT]; exact a1), b1⟩
end MUL
