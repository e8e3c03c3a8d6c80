/-! 02b: what stays as it is (EV), rows of the machine over the pool -/
def nF : List (String × Nat × String × String × String × String) := [("BowingBridges", 102, "BowingBridges$Bridges", "faultPlace", "I", "BowingBridges"), ("BowingBridges", 105, "BowingBridges$Boats", "faultPlace", "I", "BowingBridges"), ("BowingBridges", 117, "BowingBridges$Boats", "start", "[I", "BowingBridges"), ("BowingBridges", 120, "BowingBridges$Boats", "marks", "[[I", "BowingBridges"), ("BowingBridges", 134, "BowingBridges$Shams", "size", "I", "BowingBridges"), ("BowingBridges", 138, "BowingBridges$Sheet", "lost", "Z", "BowingBridges"), ("BowingBridges", 146, "BowingBridges$Sheet", "size", "I", "BowingBridges"), ("BowingBridges", 147, "BowingBridges$Sheet", "items", "[I", "BowingBridges"), ("BowingBridges", 168, "BowingBridges$Boats", "size", "I", "BowingBridges"), ("BowingBridges", 181, "BowingBridges$Plan", "which", "I", "BowingBridges"), ("BowingBridges", 184, "BowingBridges$Plan", "howMuch", "I", "BowingBridges"), ("BowingBridges", 194, "BowingBridges$Sightings", "size", "I", "BowingBridges"), ("BowingBridges", 217, "BowingBridges$Bridges", "many", "[I", "BowingBridges"), ("BowingBridges", 262, "BowingBridges$Sheet", "form", "I", "BowingBridges"), ("BowingBridges", 279, "BowingBridges$Bridges", "size", "I", "BowingBridges"), ("BowingBridges", 345, "BowingBridges$Beliefs", "known", "Z", "BowingBridges"), ("BowingBridges", 348, "BowingBridges$Voyage", "bridgeCount", "I", "BowingBridges"), ("BowingBridges", 351, "BowingBridges$Voyage", "boatCount", "I", "BowingBridges"), ("BowingBridges", 354, "BowingBridges$Voyage", "start", "[I", "BowingBridges"), ("BowingBridges", 355, "BowingBridges$Voyage", "lift", "[I", "BowingBridges"), ("BowingBridges", 358, "BowingBridges$Bridges", "mark", "[I", "BowingBridges"), ("BowingBridges", 367, "BowingBridges$Shams", "carried", "[[I", "BowingBridges"), ("BowingBridges", 404, "BowingBridges$Beliefs", "shamCount", "I", "BowingBridges"), ("BowingBridges", 98, "BowingBridges$Text", "size", "I", "BowingBridges"), ("BowingBridges$Beliefs", 19, "BowingBridges$Voyage", "boatCount", "I", "BowingBridges"), ("BowingBridges$Boats", 27, "BowingBridges$Text", "size", "I", "BowingBridges"), ("BowingBridges$Bridges", 28, "BowingBridges$Text", "size", "I", "BowingBridges"), ("BowingBridges$Sightings", 29, "BowingBridges$Voyage", "boatCount", "I", "BowingBridges")]
def nM : List (String × Nat × MethodName × String) := [("BowingBridges", 17, ⟨"BowingBridges$Bridges", "<init>", "()V"⟩, "BowingBridges"), ("BowingBridges", 24, ⟨"BowingBridges$Boats", "<init>", "()V"⟩, "BowingBridges"), ("BowingBridges", 31, ⟨"BowingBridges$Shams", "<init>", "()V"⟩, "BowingBridges"), ("BowingBridges", 38, ⟨"BowingBridges$Sightings", "<init>", "()V"⟩, "BowingBridges"), ("BowingBridges", 51, ⟨"BowingBridges$Voyage", "<init>", "()V"⟩, "BowingBridges"), ("BowingBridges", 61, ⟨"BowingBridges$Beliefs", "<init>", "()V"⟩, "BowingBridges"), ("BowingBridges", 68, ⟨"BowingBridges$Plan", "<init>", "()V"⟩, "BowingBridges"), ("BowingBridges", 83, ⟨"BowingBridges$Sheet", "<init>", "()V"⟩, "BowingBridges"), ("BowingBridges$Boats", 42, ⟨"BowingBridges", "isWithin", "(II)Z"⟩, "BowingBridges"), ("BowingBridges$Bridges", 43, ⟨"BowingBridges", "isWithin", "(II)Z"⟩, "BowingBridges"), ("BowingBridges$Shams", 23, ⟨"BowingBridges", "isWithin", "(II)Z"⟩, "BowingBridges"), ("BowingBridges$Voyage", 40, ⟨"BowingBridges", "isWithin", "(II)Z"⟩, "BowingBridges")]
def cgF (j : Nat) : Int32 := ([-1, 0, 1, 2, 3, 4, 5, 0, 0, 0, 0, 0, 0, 1, 1, 1, 1, 1, 2, 2, 2, 2, 3, 3, 3, 4, 4, 5] : List Int32).getD j 0
def cgS (j : Nat) : Int32 := ([-1, -1, -1, -1, -1, -1, -1, 0, 1, 2, 3, 4, 5, 1, 2, 3, 4, 5, 2, 3, 4, 5, 3, 4, 5, 4, 5, 5] : List Int32).getD j 0
def EV (D : va_G) (cy : Nat → ClassId) (ad : Nat → Nat) (ta tb : Nat) (U : State) : Prop :=
  va_K D vwCl (tyL cy) U ∧ (∀ q ∈ nF, va_Nw (.fieldLinkNest q.1 q.2.1 q.2.2.1 q.2.2.2.1 q.2.2.2.2.1 q.2.2.2.2.2) U) ∧ (∀ q ∈ nM, va_Nw (.methodLinkNest q.1 q.2.1 q.2.2.1 q.2.2.2) U) ∧
  (va_Z "BowingBridges" "CARGO_FIRST" "[I" (.ref ta) (AA ad) U U.heap ∧ va_T .int ta 28 (fun j => .int (cgF j)) (AA ad) U U.heap) ∧
  (va_Z "BowingBridges" "CARGO_SECOND" "[I" (.ref tb) (AA ad) U U.heap ∧ va_T .int tb 28 (fun j => .int (cgS j)) (AA ad) U U.heap)
theorem EV.blind {D : va_G} {cy : Nat → ClassId} {ad : Nat → Nat} {ta tb : Nat} {U : State} {g : JFrame} {mk : MethodId} {a : Array Value} (h : EV D cy ad ta tb U) : EV D cy ad ta tb (U.calling g mk a) := by
  have hv : U.vm = (U.calling g mk a).vm := rfl
  have hal : U.vm.Alike (U.calling g mk a).vm := Vm.Alike.refl U.vm
  obtain ⟨h1, h2, h3, ⟨h4, h5⟩, h6, h7⟩ := h
  exact ⟨va_K.moved hal h1, fun q hq => va_Nw.same rfl hv (h2 q hq), fun q hq => va_Nw.same rfl hv (h3 q hq), ⟨va_Z.moved hal h4, va_T.moved hal h5⟩, va_Z.moved hal h6, va_T.moved hal h7⟩
theorem EV.goes {D : va_G} {cy : Nat → ClassId} {ad : Nat → Nat} {ta tb : Nat} {s U : State} {H : Heap} {locs : List Loc} (h : EV D cy ad ta tb s) (hS : va_S (AA ad) s.heap H locs) (hU : U.heap = H) (hW : s.WarmedH U.vm) : EV D cy ad ta tb U := by
  obtain ⟨h1, h2, h3, ⟨h4, h5⟩, h6, h7⟩ := h
  have hq : ∀ a : Nat, a < s.heap.size → ¬ AA ad a → U.heap[a]? = s.heap[a]? := fun a ha hn => by rw [hU]; exact hS.2.1 a ha hn
  exact ⟨va_K.moved hW.alike h1, fun q hq => va_Nw.warmF hW (h2 q hq), fun q hq => va_Nw.warmM hW (h3 q hq), ⟨va_Z.moved hW.alike (h4.kept hq), va_T.moved hW.alike (h5.kept hq)⟩, va_Z.moved hW.alike (h6.kept hq), va_T.moved hW.alike (h7.kept hq)⟩
/-- the world in a walk: the heap H holds the memory; since H0 only the pool's own cells changed -/
def Bd (D : va_G) (cy : Nat → ClassId) (ad : Nat → Nat) (σ : Mem) (H0 H : Heap) (locs : List Loc) : Prop := va_P D vwCl (PO cy ad σ) H ∧ va_S (AA ad) H0 H locs
theorem Bd.heap {D : va_G} {cy : Nat → ClassId} {ad : Nat → Nat} {σ : Mem} {H0 H : Heap} {locs : List Loc} {t : State} (hB : Bd D cy ad σ H0 H locs) (ht : t.heap = H) : va_P D vwCl (PO cy ad σ) t.heap := by rw [ht]; exact hB.1
def ms (σ : Mem) (r i : Nat) (x : Int32) : Mem := (va_up σ.1 r (upd (σ.1 r) i x), σ.2)
def mw (σ : Mem) (r : Nat) (w : Nat → Int32) : Mem := (va_up σ.1 r w, σ.2)
def mj (σ : Mem) (i : Nat) (x : Int64) : Mem := (σ.1, vp_updL σ.2 i x)
/-- contracts: start and end -/
def CP (D : va_G) (cy : Nat → ClassId) (ad : Nat → Nat) (ta tb : Nat) (σ : Mem) (av : List Value) : Array Value → State → Prop := va_Pc av (fun U => EV D cy ad ta tb U ∧ va_P D vwCl (PO cy ad σ) U.heap)
def CQi (D : va_G) (cy : Nat → ClassId) (ad : Nat → Nat) (r0 : Int32) (σ : Mem) : Array Value → State → Outcome → State → Prop := va_Qi (fun (r : Int32) (u : Mem) => r = r0 ∧ u = σ) (fun u t => va_P D vwCl (PO cy ad u) t.heap) (AA ad)
def CQl (D : va_G) (cy : Nat → ClassId) (ad : Nat → Nat) (r0 : Int64) (σ : Mem) : Array Value → State → Outcome → State → Prop := va_Ql (fun (r : Int64) (u : Mem) => r = r0 ∧ u = σ) (fun u t => va_P D vwCl (PO cy ad u) t.heap) (AA ad)
def CQv (D : va_G) (cy : Nat → ClassId) (ad : Nat → Nat) (σ : Mem) : Array Value → State → Outcome → State → Prop := va_Qv (fun (u : Mem) => u = σ) (fun u t => va_P D vwCl (PO cy ad u) t.heap) (AA ad)
theorem CP.blind {D : va_G} {cy : Nat → ClassId} {ad : Nat → Nat} {ta tb : Nat} {σ : Mem} {av : List Value} : FrameBlind (CP D cy ad ta tb σ av) := fun a U g mk q => ⟨q.1, q.2.1.blind, q.2.2⟩
theorem CP.at {D : va_G} {cy : Nat → ClassId} {ad : Nat → Nat} {ta tb : Nat} {σ : Mem} {av : List Value} {s : State} {H : Heap} {locs : List Loc} (hE : EV D cy ad ta tb s) (hB : Bd D cy ad σ s.heap H locs) : ∀ U : State, U.heap = H → s.WarmedH U.vm → CP D cy ad ta tb σ av av.toArray U := fun U hU hW => ⟨rfl, hE.goes hB.2 hU hW, by rw [hU]; exact hB.1⟩
-- the semantics' own words
def ck {α : Type} (i : Int32) (n : Nat) (k : Option α) : Option α := if i < 0 ∨ n ≤ i.toNatClampNeg then none else k
def cz {α : Type} (i : Int32) (k : Option α) : Option α := if i = 0 then none else k
def czl {α : Type} (i : Int64) (k : Option α) : Option α := if i = 0 then none else k
def cb {α : Type} (v : Int32) (k : Option α) : Option α := if v = 0 ∨ v = 1 then k else none
def cp {α : Type} (sp dp n : Int32) (n0 n1 : Nat) (k : Option α) : Option α := if sp < 0 ∨ dp < 0 ∨ n < 0 ∨ n0 < sp.toNatClampNeg + n.toNatClampNeg ∨ n1 < dp.toNatClampNeg + n.toNatClampNeg then none else k
def lt {α : Type} (a : Mem) (k : Mem → Option α) : Option α := k a
def bv {α : Type} (x : Option Mem) (k : Mem → Option α) : Option α := x.bind k
def bp {α β : Type} (x : Option β) (k : β → Option α) : Option α := x.bind k
def bi {α β : Type} (x : Option (β × Mem)) (k : β → Mem → Option α) : Option α := x.bind (fun q => k q.1 q.2)
theorem ck_e {α : Type} {i : Int32} {n : Nat} {k : Option α} {o : α} (h : ck i n k = some o) : vp_in i n ∧ k = some o := by
  unfold ck at h
  by_cases c : i < 0 ∨ n ≤ i.toNatClampNeg
  · rw [if_pos c] at h; cases h
  · rw [if_neg c] at h; exact ⟨c, h⟩
theorem cz_e {α : Type} {i : Int32} {k : Option α} {o : α} (h : cz i k = some o) : ¬ i = 0 ∧ k = some o := by
  unfold cz at h
  by_cases c : i = 0
  · rw [if_pos c] at h; cases h
  · rw [if_neg c] at h; exact ⟨c, h⟩
theorem czl_e {α : Type} {i : Int64} {k : Option α} {o : α} (h : czl i k = some o) : ¬ i = 0 ∧ k = some o := by
  unfold czl at h
  by_cases c : i = 0
  · rw [if_pos c] at h; cases h
  · rw [if_neg c] at h; exact ⟨c, h⟩
theorem cb_e {α : Type} {v : Int32} {k : Option α} {o : α} (h : cb v k = some o) : narrow .boolean (.int v) = .int v ∧ k = some o := by
  unfold cb at h
  by_cases c : v = 0 ∨ v = 1
  · rw [if_pos c] at h
    exact ⟨by rcases c with rfl | rfl <;> rfl, h⟩
  · rw [if_neg c] at h; cases h
theorem cp_e {α : Type} {sp dp n : Int32} {n0 n1 : Nat} {k : Option α} {o : α} (h : cp sp dp n n0 n1 k = some o) : (¬ sp < 0 ∧ ¬ dp < 0 ∧ ¬ n < 0 ∧ sp.toNatClampNeg + n.toNatClampNeg ≤ n0 ∧ dp.toNatClampNeg + n.toNatClampNeg ≤ n1) ∧ k = some o := by
  unfold cp at h
  by_cases c : sp < 0 ∨ dp < 0 ∨ n < 0 ∨ n0 < sp.toNatClampNeg + n.toNatClampNeg ∨ n1 < dp.toNatClampNeg + n.toNatClampNeg
  · rw [if_pos c] at h; cases h
  · rw [if_neg c] at h
    exact ⟨⟨fun q => c (Or.inl q), fun q => c (Or.inr (Or.inl q)), fun q => c (Or.inr (Or.inr (Or.inl q))), Nat.le_of_not_lt fun q => c (Or.inr (Or.inr (Or.inr (Or.inl q)))), Nat.le_of_not_lt fun q => c (Or.inr (Or.inr (Or.inr (Or.inr q))))⟩, h⟩
theorem lt_e {α : Type} {a : Mem} {k : Mem → Option α} {o : α} (h : lt a k = some o) : ∃ x, x = a ∧ k x = some o := ⟨a, rfl, h⟩
theorem bv_e {α : Type} {x : Option Mem} {k : Mem → Option α} {o : α} (h : bv x k = some o) : ∃ u, x = some u ∧ k u = some o := Option.bind_eq_some_iff.mp h
theorem bp_e {α β : Type} {x : Option β} {k : β → Option α} {o : α} (h : bp x k = some o) : ∃ u, x = some u ∧ k u = some o := Option.bind_eq_some_iff.mp h
theorem bi_e {α β : Type} {x : Option (β × Mem)} {k : β → Mem → Option α} {o : α} (h : bi x k = some o) : ∃ (a : β) (b : Mem), x = some (a, b) ∧ k a b = some o := by
  obtain ⟨⟨a, b⟩, h1, h2⟩ := Option.bind_eq_some_iff.mp h
  exact ⟨a, b, h1, h2⟩
theorem so1 {α : Type} {v : α} {s : Mem} {o : α × Mem} (h : some (v, s) = some o) : v = o.1 := by cases h; rfl
theorem so2 {α : Type} {v : α} {s : Mem} {o : α × Mem} (h : some (v, s) = some o) : s = o.2 := by cases h; rfl
theorem it_e {α : Type} {c : Prop} [Decidable c] {a b : Option α} {o : α} (hc : c) (h : (if c then a else b) = some o) : a = some o := by rw [if_pos hc] at h; exact h
theorem ie_e {α : Type} {c : Prop} [Decidable c] {a b : Option α} {o : α} (hc : ¬ c) (h : (if c then a else b) = some o) : b = some o := by rw [if_neg hc] at h; exact h
section QR
variable {p : Program} {l : Launch} {e : Env} {R : Room} {s : State} {m : MethodId} {args : Array Value} {below : List Frame} {meth : Method} {c : Code} {H : Heap} {locs : List Loc} {cells slots : Nat} {Q : State → Prop}
variable {cc : ByteArray} {pc nL : Nat} {ls : Array Slot} {rest : List Value} {D : va_G} {cy : Nat → ClassId} {ad : Nat → Nat} {ta tb : Nat} {own : String} {σ σ1 : Mem} {Ts : List Cond}
theorem q_get (F : CallFix p m c cc nL s args wG own) (hE : EV D cy ad ta tb s) (hB : Bd D cy ad σ s.heap H locs) {C : String} {T : u_T} {N ci r index : Nat} {fs : List Value} (he : (PO cy ad σ)[r]? = some (ad r, .inr (ci, fs))) (hc : vwCl[ci]? = some (C, T, N)) (hin : ∀ w ∈ u_ws C T N, w ∈ wG) (k : Nat) (hk : k < N) {v : Value} (hlk : Cond.fieldLink own index (T k).1 (T k).2.1 (T k).2.2.1 ∈ wG) (hv : fs[k]? = some v) (hdg : decode cc pc = .ok (.getfield index, 3))
    (kk : W p l e R s m args below meth c H locs cells slots Q (F0 m (pc + 3) ls (v :: rest))) : W p l e R s m args below meth c H locs cells slots Q (F0 m pc ls (.ref (ad r) :: rest)) :=
  va_get F.1 F.2.1 F.2.2.2.2 hin F.2.2.2.1 hE.1 hB.1 r he hc k hk (F.2.2.2.2 _ hlk) (fun _ h => h) hv hdg kk
theorem q_getN (F : CallFix p m c cc nL s args wG own) (hE : EV D cy ad ta tb s) (hB : Bd D cy ad σ s.heap H locs) {C host : String} {T : u_T} {N ci r index : Nat} {fs : List Value} (he : (PO cy ad σ)[r]? = some (ad r, .inr (ci, fs))) (hc : vwCl[ci]? = some (C, T, N)) (hin : ∀ w ∈ u_ws C T N, w ∈ wG) (k : Nat) (hk : k < N) {v : Value} (hlk : (own, index, (T k).1, (T k).2.1, (T k).2.2.1, host) ∈ nF) (hv : fs[k]? = some v) (hdg : decode cc pc = .ok (.getfield index, 3))
    (kk : W p l e R s m args below meth c H locs cells slots Q (F0 m (pc + 3) ls (v :: rest))) : W p l e R s m args below meth c H locs cells slots Q (F0 m pc ls (.ref (ad r) :: rest)) :=
  va_getN F.1 F.2.1 F.2.2.2.2 hin F.2.2.2.1 hE.1 hB.1 r he hc k hk (va_Nw.use rfl (hE.2.1 _ hlk)) (fun _ h => h) hv hdg kk
theorem q_put (F : CallFix p m c cc nL s args wG own) (hE : EV D cy ad ta tb s) (hI : AdI ad) (hB : Bd D cy ad σ s.heap H locs) {C : String} {T : u_T} {N ci r index : Nat} {fs : List Value} (he : (PO cy ad σ)[r]? = some (ad r, .inr (ci, fs))) (hc : vwCl[ci]? = some (C, T, N)) (hin : ∀ w ∈ u_ws C T N, w ∈ wG) (ty0 : Nat → FieldType) (hty : ∀ k, k < N → parseFieldDescriptor (T k).2.2.1 = some (ty0 k)) (hnm : ∀ a, a < N → ∀ b, b < N → a ≠ b → (T a).2.1 ≠ (T b).2.1) (k : Nat) (hk : k < N) {x : Int32} (hlk : Cond.fieldLink own index (T k).1 (T k).2.1 (T k).2.2.1 ∈ wG) (hfin : (T k).2.2.2 = false) {ty : FieldType} (hd : parseFieldDescriptor (T k).2.2.1 = some ty) (hn : narrow ty (.int x) = .int x) (hfit : fits ty (.int x) = true) (hl : k < fs.length)
    (hcel : cel cy ad σ.2 r (upd (σ.1 r) k x) = .inr (ci, fs.set k (.int x))) (hdg : decode cc pc = .ok (.putfield index, 3)) (hσ : σ1 = ms σ r k x)
    (kk : ∀ (H1 : Heap) (locs1 : List Loc), Bd D cy ad σ1 s.heap H1 locs1 → W p l e R s m args below meth c H1 locs1 cells slots Q (F0 m (pc + 3) ls rest)) : W p l e R s m args below meth c H locs cells slots Q (F0 m pc ls (.int x :: .ref (ad r) :: rest)) :=
  va_put F.1 F.2.1 F.2.2.2.2 hin ty0 hty hnm F.2.2.2.1 hE.1 hB.1 (PO_D hI) hB.2 r he hc k hk (F.2.2.2.2 _ hlk) (fun _ h => h) hfin hd hn hfit hl hdg (fun H1 locs1 h1 _ h3 => kk H1 locs1 ⟨by rw [hσ]; rw [PO_set hcel] at h1; exact h1, h3⟩)
theorem q_putN (F : CallFix p m c cc nL s args wG own) (hE : EV D cy ad ta tb s) (hI : AdI ad) (hB : Bd D cy ad σ s.heap H locs) {C host : String} {T : u_T} {N ci r index : Nat} {fs : List Value} (he : (PO cy ad σ)[r]? = some (ad r, .inr (ci, fs))) (hc : vwCl[ci]? = some (C, T, N)) (hin : ∀ w ∈ u_ws C T N, w ∈ wG) (ty0 : Nat → FieldType) (hty : ∀ k, k < N → parseFieldDescriptor (T k).2.2.1 = some (ty0 k)) (hnm : ∀ a, a < N → ∀ b, b < N → a ≠ b → (T a).2.1 ≠ (T b).2.1) (k : Nat) (hk : k < N) {x : Int32} (hlk : (own, index, (T k).1, (T k).2.1, (T k).2.2.1, host) ∈ nF) (hfin : (T k).2.2.2 = false) {ty : FieldType} (hd : parseFieldDescriptor (T k).2.2.1 = some ty) (hn : narrow ty (.int x) = .int x) (hfit : fits ty (.int x) = true) (hl : k < fs.length)
    (hcel : cel cy ad σ.2 r (upd (σ.1 r) k x) = .inr (ci, fs.set k (.int x))) (hdg : decode cc pc = .ok (.putfield index, 3)) (hσ : σ1 = ms σ r k x)
    (kk : ∀ (H1 : Heap) (locs1 : List Loc), Bd D cy ad σ1 s.heap H1 locs1 → W p l e R s m args below meth c H1 locs1 cells slots Q (F0 m (pc + 3) ls rest)) : W p l e R s m args below meth c H locs cells slots Q (F0 m pc ls (.int x :: .ref (ad r) :: rest)) :=
  va_putN F.1 F.2.1 F.2.2.2.2 hin ty0 hty hnm F.2.2.2.1 hE.1 hB.1 (PO_D hI) hB.2 r he hc k hk (va_Nw.use rfl (hE.2.1 _ hlk)) (fun _ h => h) hfin hd hn hfit hl hdg (fun H1 locs1 h1 _ h3 => kk H1 locs1 ⟨by rw [hσ]; rw [PO_set hcel] at h1; exact h1, h3⟩)
theorem q_iald (F : CallFix p m c cc nL s args wG own) (hE : EV D cy ad ta tb s) (hB : Bd D cy ad σ s.heap H locs) {r n : Nat} (he : (PO cy ad σ)[r]? = some (ad r, .inl (cy 0, n, .inl (σ.1 r)))) {i : Int32} (hin : vp_in i n) (hdg : decode cc pc = .ok (.iaload, 1))
    (kk : W p l e R s m args below meth c H locs cells slots Q (F0 m (pc + 1) ls (.int (σ.1 r i.toNatClampNeg) :: rest))) : W p l e R s m args below meth c H locs cells slots Q (F0 m pc ls (.int i :: .ref (ad r) :: rest)) :=
  va_iald F.1 F.2.1 hE.1 hB.1 r 0 he rfl hin hdg kk
theorem q_iast (F : CallFix p m c cc nL s args wG own) (hE : EV D cy ad ta tb s) (hI : AdI ad) (hB : Bd D cy ad σ s.heap H locs) {r n : Nat} (hr : isRow r n) {i x : Int32} (hin : vp_in i n) (hdg : decode cc pc = .ok (.iastore, 1)) (hσ : σ1 = ms σ r i.toNatClampNeg x)
    (kk : ∀ (H1 : Heap) (locs1 : List Loc), Bd D cy ad σ1 s.heap H1 locs1 → W p l e R s m args below meth c H1 locs1 cells slots Q (F0 m (pc + 1) ls rest)) : W p l e R s m args below meth c H locs cells slots Q (F0 m pc ls (.int x :: .int i :: .ref (ad r) :: rest)) :=
  va_iast F.1 F.2.1 hE.1 hB.1 (PO_D hI) hB.2 r 0 (po_row hr) rfl hin hdg (fun H1 locs1 h1 _ h3 => kk H1 locs1 ⟨by rw [hσ]; rw [PO_set (hr.2 _ _ _ _)] at h1; exact h1, h3⟩)
theorem q_lald (F : CallFix p m c cc nL s args wG own) (hE : EV D cy ad ta tb s) (hB : Bd D cy ad σ s.heap H locs) {i : Int32} (hin : vp_in i 256) (hdg : decode cc pc = .ok (.laload, 1))
    (kk : W p l e R s m args below meth c H locs cells slots Q (F0 m (pc + 1) ls (.long (σ.2 i.toNatClampNeg) :: rest))) : W p l e R s m args below meth c H locs cells slots Q (F0 m pc ls (.int i :: .ref (ad 59) :: rest)) :=
  va_lald F.1 F.2.1 hE.1 hB.1 59 1 po_59 rfl hin hdg kk
theorem q_last (F : CallFix p m c cc nL s args wG own) (hE : EV D cy ad ta tb s) (hI : AdI ad) (hB : Bd D cy ad σ s.heap H locs) {i : Int32} {x : Int64} (hin : vp_in i 256) (hdg : decode cc pc = .ok (.lastore, 1)) (hσ : σ1 = mj σ i.toNatClampNeg x)
    (kk : ∀ (H1 : Heap) (locs1 : List Loc), Bd D cy ad σ1 s.heap H1 locs1 → W p l e R s m args below meth c H1 locs1 cells slots Q (F0 m (pc + 1) ls rest)) : W p l e R s m args below meth c H locs cells slots Q (F0 m pc ls (.long x :: .int i :: .ref (ad 59) :: rest)) :=
  va_last F.1 F.2.1 hE.1 hB.1 (PO_D hI) hB.2 59 1 po_59 rfl hin hdg (fun H1 locs1 h1 _ h3 => kk H1 locs1 ⟨by rw [hσ]; rw [PO_setJ rfl] at h1; exact h1, h3⟩)
theorem q_alen (F : CallFix p m c cc nL s args wG own) (hE : EV D cy ad ta tb s) (hB : Bd D cy ad σ s.heap H locs) {r n : Nat} (he : (PO cy ad σ)[r]? = some (ad r, .inl (cy 0, n, .inl (σ.1 r)))) (hdg : decode cc pc = .ok (.arraylength, 1))
    (kk : W p l e R s m args below meth c H locs cells slots Q (F0 m (pc + 1) ls (.int (nI n) :: rest))) : W p l e R s m args below meth c H locs cells slots Q (F0 m pc ls (.ref (ad r) :: rest)) :=
  va_alen F.1 F.2.1 hE.1 hB.1 r 0 he rfl rfl hdg kk
/-- a row of objects, of texts or sheets -/
theorem q_aldq (F : CallFix p m c cc nL s args wG own) (hE : EV D cy ad ta tb s) (hB : Bd D cy ad σ s.heap H locs) {r n t0 : Nat} {cA : ClassId} {C : String} {g : Nat → Nat} (he : (PO cy ad σ)[r]? = some (ad r, .inl (cA, n, .inr (.inr (.inr (.inr (fun i => some (ad (g i))))))))) (ht : (tyL cy)[t0]? = some (cA, .object C)) {i : Int32} (hin : vp_in i n) (hdg : decode cc pc = .ok (.aaload, 1))
    (kk : W p l e R s m args below meth c H locs cells slots Q (F0 m (pc + 1) ls (.ref (ad (g i.toNatClampNeg)) :: rest))) : W p l e R s m args below meth c H locs cells slots Q (F0 m pc ls (.int i :: .ref (ad r) :: rest)) :=
  va_aldq F.1 F.2.1 hE.1 hB.1 r t0 he ht hin hdg kk
/-- a row of rows -/
theorem q_aldA (F : CallFix p m c cc nL s args wG own) (hE : EV D cy ad ta tb s) (hB : Bd D cy ad σ s.heap H locs) {r n : Nat} {g : Nat → Nat} (he : (PO cy ad σ)[r]? = some (ad r, .inl (cy 4, n, .inr (.inr (.inr (.inr (fun i => some (ad (g i))))))))) {i : Int32} (hin : vp_in i n) (hdg : decode cc pc = .ok (.aaload, 1))
    (kk : W p l e R s m args below meth c H locs cells slots Q (F0 m (pc + 1) ls (.ref (ad (g i.toNatClampNeg)) :: rest))) : W p l e R s m args below meth c H locs cells slots Q (F0 m pc ls (.int i :: .ref (ad r) :: rest)) := by
  have hlt : i.toNatClampNeg < n := Nat.not_le.mp fun q => hin (Or.inr q)
  have ht : (tyL cy)[4]? = some (cy 4, .array .int) := rfl
  exact W.aald (v := va_rf (some (ad (g i.toNatClampNeg)))) (ty := .array .int) F.1 F.2.1 (hB.1 r _ he) ((hE.1.2 4 _ ht).1 n (fun j => va_rf (some (ad (g j))))) rfl (fun q => by cases q) (by show ¬ (i < 0 ∨ (arrV _ _ _).slots.size ≤ _); rw [arrV_size]; exact hin) (by show (arrV _ _ _).slots[_]? = _; rw [arrV_read _ _ hlt]) rfl rfl hdg kk
theorem q_copy (F : CallFix p m c cc nL s args wG own) (hE : EV D cy ad ta tb s) (hI : AdI ad) (hsz : ls.size = nL) (hB : Bd D cy ad σ s.heap H locs) {r0 r n0 n1 index : Nat} (h0 : isRow r0 n0) (h1 : isRow r n1) (hlk : Cond.methodLink own index arraycopyName ∈ wG) (hnat : Cond.native arraycopyName ∈ wG) (hst : Cond.static arraycopyName ∈ wG) (hini : Cond.initialized "java/lang/System" ∈ wG) {sp dp n : Int32} (hp : ¬ sp < 0 ∧ ¬ dp < 0 ∧ ¬ n < 0 ∧ sp.toNatClampNeg + n.toNatClampNeg ≤ n0 ∧ dp.toNatClampNeg + n.toNatClampNeg ≤ n1)
    (hframes : 1 ≤ R.frames) (hlocals : (rest.map fun v => v.category).sum + (nativeFrameWords "java/lang/System" "arraycopy" 5 + 11) ≤ R.locals) (hdg : decode cc pc = .ok (.invokestatic index, 3)) (hσ : σ1 = mw σ r (va_cpy (σ.1 r0) (σ.1 r) sp.toNatClampNeg dp.toNatClampNeg n.toNatClampNeg))
    (kk : ∀ (H1 : Heap) (locs1 : List Loc), Bd D cy ad σ1 s.heap H1 locs1 → W p l e R s m args below meth c H1 locs1 cells slots Q (F0 m (pc + 3) ls rest)) : W p l e R s m args below meth c H locs cells slots Q (F0 m pc ls (.int n :: .int dp :: .ref (ad r) :: .int sp :: .ref (ad r0) :: rest)) :=
  va_copyi F.1 F.2.1 (by rw [F.2.2.1, hsz]) F.2.2.2.1 (F.2.2.2.2 _ hlk) (F.2.2.2.2 _ hnat) (F.2.2.2.2 _ hst) (F.2.2.2.2 _ hini) hE.1 hB.1 (PO_D hI) hB.2 r0 r 0 0 (po_row h0) (po_row h1) rfl rfl rfl hp.1 hp.2.1 hp.2.2.1 hp.2.2.2.1 hp.2.2.2.2 (fun _ _ => rfl) hframes hlocals hdg (fun H1 locs1 h5 _ h7 => kk H1 locs1 ⟨by rw [hσ]; rw [PO_set (h1.2 _ _ _ _)] at h5; exact h5, h7⟩)
-- returns
theorem q_iret {r0 : Int32} {σ0 : Mem} {v : Int32} (F : CallFix p m c cc nL s args wG own) (hlocks : meth.locks = false) (hr : meth.sig.returnType = some .int) (hB : Bd D cy ad σ s.heap H locs) (hv : v = r0) (hσ : σ = σ0) (hdg : decode cc pc = .ok (.ireturn, 1)) : W p l e R s m args below meth c H locs cells slots (MQ below (CQi D cy ad r0 σ0) args s cells slots (AA ad)) (F0 m pc ls [.int v]) :=
  W.iret F.1 F.2.1 hr (fun t ht _ => ⟨⟨v, σ, rfl, ⟨hv, hσ⟩, hB.heap ht⟩, hB.2.F ht⟩) hB.2.2.2 hdg
theorem q_zret {r0 : Int32} {σ0 : Mem} {v : Int32} (F : CallFix p m c cc nL s args wG own) (hlocks : meth.locks = false) (hr : meth.sig.returnType = some .boolean) (hn : narrow .boolean (.int v) = .int v) (hB : Bd D cy ad σ s.heap H locs) (hv : v = r0) (hσ : σ = σ0) (hdg : decode cc pc = .ok (.ireturn, 1)) : W p l e R s m args below meth c H locs cells slots (MQ below (CQi D cy ad r0 σ0) args s cells slots (AA ad)) (F0 m pc ls [.int v]) :=
  W.zret F.1 F.2.1 hr hn (fun t ht _ => ⟨⟨v, σ, rfl, ⟨hv, hσ⟩, hB.heap ht⟩, hB.2.F ht⟩) hB.2.2.2 hdg
theorem q_lret {r0 : Int64} {σ0 : Mem} {v : Int64} (F : CallFix p m c cc nL s args wG own) (hlocks : meth.locks = false) (hr : meth.sig.returnType = some .long) (hB : Bd D cy ad σ s.heap H locs) (hv : v = r0) (hσ : σ = σ0) (hdg : decode cc pc = .ok (.lreturn, 1)) : W p l e R s m args below meth c H locs cells slots (MQ below (CQl D cy ad r0 σ0) args s cells slots (AA ad)) (F0 m pc ls [.long v]) :=
  W.lret F.1 F.2.1 hr (fun t ht _ => ⟨⟨v, σ, rfl, ⟨hv, hσ⟩, hB.heap ht⟩, hB.2.F ht⟩) hB.2.2.2 hdg
theorem q_vret {σ0 : Mem} (F : CallFix p m c cc nL s args wG own) (hlocks : meth.locks = false) (hr : meth.sig.returnType = none) (hB : Bd D cy ad σ s.heap H locs) (hσ : σ = σ0) (hdg : decode cc pc = .ok (.return_, 1)) : W p l e R s m args below meth c H locs cells slots (MQ below (CQv D cy ad σ0) args s cells slots (AA ad)) (F0 m pc ls []) :=
  W.vret F.1 F.2.1 hr (fun t ht _ => ⟨⟨σ, rfl, hσ, hB.heap ht⟩, hB.2.F ht⟩) hB.2.2.2 hdg
-- calls
theorem q_goV {y : MethodName} {bytes : ByteArray} {maxL n index : Nat} {ret : Option FieldType} {ws : List Cond} {rm : Room} {C : String} {T : u_T} {N r ci : Nat} {fs : List Value} {As : List Value} {Qc : Array Value → State → Outcome → State → Prop} (F : CallFix p m c cc nL s args wG own) (hE : EV D cy ad ta tb s) (hB : Bd D cy ad σ s.heap H locs) (hM : Met l y ws rm (CP D cy ad ta tb σ (.ref (ad r) :: As)) Qc 0 0 (AA ad)) (cw : CallW R s args own C index y bytes maxL ret ws rm 0 0 n) (hc : vwCl[ci]? = some (C, T, N)) (he : (PO cy ad σ)[r]? = some (ad r, .inr (ci, fs)))
    (hn : As.length = n) (hsize : ls.size = nL) {st : List Value} (hstack : st = As.reverse ++ .ref (ad r) :: rest) (hW : (rest.map fun v => v.category).sum ≤ 8) (hdg : decode cc pc = .ok (.invokevirtual index, 3)) (hf : cells ≤ R.cells ∧ slots ≤ R.slots) :
    va_Run p l e R s m args below meth c H locs cells slots 0 0 (F0 m pc ls st) rest (Qc (Value.ref (ad r) :: As).toArray) (AA ad) :=
  va_runV F hM cw ⟨CP.blind, va_recv hE.1 hB.1 hc he, CP.at hE hB⟩ rfl hn hsize hstack (lv_room hW) hdg hf
theorem q_goS {y : MethodName} {bytes : ByteArray} {maxL n index : Nat} {ret : Option FieldType} {ws : List Cond} {rm : Room} {As : List Value} {Qc : Array Value → State → Outcome → State → Prop} (F : CallFix p m c cc nL s args wG own) (hE : EV D cy ad ta tb s) (hB : Bd D cy ad σ s.heap H locs) (hM : Met l y ws rm (CP D cy ad ta tb σ As) Qc 0 0 (AA ad)) (cw : CallB R s args own index y bytes maxL ret ws rm 0 0 n ∧ (Cond.static y).before args s = true)
    (hn : As.length = n) (hsize : ls.size = nL) {st : List Value} (hstack : st = As.reverse ++ rest) (hW : (rest.map fun v => v.category).sum ≤ 8) (hdg : decode cc pc = .ok (.invokestatic index, 3)) (hf : cells ≤ R.cells ∧ slots ≤ R.slots) :
    va_Run p l e R s m args below meth c H locs cells slots 0 0 (F0 m pc ls st) rest (Qc As.toArray) (AA ad) :=
  va_runS F hM cw ⟨CP.blind, CP.at hE hB⟩ rfl hn hsize hstack (lv_room hW) hdg hf
theorem q_goSN {y : MethodName} {bytes : ByteArray} {maxL n index : Nat} {ret : Option FieldType} {ws : List Cond} {rm : Room} {host : String} {As : List Value} {Qc : Array Value → State → Outcome → State → Prop} (F : CallFix p m c cc nL s args wG own) (hE : EV D cy ad ta tb s) (hB : Bd D cy ad σ s.heap H locs) (hM : Met l y ws rm (CP D cy ad ta tb σ As) Qc 0 0 (AA ad)) (cw : va_CN R s args own index y host bytes maxL ret ws rm 0 0 n ∧ (Cond.static y).before args s = true ∧ True)
    (hn : As.length = n) (hsize : ls.size = nL) {st : List Value} (hstack : st = As.reverse ++ rest) (hW : (rest.map fun v => v.category).sum ≤ 8) (hdg : decode cc pc = .ok (.invokestatic index, 3)) (hf : cells ≤ R.cells ∧ slots ≤ R.slots) :
    va_Run p l e R s m args below meth c H locs cells slots 0 0 (F0 m pc ls st) rest (Qc As.toArray) (AA ad) :=
  va_runSN F hM cw ⟨CP.blind, CP.at hE hB⟩ rfl hn hsize hstack (lv_room hW) hdg hf
theorem q_ci {r0 : Int32} {σ0 : Mem} {st : List Value} {a : Array Value} (hB : Bd D cy ad σ s.heap H locs) (hg : va_Run p l e R s m args below meth c H locs cells slots 0 0 (F0 m pc ls st) rest (CQi D cy ad r0 σ0 a) (AA ad))
    (kk : ∀ (H1 : Heap) (locs1 : List Loc), Bd D cy ad σ0 s.heap H1 locs1 → W p l e R s m args below meth c H1 locs1 cells slots Q (F0 m (pc + 3) ls (.int r0 :: rest))) : W p l e R s m args below meth c H locs cells slots Q (F0 m pc ls st) :=
  va_calli hg hB.2 (fun _ _ h => h) (fun _ h => h) (fun r u t H1 locs1 ht _ hp hq _ _ hS => by
    obtain ⟨rfl, rfl⟩ := hp
    exact kk H1 locs1 ⟨by rw [← ht]; exact hq, hS⟩)
theorem q_cl {r0 : Int64} {σ0 : Mem} {st : List Value} {a : Array Value} (hB : Bd D cy ad σ s.heap H locs) (hg : va_Run p l e R s m args below meth c H locs cells slots 0 0 (F0 m pc ls st) rest (CQl D cy ad r0 σ0 a) (AA ad))
    (kk : ∀ (H1 : Heap) (locs1 : List Loc), Bd D cy ad σ0 s.heap H1 locs1 → W p l e R s m args below meth c H1 locs1 cells slots Q (F0 m (pc + 3) ls (.long r0 :: rest))) : W p l e R s m args below meth c H locs cells slots Q (F0 m pc ls st) :=
  va_calll hg hB.2 (fun _ _ h => h) (fun _ h => h) (fun r u t H1 locs1 ht _ hp hq _ _ hS => by
    obtain ⟨rfl, rfl⟩ := hp
    exact kk H1 locs1 ⟨by rw [← ht]; exact hq, hS⟩)
theorem q_cv {σ0 : Mem} {st : List Value} {a : Array Value} (hB : Bd D cy ad σ s.heap H locs) (hg : va_Run p l e R s m args below meth c H locs cells slots 0 0 (F0 m pc ls st) rest (CQv D cy ad σ0 a) (AA ad))
    (kk : ∀ (H1 : Heap) (locs1 : List Loc), Bd D cy ad σ0 s.heap H1 locs1 → W p l e R s m args below meth c H1 locs1 cells slots Q (F0 m (pc + 3) ls rest)) : W p l e R s m args below meth c H locs cells slots Q (F0 m pc ls st) :=
  va_callv hg hB.2 (fun _ _ h => h) (fun _ h => h) (fun u t H1 locs1 ht _ hp hq _ _ hS => by
    subst hp
    exact kk H1 locs1 ⟨by rw [← ht]; exact hq, hS⟩)
-- statics
theorem q_gF (F : CallFix p m c cc nL s args wG own) (hE : EV D cy ad ta tb s) (hB : Bd D cy ad σ s.heap H locs) {index : Nat} (hlk : Cond.fieldLink own index "BowingBridges" "CARGO_FIRST" "[I" ∈ wG) (hdg : decode cc pc = .ok (.getstatic index, 3))
    (kk : W p l e R s m args below meth c H locs cells slots Q (F0 m (pc + 3) ls (.ref ta :: rest))) : W p l e R s m args below meth c H locs cells slots Q (F0 m pc ls rest) :=
  va_gets F.1 F.2.1 hE.2.2.2.1.1 hB.2 F.2.2.2.1 (F.2.2.2.2 _ hlk) (fun _ h => h) hdg kk
theorem q_gS (F : CallFix p m c cc nL s args wG own) (hE : EV D cy ad ta tb s) (hB : Bd D cy ad σ s.heap H locs) {index : Nat} (hlk : Cond.fieldLink own index "BowingBridges" "CARGO_SECOND" "[I" ∈ wG) (hdg : decode cc pc = .ok (.getstatic index, 3))
    (kk : W p l e R s m args below meth c H locs cells slots Q (F0 m (pc + 3) ls (.ref tb :: rest))) : W p l e R s m args below meth c H locs cells slots Q (F0 m pc ls rest) :=
  va_gets F.1 F.2.1 hE.2.2.2.2.1 hB.2 F.2.2.2.1 (F.2.2.2.2 _ hlk) (fun _ h => h) hdg kk
theorem q_tF (F : CallFix p m c cc nL s args wG own) (hE : EV D cy ad ta tb s) (hB : Bd D cy ad σ s.heap H locs) {i : Int32} (hin : vp_in i 28) (hdg : decode cc pc = .ok (.iaload, 1))
    (kk : W p l e R s m args below meth c H locs cells slots Q (F0 m (pc + 1) ls (.int (cgF i.toNatClampNeg) :: rest))) : W p l e R s m args below meth c H locs cells slots Q (F0 m pc ls (.int i :: .ref ta :: rest)) :=
  va_ti F.1 F.2.1 hE.2.2.2.1.2 hB.2 hin rfl hdg kk
theorem q_tS (F : CallFix p m c cc nL s args wG own) (hE : EV D cy ad ta tb s) (hB : Bd D cy ad σ s.heap H locs) {i : Int32} (hin : vp_in i 28) (hdg : decode cc pc = .ok (.iaload, 1))
    (kk : W p l e R s m args below meth c H locs cells slots Q (F0 m (pc + 1) ls (.int (cgS i.toNatClampNeg) :: rest))) : W p l e R s m args below meth c H locs cells slots Q (F0 m pc ls (.int i :: .ref tb :: rest)) :=
  va_ti F.1 F.2.1 hE.2.2.2.2.2 hB.2 hin rfl hdg kk
end QR
/-- words of one list, all good -/
theorem wG_good : wG.all goodWord = true := by decide +kernel
theorem gd_cons {y : MethodName} {b : ByteArray} {n : Nat} {r : Option FieldType} (hc : Cond.code y b n r ∈ wG) : GoodIn wG (Cond.code y b n r :: wG) := fun w hw => by
  rcases List.mem_cons.mp hw with rfl | h
  · exact ⟨hc, good_of_word (List.all_eq_true.mp wG_good _ hc)⟩
  · exact ⟨h, good_of_word (List.all_eq_true.mp wG_good _ h)⟩
theorem gd_V {own C : String} {index : Nat} {y : MethodName} {b : ByteArray} {n : Nat} {r : Option FieldType} (h1 : Cond.methodLink own index y ∈ wG) (h2 : Cond.instanceMethod y ∈ wG) (h3 : Cond.selects C y y ∈ wG) (h4 : Cond.initialized C ∈ wG) (hc : Cond.code y b n r ∈ wG) : GoodIn wG (wsV own index C y (Cond.code y b n r :: wG)) := by
  refine goodIn_app (goodIn_sub (fun w hw => ?_) ?_) (gd_cons hc)
  · simp only [List.mem_cons, List.not_mem_nil, or_false] at hw
    rcases hw with rfl | rfl | rfl | rfl <;> assumption
  · rfl
theorem gd_S {own : String} {index : Nat} {y : MethodName} {b : ByteArray} {n : Nat} {r : Option FieldType} (h1 : Cond.methodLink own index y ∈ wG) (h2 : Cond.static y ∈ wG) (h4 : Cond.initialized y.cls ∈ wG) (hc : Cond.code y b n r ∈ wG) : GoodIn wG (va_wsS own index y (Cond.code y b n r :: wG)) := by
  refine goodIn_app (goodIn_sub (fun w hw => ?_) ?_) (gd_cons hc)
  · simp only [List.mem_cons, List.not_mem_nil, or_false] at hw
    rcases hw with rfl | rfl | rfl <;> assumption
  · rfl
