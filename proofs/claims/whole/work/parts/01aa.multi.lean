/-! 01aa: rows of rows, made at once (multianewarray) -/
theorem ar_congr {c : ClassId} {N : Nat} {f g : Nat → Value} (h : ∀ j, j < N → f j = g j) : arrV c N f = arrV c N g := by
  unfold arrV
  have : (fun j : Fin N => f j.val) = (fun j : Fin N => g j.val) := funext fun j => h j.val j.isLt
  rw [this]
theorem mu_outer (c : ClassId) (N h0 : Nat) : ∀ i : Nat, Jvm.Free.Multi.outerC c N h0 i = arrV c N (fun j => va_rf (if j < i then some (h0 + 1 + j) else none))
  | 0 => by
    show ({ cls := c, slots := Array.replicate N .null, vm := .none } : Cell) = _
    rw [arrV_new]
    refine congrArg (arrV c N) (funext fun j => ?_)
    simp [va_rf]
  | i + 1 => by
    show (Jvm.Free.Multi.outerC c N h0 i).setSlot i (.ref (h0 + 1 + i)) = _
    rw [mu_outer c N h0 i, arrV_store]
    refine congrArg (arrV c N) (funext fun j => ?_)
    by_cases e : j = i
    · subst e
      simp [updV, va_rf]
    · by_cases h : j < i
      · simp [updV, e, h, Nat.lt_succ_of_lt h]
      · simp [updV, e, h, show ¬ j < i + 1 by omega]
section MUL
variable {p : Program} {l : Launch} {e : Env} {R : Room} {s : State} {m : MethodId} {args : Array Value} {below : List Frame} {meth : Method} {c : Code} {H : Heap} {locs : List Loc} {cells slots : Nat} {Q : State → Prop}
variable {cc : ByteArray} {pc : Nat} {ls : Array Slot} {rest : List Value} {D : va_G} {cl : List vw_C} {A : Nat → Prop} {ws : va_W} {H0 : Heap}
theorem mu_grid (hexec : p.tables.exec = Jvm.exec) (hb : c.code = cc) {own : String} {index : Nat} {cI cG : ClassId} (hown : s.vm.findClass own = some m.cls) (hclink : (Cond.classLink own index ("[" ++ (FieldType.array .int).toString)).before args s = true) (hover : (Cond.arrayOver (.array .int)).before args s = true) (harr : (Cond.arrayClass .int).before args s = true)
    (hcI : s.vm.findClass (FieldType.array .int).toString = some cI) (hcG : s.vm.findClass ("[" ++ (FieldType.array .int).toString) = some cG) (hP : va_P D cl ws H) (hD : va_D A ws) (hS : va_S A H0 H locs) (hA : ∀ q, H0.size ≤ q → A q)
    {n k : Int32} {N' K' : Nat} {z : vp_A} (hn : ¬ n < 0) (hk : ¬ k < 0) (hN : n.toNatClampNeg = N') (hM : k.toNatClampNeg = K') (hb1 : N' * 4 ≤ 536870912) (hb2 : K' * componentBytes .int ≤ 536870912) (hb3 : K' ≤ 536870912) (hcells : cells + (1 + N') ≤ R.cells) (hslots : slots + (N' + N' * K') ≤ R.slots)
    (hz : ∀ c : ClassId, Jvm.Free.Multi.innerC c K' (defaultValue .int) = vp_cell c z) (hdg : decode cc pc = .ok (.multianewarray index 2, 4))
    (kk : ∀ (q : Nat) (r : Nat → Nat) (H1 : Heap), va_P D cl (ws ++ ((q, .inl (cG, N', .inr (.inr (.inr (.inr (fun i => some (r i))))))) :: (List.range N').map (fun i => (r i, .inl (cI, z))))) H1 → va_D A (ws ++ ((q, .inl (cG, N', .inr (.inr (.inr (.inr (fun i => some (r i))))))) :: (List.range N').map (fun i => (r i, .inl (cI, z))))) → va_S A H0 H1 locs →
      W p l e R s m args below meth c H1 locs (cells + 1 + N') (slots + N' + N' * K') Q (F0 m (pc + 4) ls (.ref q :: rest))) : W p l e R s m args below meth c H locs cells slots Q (F0 m pc ls (.int k :: .int n :: rest)) := by
  subst hN
  subst hM
  intro T hT Xs
  obtain ⟨vm₁, cA, comp, -, fA, fC, hO, -, X', step⟩ := Xs.multianewarray2F hexec hown hclink hover harr (g := F0 m pc ls (.int k :: .int n :: rest)) rfl (by rw [hb]; exact hdg) rfl hn hk hb1 hb2 hb3 rfl rfl hcells hslots
  cases hcI.symm.trans fC
  cases hcG.symm.trans fA
  generalize hF : Jvm.Free.Multi.fill (T.setVm vm₁) cG cI n.toNatClampNeg k.toNatClampNeg (defaultValue .int) n.toNatClampNeg = F at X' step
  have hTh : (T.setVm vm₁).heap = H := hT
  obtain ⟨f1, f2, -, -⟩ := Jvm.Free.Multi.fill_facts (T.setVm vm₁) cG cI n.toNatClampNeg k.toNatClampNeg (defaultValue .int) n.toNatClampNeg
  rw [hF, hTh] at f1 f2
  have hold : ∀ x : Nat, x < H.size → F.heap[x]? = H[x]? := fun x hx => by
    have := Jvm.Free.Multi.fill_old (T.setVm vm₁) cG cI n.toNatClampNeg k.toNatClampNeg (defaultValue .int) (a := x) (by rw [hTh]; exact hx) n.toNatClampNeg
    rw [hF, hTh] at this
    exact this
  have hrow : ∀ j : Nat, j < n.toNatClampNeg → F.heap[H.size + 1 + j]? = some (vp_cell cI z) := fun j hj => by
    have := Jvm.Free.Multi.fill_inner (T.setVm vm₁) cG cI n.toNatClampNeg k.toNatClampNeg (defaultValue .int) n.toNatClampNeg j hj
    rw [hF, hTh, hz] at this
    exact this
  have hout : Jvm.Free.Multi.outerC cG n.toNatClampNeg H.size n.toNatClampNeg = vp_cell cG (n.toNatClampNeg, .inr (.inr (.inr (.inr (fun i => some (H.size + 1 + i)))))) := by
    rw [vp_cell_q, mu_outer]
    exact ar_congr fun j hj => by rw [if_pos hj]
  rw [hout] at f2
  have hP1 : va_P D cl (ws ++ ((H.size, .inl (cG, n.toNatClampNeg, .inr (.inr (.inr (.inr (fun i => some (H.size + 1 + i))))))) :: (List.range n.toNatClampNeg).map (fun i => (H.size + 1 + i, .inl (cI, z))))) F.heap := (hP.kept (fun k9 x hx => hold x.1 ((hP k9 x hx).lt))).app (fun k9 x hx => by
    rcases List.mem_cons.mp (List.mem_of_getElem? hx) with rfl | h
    · exact f2
    · obtain ⟨i, hi, rfl⟩ := List.mem_map.mp h
      exact hrow i (List.mem_range.mp hi))
  have hr : ∀ (k9 : Nat) (x : Nat × va_E), (((H.size, .inl (cG, n.toNatClampNeg, .inr (.inr (.inr (.inr (fun i => some (H.size + 1 + i))))))) :: (List.range n.toNatClampNeg).map (fun i => (H.size + 1 + i, .inl (cI, z)))) : va_W)[k9]? = some x → x.1 = H.size + k9 := fun k9 x hx => by
    cases k9 with
    | zero => cases hx; rfl
    | succ j =>
      rw [List.getElem?_cons_succ, List.getElem?_map] at hx
      by_cases h9 : j < n.toNatClampNeg
      · rw [List.getElem?_range h9] at hx
        cases hx
        show H.size + 1 + j = _
        omega
      · have hn0 : (List.range n.toNatClampNeg)[j]? = none := List.getElem?_eq_none (by rw [List.length_range]; omega)
        rw [hn0] at hx
        cases hx
  have hD1 : va_D A (ws ++ ((H.size, .inl (cG, n.toNatClampNeg, .inr (.inr (.inr (.inr (fun i => some (H.size + 1 + i))))))) :: (List.range n.toNatClampNeg).map (fun i => (H.size + 1 + i, .inl (cI, z))))) := by
    refine hD.app ⟨fun i j x y hi hj hxy => ?_, fun k9 x hx => hA _ ?_⟩ (fun i j x y hx hy => ?_)
    · have := hr _ _ hi
      have := hr _ _ hj
      omega
    · have := hr _ _ hx
      have := hS.1
      omega
    · have := (hP i x hx).lt
      have := hr _ _ hy
      omega
  obtain ⟨t2, a1, b1⟩ := kk H.size (fun i => H.size + 1 + i) F.heap hP1 hD1 ⟨Nat.le_trans hS.1 (by omega), fun x h1 h2 => (hold x (Nat.lt_of_lt_of_le h1 hS.1)).trans (hS.2.1 x h1 h2), hS.2.2⟩ F rfl X'
  exact ⟨t2, step t2 (by rw [hT]; exact a1), b1⟩
end MUL
