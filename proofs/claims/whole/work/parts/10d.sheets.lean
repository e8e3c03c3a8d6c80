/-! 10d: sheet, lose, lay, get, copy -/
abbrev OR : List Nat := [0, 38, 39, 40, 41, 42, 43, 44, 45, 65, 66, 67, 68]
section SHE
variable {σ τ : Mem}
theorem INV.oth (h : INV σ) (Y : MX OR [4] σ τ) (ho : OTH τ) : INV τ := by
  obtain ⟨n0, t0, n1, t1, ns, sb, sm, ng, gt, gk, gb, a1, a2, a3, a4, a5, a6, a7⟩ := h
  exact ⟨n0, t0, n1, t1, ns, sb, sm, ng, gt, gk, gb, a1.fx Y (by decide), a2.fx Y (by decide), a3.fx Y (by decide) (by decide), a4.fx Y (by decide) (by decide), ho, a6.fr Y.toFr (by decide) (by decide) (by decide) (by decide) (by decide), a7.fx Y (by decide)⟩
theorem INV.getO (h : INV σ) : OTH σ := by
  obtain ⟨n0, t0, n1, t1, ns, sb, sm, ng, gt, gk, gb, a1, a2, a3, a4, a5, a6, a7⟩ := h
  exact a5
/-- a finding, by both -/
theorem INV.fnd (h : INV σ) (v : Int32) : INV (ms (ms σ 0 12 v) 64 4 v) := by
  have a5 := h.getO
  have Y : MX [0] [4] σ (ms (ms σ 0 12 v) 64 4 v) := (MX.rf.row (by simp) (by decide)).fld (by simp)
  refine h.oth (Y.wide (by decide) (by decide)) ⟨fun s hs => (a5.1 s hs).fx Y (by decide) (by simp) (by simp) hs, ?_, by rw [Y.2.1 13 (by decide)]; exact a5.2.2.1, by rw [Y.2.1 14 (by decide)]; exact a5.2.2.2⟩
  rw [ms_ne (show (0 : Nat) ≠ 64 by decide), ms_same, upd_s, ms_same, upd_s]
theorem OTH.put {s : Nat} (h : OTH σ) (Y : MX OR [] σ τ) (hs : s < 4) (h0 : τ.1 0 12 = σ.1 0 12) (hc : ∀ r, r ∈ [38, 39, 40, 41, 42, 43, 44, 45] → r ≠ 38 + 2 * s → r ≠ 39 + 2 * s → τ.1 r = σ.1 r) (h65 : ∀ i, i ≠ s → τ.1 65 i = σ.1 65 i ∧ τ.1 66 i = σ.1 66 i) (h67 : ∀ i, (i < 60 * s ∨ 60 * s + 60 ≤ i) → τ.1 67 i = σ.1 67 i) (hS : Sht τ s) : OTH τ := by
  refine ⟨fun u hu => ?_, by rw [h0, Y.2.1 4 (by decide)]; exact h.2.1, by rw [Y.2.1 13 (by decide)]; exact h.2.2.1, by rw [Y.2.1 14 (by decide)]; exact h.2.2.2⟩
  by_cases e : u = s
  · rw [e]; exact hS
  · obtain ⟨f, z, b1, b2, b3, b4, b5, b6⟩ := h.1 u hu
    have e38 : τ.1 (38 + 2 * u) = σ.1 (38 + 2 * u) := hc _ (by simp only [List.mem_cons, List.not_mem_nil, or_false]; omega) (by omega) (by omega)
    have e39 : τ.1 (39 + 2 * u) = σ.1 (39 + 2 * u) := hc _ (by simp only [List.mem_cons, List.not_mem_nil, or_false]; omega) (by omega) (by omega)
    refine ⟨f, z, b1, b2, by rw [e38]; exact b3, by rw [(h65 u e).2]; exact b4, fun i hi => ?_, ?_⟩
    · rw [e39, h67 _ (by omega)]
      exact b5 i hi
    · rw [e38, (h65 u e).1]
      exact b6
theorem headM {τ : Mem} {x y : Int32} {A B : Option (Int32 × Mem)} {Q : Int32 × Mem → Prop} (c1 : 0 ≤ x.toInt ∧ x.toInt < (4 : Nat)) (c2 : 0 ≤ y.toInt ∧ y.toInt < (3 : Nat)) (hq : wp B Q) : wp (bp (f_X10_isSheet τ x) (fun v2 => if v2 = (0 : Int32) then A else bp (f_X10_in τ y.toInt64 (0 : Int64) (2 : Int64)) (fun v5 => if v5 = (0 : Int32) then A else B))) Q := by
  refine wp_bpE isSheet_eq ?_
  rw [if_pos c1]
  refine wp_ie (by decide) (wp_bpE (in0_eq (b := 2) (by decide)) ?_)
  rw [if_pos c2]
  exact wp_ie (by decide) hq
theorem sheetM_loop {s n : Nat} (hs : s < 4) (hn : n ≤ 60) : ∀ (q i : Nat) (τ : Mem), i ≤ n → n < i + q → MX [67] [] σ τ → (∀ j, (j < 60 * s ∨ 60 * s + 60 ≤ j) → τ.1 67 j = σ.1 67 j) → (∀ j, j < i → τ.1 67 (60 * s + j) = 0) → wp (f_X10_sheet_b55 q τ (nI s) (nI n) (nI i)) (fun o => o.1 = nI n ∧ MX [67] [] σ o.2 ∧ (∀ j, (j < 60 * s ∨ 60 * s + 60 ≤ j) → o.2.1 67 j = σ.1 67 j) ∧ ∀ j, j < n → o.2.1 67 (60 * s + j) = 0) := by
  intro q
  induction q with
  | zero => intro i τ h1 h2; omega
  | succ q ih =>
    intro i τ h1 h2 hF ho hz
    rw [f_X10_sheet_b55]
    refine wp_ite (fun c => ?_) (fun c => ?_)
    · have c' := (nI_leI (by omega) (by omega)).mp c
      exact wp_some.mpr ⟨rfl, hF, ho, fun j hj => hz j (by omega)⟩
    · have hi := nI_not_le c (by omega) (by omega)
      have ex : (60 : Int32) * nI s + nI i = nI (60 * s + i) := by rw [nI_lit 60, pk_mul, nI_add]
      rw [ex, nI_clamp (by omega), nI_1]
      refine wp_ckN (by omega) (by omega) (wp_lt (ih (i + 1) _ (by omega) (by omega) (hF.row (by simp) (by decide)) (fun j hj => ?_) (fun j hj => ?_)))
      · rw [ms_same, upd_n (by omega)]
        exact ho j hj
      · rw [ms_same]
        by_cases e : j = i
        · rw [e, upd_s]
        · rw [upd_n (by omega)]
          exact hz j (by omega)
theorem op_sheet (h : INV σ) (x y w : Int32) : wp (f_X9_sheet σ x y w) (fun o => wp (f_X10_sheet o.2 x y w) (fun o2 => o2.1 = o.1 ∧ INV o2.2)) := by
  have a5 := h.getO
  unfold f_X9_sheet
  rw [show (4 : Int32) = nI 4 from rfl, show (3 : Int32) = nI 3 from rfl]
  refine wp_bpE (within_eq (by decide)) ?_
  unfold f_X10_sheet
  by_cases c1 : 0 ≤ x.toInt ∧ x.toInt < (4 : Nat)
  · rw [if_pos c1]
    refine wp_ie (by decide) (wp_bpE (within_eq (by decide)) ?_)
    by_cases c2 : 0 ≤ y.toInt ∧ y.toInt < (3 : Nat)
    · rw [if_pos c2]
      refine wp_ie (by decide) (wp_ite (fun c3 => wp_ite (fun c4 => ?_) (fun c4 => ?_)) (fun c3 => ?_))
      · obtain ⟨s, hs, rfl⟩ := inr c1
        obtain ⟨f, hf, rfl⟩ := inr c2
        have c5 : w.toInt < (61 : Nat) := by
          have h1 := Int32.le_iff_toInt_le.mp c3
          have h2 : (60 : Int32).toInt = 60 := by decide
          omega
        obtain ⟨n, hn, rfl⟩ := inr (n := 61) ⟨Int32.le_iff_toInt_le.mp c4, c5⟩
        rw [nI_clamp (show s < 2 ^ 31 by omega)]
        unfold f_X5_renew
        refine wp_ckN hs (by decide) (wp_bv (wp_bv (wp_mono (fill_wp (by decide)) (fun σ2 g => ?_))))
        refine wp_lt (wp_lt (wp_lt (wp_some.mpr (wp_some.mpr (headM c1 c2 ?_)))))
        refine wp_it c3 (wp_it c4 (wp_ckN hs (by decide) (wp_lt (wp_ckN hs (by decide) (wp_lt ?_)))))
        generalize hτ : ms (ms (ms σ2 (38 + 2 * s) 1 (nI f)) (38 + 2 * s) 2 (nI n)) (38 + 2 * s) 3 0 = τ
        have in38 : 38 + 2 * s ∈ OR := by simp only [List.mem_cons, List.not_mem_nil, or_false]; omega
        have in39 : 38 + 2 * s + 1 ∈ OR := by simp only [List.mem_cons, List.not_mem_nil, or_false]; omega
        have X2 : MX OR [] σ σ2 := (g.1.toX (by simp only [List.mem_singleton]; omega)).wide (fun r hr => by rw [List.mem_singleton.mp hr]; exact in39) (by simp)
        have XT : MX OR [] σ τ := by rw [← hτ]; exact ((X2.row in38 (by omega)).row in38 (by omega)).row in38 (by omega)
        refine wp_mono (sheetM_loop (σ := ms (ms τ 65 s (nI f)) 66 s (nI n)) hs (by omega) 300 0 _ (by omega) (by omega) MX.rf (fun _ _ => rfl) (fun j hj => by omega)) (fun o q => ?_)
        obtain ⟨q1, q2, q3, q4⟩ := q
        have Y : MX OR [] σ o.2 := ((XT.row (by simp) (by decide)).row (by simp) (by decide)).tr (q2.wide (by simp) (by simp))
        have tr : ∀ r, r ≠ 64 → r ≠ 65 → r ≠ 66 → r ≠ 67 → o.2.1 r = τ.1 r := fun r h0 h1 h2 h3 => by rw [q2.1 r h0 (by simp only [List.mem_singleton]; exact h3), ms_ne h2, ms_ne h1]
        have t65 : ∀ i, o.2.1 65 i = upd (τ.1 65) s (nI f) i := fun i => by rw [q2.1 65 (by decide) (by decide), ms_ne (by decide), ms_same]
        have t66 : ∀ i, o.2.1 66 i = upd (τ.1 66) s (nI n) i := fun i => by rw [q2.1 66 (by decide) (by decide), ms_same, ms_ne (by decide)]
        have c65 : τ.1 65 = σ.1 65 := by rw [← hτ, ms_ne (by omega), ms_ne (by omega), ms_ne (by omega), g.1.1 65 (by simp only [List.mem_singleton]; omega)]
        have c66 : τ.1 66 = σ.1 66 := by rw [← hτ, ms_ne (by omega), ms_ne (by omega), ms_ne (by omega), g.1.1 66 (by simp only [List.mem_singleton]; omega)]
        have c67 : τ.1 67 = σ.1 67 := by rw [← hτ, ms_ne (by omega), ms_ne (by omega), ms_ne (by omega), g.1.1 67 (by simp only [List.mem_singleton]; omega)]
        refine ⟨q1, h.oth (Y.wide (by simp) (by simp)) (a5.put Y hs ?_ (fun r hr hr1 hr2 => ?_) (fun i hi => ?_) (fun i hi => ?_) ⟨f, n, hf, by omega, ?_, ?_, fun i hi => ?_, Or.inr ⟨?_, ?_, ?_⟩⟩)⟩
        · rw [tr 0 (by decide) (by decide) (by decide) (by decide), ← hτ, ms_ne (by omega), ms_ne (by omega), ms_ne (by omega), g.1.1 0 (by simp only [List.mem_singleton]; omega)]
        · simp only [List.mem_cons, List.not_mem_nil, or_false] at hr
          rw [tr r (by omega) (by omega) (by omega) (by omega), ← hτ, ms_ne hr1, ms_ne hr1, ms_ne hr1, g.1.1 r (by simp only [List.mem_singleton]; omega)]
        · rw [t65, t66, upd_n hi, upd_n hi, c65, c66]
          exact ⟨rfl, rfl⟩
        · rw [q3 i hi, ms_ne (by decide), ms_ne (by decide), c67]
        · rw [tr _ (by omega) (by omega) (by omega) (by omega), ← hτ, ms_same, upd_n (by decide), ms_same, upd_s]
        · rw [t66, upd_s]
        · rw [q4 i hi, tr _ (by omega) (by omega) (by omega) (by omega), ← hτ, ms_ne (by omega), ms_ne (by omega), ms_ne (by omega), show 39 + 2 * s = 38 + 2 * s + 1 by omega]
          exact g.2 i (by omega)
        · rw [tr _ (by omega) (by omega) (by omega) (by omega), ← hτ, ms_same, upd_s]
        · rw [tr _ (by omega) (by omega) (by omega) (by omega), ← hτ, ms_same, upd_n (by decide), ms_same, upd_n (by decide), ms_same, upd_s]
        · rw [t65, upd_s]
      · unfold f_X9_find
        refine wp_bi (wp_lt (wp_some.mpr (wp_some.mpr (headM c1 c2 (wp_it c3 (wp_ie c4 ?_))))))
        unfold f_X10_finds
        exact wp_bi (wp_lt (wp_some.mpr (wp_some.mpr ⟨rfl, h.fnd 5⟩)))
      · exact wp_some.mpr (headM c1 c2 (wp_ie c3 (wp_some.mpr ⟨rfl, h⟩)))
    · rw [if_neg c2]
      refine wp_it rfl (wp_some.mpr (wp_bpE isSheet_eq ?_))
      rw [if_pos c1]
      refine wp_ie (by decide) (wp_bpE (in0_eq (b := 2) (by decide)) ?_)
      rw [if_neg c2]
      exact wp_it rfl (wp_some.mpr ⟨rfl, h⟩)
  · rw [if_neg c1]
    refine wp_it rfl (wp_some.mpr (wp_bpE isSheet_eq ?_))
    rw [if_neg c1]
    exact wp_it rfl (wp_some.mpr ⟨rfl, h⟩)
theorem op_lose (h : INV σ) (x : Int32) : wp (f_X9_lose σ x) (fun o => wp (f_X10_lose o.2 x) (fun o2 => o2.1 = o.1 ∧ INV o2.2)) := by
  have a5 := h.getO
  unfold f_X9_lose
  rw [show (4 : Int32) = nI 4 from rfl]
  refine wp_bpE (within_eq (by decide)) ?_
  unfold f_X10_lose
  by_cases c : 0 ≤ x.toInt ∧ x.toInt < (4 : Nat)
  · rw [if_pos c]
    obtain ⟨s, hs, rfl⟩ := inr c
    obtain ⟨f, z, hf, hz, e2, e66, hit, hlo⟩ := a5.1 s hs
    refine wp_ie (by decide) (wp_ckN hs (by decide) ?_)
    rw [nI_clamp (show s < 2 ^ 31 by omega)]
    rcases hlo with ⟨l1, l2⟩ | ⟨l1, l2, l3⟩
    · rw [l1]
      unfold f_X9_find
      refine wp_ie (by decide) (wp_bi (wp_lt (wp_some.mpr (wp_some.mpr (wp_bpE isSheet_eq ?_)))))
      rw [if_pos c, ms_ne (show (65 : Nat) ≠ 0 by decide), l2]
      unfold f_X10_finds
      exact wp_ie (by decide) (wp_ckN hs (by decide) (wp_ie (by decide) (wp_bi (wp_lt (wp_some.mpr (wp_some.mpr ⟨rfl, h.fnd 1⟩))))))
    · rw [l1]
      refine wp_it rfl (wp_ckN hs (by decide) (wp_lt (wp_ckN hs (by decide) (wp_some.mpr (wp_bpE isSheet_eq ?_)))))
      rw [if_pos c, ms_ne (show 65 ≠ 38 + 2 * s by omega), l3]
      have in38 : 38 + 2 * s ∈ OR := by simp only [List.mem_cons, List.not_mem_nil, or_false]; omega
      have Y : MX OR [] σ (ms (ms σ (38 + 2 * s) 3 1) 65 s (-1 : Int32)) := (MX.rf.row in38 (by omega)).row (by simp) (by decide)
      refine wp_ie (by decide) (wp_ckN hs (by decide) (wp_it (nI_pos' (by omega)) (wp_ckN hs (by decide) (wp_lt (wp_ckN hs (by decide) (wp_some.mpr ⟨?_, h.oth (Y.wide (by simp) (by simp)) (a5.put Y hs ?_ (fun r hr hr1 hr2 => ?_) (fun i hi => ?_) (fun i hi => ?_) ⟨f, z, hf, hz, ?_, ?_, fun i hi => ?_, Or.inl ⟨?_, ?_⟩⟩)⟩))))))
      · rw [ms_ne (show (66 : Nat) ≠ 65 by decide), ms_ne (show 66 ≠ 38 + 2 * s by omega), e66, ms_same, upd_n (by decide), e2]
      · rw [ms_ne (by decide), ms_ne (by omega)]
      · simp only [List.mem_cons, List.not_mem_nil, or_false] at hr
        rw [ms_ne (by omega), ms_ne hr1]
      · rw [ms_same, upd_n hi, ms_ne (show 65 ≠ 38 + 2 * s by omega), ms_ne (show (66 : Nat) ≠ 65 by decide), ms_ne (show 66 ≠ 38 + 2 * s by omega)]
        exact ⟨rfl, rfl⟩
      · rw [ms_ne (by decide), ms_ne (by omega)]
      · rw [ms_ne (by omega), ms_same, upd_n (by decide)]
        exact e2
      · rw [ms_ne (by decide), ms_ne (by omega)]
        exact e66
      · rw [ms_ne (show 39 + 2 * s ≠ 65 by omega), ms_ne (show 39 + 2 * s ≠ 38 + 2 * s by omega), ms_ne (show (67 : Nat) ≠ 65 by decide), ms_ne (show 67 ≠ 38 + 2 * s by omega)]
        exact hit i hi
      · rw [ms_ne (by omega), ms_same, upd_s]
      · rw [ms_same, upd_s]
  · rw [if_neg c]
    refine wp_it rfl (wp_some.mpr (wp_bpE isSheet_eq ?_))
    rw [if_neg c]
    exact wp_it rfl (wp_some.mpr ⟨rfl, h⟩)
/-- what is wrong with an item: 0 nothing; class and reference -/
theorem item_both {s f : Nat} {i : Int32} (h : INV σ) (hs : s < 4) (hf : f < 3) : ∃ v : Int32, f_X9_itemFinding σ (38 + 2 * s) (nI f) i = some v ∧ ((v = 0 ∧ f_X10_lacks σ (nI s) (nI f) i = some (0, σ) ∧ σ.1 (38 + 2 * s) 1 = nI f ∧ ∃ z j, z ≤ 60 ∧ j < z ∧ i = nI j ∧ σ.1 66 s = nI z ∧ σ.1 (38 + 2 * s) 2 = nI z) ∨ (¬ v = 0 ∧ ¬ (-10 : Int32) - v = 0 ∧ f_X10_lacks (ms σ 0 12 v) (nI s) (nI f) i = some ((-10 : Int32) - v, ms (ms σ 0 12 v) 64 4 v) ∧ f_X10_lacks σ (nI s) (nI f) i = some ((-10 : Int32) - v, ms σ 64 4 v))) := by
  obtain ⟨f', z, hf', hz, e2, e66, hit, hlo⟩ := h.getO.1 s hs
  unfold f_X9_itemFinding f_X10_lacks f_X10_finds
  simp only [nI_clamp (show s < 2 ^ 31 by omega), ms_ne (show (65 : Nat) ≠ 0 by decide), ms_ne (show (66 : Nat) ≠ 0 by decide), e2, e66]
  rcases hlo with ⟨l1, l2⟩ | ⟨l1, l2, l3⟩
  · refine ⟨1, by rw [l1, if_neg (by decide)], Or.inr ⟨by decide, by decide, ?_, ?_⟩⟩
    · rw [ck_N hs (by decide), l2, if_neg (by decide)]; rfl
    · rw [ck_N hs (by decide), l2, if_neg (by decide)]; rfl
  · have g0 : (0 : Int32) ≤ nI f' := nI_pos' (by omega)
    simp only [l1, l2, l3, ck_N hs (show 4 < 2 ^ 31 by decide), if_pos g0, if_true]
    by_cases c : f' = f
    · subst c
      simp only [if_true, within_eq (show z < 2 ^ 31 by omega), in_eq, m1_toInt (show z < 1000 by omega), bp_some]
      by_cases ci : 0 ≤ i.toInt ∧ i.toInt < z
      · obtain ⟨j, hj, rfl⟩ := inr ci
        simp only [if_pos ci, if_pos (show 0 ≤ (nI j).toInt ∧ (nI j).toInt ≤ (z : Int) - 1 by omega)]
        exact ⟨0, rfl, Or.inl ⟨rfl, rfl, trivial, z, j, hz, hj, rfl, rfl, rfl⟩⟩
      · simp only [if_neg ci, if_neg (show ¬ (0 ≤ i.toInt ∧ i.toInt ≤ (z : Int) - 1) by omega)]
        exact ⟨2, rfl, Or.inr ⟨by decide, by decide, rfl, rfl⟩⟩
    · have c' : ¬ nI f' = nI f := fun q => c ((nI_eq (by omega) (by omega)).mp q)
      simp only [if_neg c']
      exact ⟨3, rfl, Or.inr ⟨by decide, by decide, rfl, rfl⟩⟩
theorem put_both {s f j z : Nat} {v : Int32} (h : INV σ) (hs : s < 4) (hf : f < 3) (hz : z ≤ 60) (hj : j < z) (e1 : σ.1 (38 + 2 * s) 1 = nI f) (e2 : σ.1 (38 + 2 * s) 2 = nI z) : ∃ u : Int32, f_X5_put σ (38 + 2 * s) (nI j) v = some (ms σ (38 + 2 * s + 1) j u) ∧ (∀ τ, f_X10_cut τ (nI f) v = some u) ∧ INV (ms (ms σ (38 + 2 * s + 1) j u) 67 (60 * s + j) u) := by
  have keep : ∀ u : Int32, INV (ms (ms σ (38 + 2 * s + 1) j u) 67 (60 * s + j) u) := by
    intro u
    have a5 := h.getO
    obtain ⟨f', z', hf', hz', e2', e66, hit, hlo⟩ := a5.1 s hs
    have ez : z' = z := (nI_eq (by omega) (by omega)).mp (e2'.symm.trans e2)
    subst ez
    have in39 : 38 + 2 * s + 1 ∈ OR := by simp only [List.mem_cons, List.not_mem_nil, or_false]; omega
    have Y : MX OR [] σ (ms (ms σ (38 + 2 * s + 1) j u) 67 (60 * s + j) u) := (MX.rf.row in39 (by omega)).row (by simp) (by decide)
    refine h.oth (Y.wide (by simp) (by simp)) (a5.put Y hs ?_ (fun r hr hr1 hr2 => ?_) (fun i hi => ?_) (fun i hi => ?_) ⟨f', z', hf', hz', ?_, ?_, fun i hi => ?_, ?_⟩)
    · rw [ms_ne (by decide), ms_ne (by omega)]
    · simp only [List.mem_cons, List.not_mem_nil, or_false] at hr
      rw [ms_ne (by omega), ms_ne (by omega)]
    · rw [ms_ne (show (65 : Nat) ≠ 67 by decide), ms_ne (show 65 ≠ 38 + 2 * s + 1 by omega), ms_ne (show (66 : Nat) ≠ 67 by decide), ms_ne (show 66 ≠ 38 + 2 * s + 1 by omega)]
      exact ⟨rfl, rfl⟩
    · rw [ms_same, upd_n (by omega), ms_ne (by omega)]
    · rw [ms_ne (by omega), ms_ne (by omega)]
      exact e2'
    · rw [ms_ne (by decide), ms_ne (by omega)]
      exact e66
    · rw [ms_ne (show 39 + 2 * s ≠ 67 by omega), show 39 + 2 * s = 38 + 2 * s + 1 by omega, ms_same, ms_same, ms_ne (show 67 ≠ 38 + 2 * s + 1 by omega)]
      by_cases e : i = j
      · rw [e, upd_s, upd_s]
      · rw [upd_n e, upd_n (by omega), show 38 + 2 * s + 1 = 39 + 2 * s by omega]
        exact hit i hi
    · rw [ms_ne (show 38 + 2 * s ≠ 67 by omega), ms_ne (show 38 + 2 * s ≠ 38 + 2 * s + 1 by omega), ms_ne (show (65 : Nat) ≠ 67 by decide), ms_ne (show 65 ≠ 38 + 2 * s + 1 by omega)]
      exact hlo
  unfold f_X5_put f_X10_cut
  rw [e1, ck_N (by omega) (by decide), ck_N (by omega) (by decide), ck_N (by omega) (by decide), nI_clamp (show j < 2 ^ 31 by omega)]
  rcases (show f = 0 ∨ f = 1 ∨ f = 2 by omega) with rfl | rfl | rfl
  · exact ⟨v.toInt8.toInt32, rfl, fun _ => rfl, keep _⟩
  · exact ⟨v.toInt16.toInt32, rfl, fun _ => rfl, keep _⟩
  · exact ⟨v, rfl, fun _ => rfl, keep _⟩
theorem op_lay (h : INV σ) (x y i v : Int32) : wp (f_X9_lay σ x y i v) (fun o => wp (f_X10_lay o.2 x y i v) (fun o2 => o2.1 = o.1 ∧ INV o2.2)) := by
  unfold f_X9_lay
  rw [show (4 : Int32) = nI 4 from rfl, show (3 : Int32) = nI 3 from rfl]
  refine wp_bpE (within_eq (by decide)) ?_
  unfold f_X10_lay
  by_cases c1 : 0 ≤ x.toInt ∧ x.toInt < (4 : Nat)
  · rw [if_pos c1]
    refine wp_ie (by decide) (wp_bpE (within_eq (by decide)) ?_)
    by_cases c2 : 0 ≤ y.toInt ∧ y.toInt < (3 : Nat)
    · rw [if_pos c2]
      obtain ⟨s, hs, rfl⟩ := inr c1
      obtain ⟨f, hf, rfl⟩ := inr c2
      rw [nI_clamp (show s < 2 ^ 31 by omega)]
      obtain ⟨u, hu, hcase⟩ := item_both (i := i) h hs hf
      refine wp_ie (by decide) (wp_ckN hs (by decide) (wp_bpE hu ?_))
      rcases hcase with ⟨rfl, q1, q2, z, j, hz, hj, rfl, e66, e2⟩ | ⟨q0, q1, q2, q3⟩
      · obtain ⟨w, w1, w2, w3⟩ := put_both (v := v) h hs hf hz hj q2 e2
        refine wp_it rfl (wp_ckN hs (by decide) ?_)
        rw [w1]
        have ex : (60 : Int32) * nI s + nI j = nI (60 * s + j) := by rw [nI_lit 60, pk_mul, nI_add]
        refine wp_bv (wp_some.mpr (wp_some.mpr (headM c1 c2 ?_)))
        have hl : f_X10_lacks (ms σ (38 + 2 * s + 1) j w) (nI s) (nI f) (nI j) = some (0, ms σ (38 + 2 * s + 1) j w) := by
          unfold f_X10_lacks at q1 ⊢
          rw [nI_clamp (show s < 2 ^ 31 by omega)] at q1 ⊢
          rw [ms_ne (show 65 ≠ 38 + 2 * s + 1 by omega), ms_ne (show 66 ≠ 38 + 2 * s + 1 by omega), ck_N hs (by decide)]
          rw [ck_N hs (by decide)] at q1
          have g65 : (0 : Int32) ≤ σ.1 65 s ∧ σ.1 65 s = nI f := by
            by_cases z1 : (0 : Int32) ≤ σ.1 65 s
            · rw [if_pos z1, ck_N hs (by decide)] at q1
              by_cases z2 : σ.1 65 s = nI f
              · exact ⟨z1, z2⟩
              · rw [if_neg z2] at q1
                exact absurd (congrArg Prod.fst (Option.some.inj q1)) (show ¬ ((-10 : Int32) - 3 = 0) by decide)
            · rw [if_neg z1] at q1
              exact absurd (congrArg Prod.fst (Option.some.inj q1)) (show ¬ ((-10 : Int32) - 1 = 0) by decide)
          rw [if_pos g65.1, ck_N hs (by decide), if_pos g65.2, ck_N hs (by decide), in_eq, bp_some, e66, m1_toInt (by omega), nI_toInt (by omega), if_pos (show (0 : Int) ≤ (j : Int) ∧ (j : Int) ≤ (z : Int) - 1 by omega)]
          rfl
        rw [hl, bi_some, w2, ex, nI_clamp (show 60 * s + j < 2 ^ 31 by omega)]
        exact wp_it rfl (wp_bpE rfl (wp_ckN (by omega) (by omega) (wp_lt (wp_some.mpr ⟨rfl, w3⟩))))
      · unfold f_X9_find
        refine wp_ie q0 (wp_bi (wp_lt (wp_some.mpr (wp_some.mpr (headM c1 c2 ?_)))))
        rw [q2, bi_some]
        exact wp_ie q1 (wp_some.mpr ⟨rfl, h.fnd u⟩)
    · rw [if_neg c2]
      refine wp_it rfl (wp_some.mpr (wp_bpE isSheet_eq ?_))
      rw [if_pos c1]
      refine wp_ie (by decide) (wp_bpE (in0_eq (b := 2) (by decide)) ?_)
      rw [if_neg c2]
      exact wp_it rfl (wp_some.mpr ⟨rfl, h⟩)
  · rw [if_neg c1]
    refine wp_it rfl (wp_some.mpr (wp_bpE isSheet_eq ?_))
    rw [if_neg c1]
    exact wp_it rfl (wp_some.mpr ⟨rfl, h⟩)
theorem op_get (h : INV σ) (x y i : Int32) : wp (f_X9_get σ x y i) (fun o => wp (f_X10_get o.2 x y i) (fun o2 => o2.1 = o.1 ∧ INV o2.2)) := by
  unfold f_X9_get f_X9_get_b16
  rw [show (4 : Int32) = nI 4 from rfl, show (3 : Int32) = nI 3 from rfl]
  refine wp_bpE (within_eq (by decide)) ?_
  unfold f_X10_get f_X10_get_b29
  by_cases c1 : 0 ≤ x.toInt ∧ x.toInt < (4 : Nat)
  · rw [if_pos c1]
    refine wp_ie (by decide) (wp_bpE (within_eq (by decide)) ?_)
    by_cases c2 : 0 ≤ y.toInt ∧ y.toInt < (3 : Nat)
    · rw [if_pos c2]
      obtain ⟨s, hs, rfl⟩ := inr c1
      obtain ⟨f, hf, rfl⟩ := inr c2
      rw [nI_clamp (show s < 2 ^ 31 by omega)]
      obtain ⟨u, hu, hcase⟩ := item_both (i := i) h hs hf
      refine wp_ie (by decide) (wp_ckN hs (by decide) (wp_bpE hu ?_))
      rcases hcase with ⟨rfl, q1, q2, z, j, hz, hj, rfl, e66, e2⟩ | ⟨q0, q1, q2, q3⟩
      · rw [nI_clamp (show j < 2 ^ 31 by omega)]
        refine wp_it rfl (wp_ckN hs (by decide) (wp_ckN (by omega) (by decide) (wp_some.mpr (headM c1 c2 ?_))))
        have ex : (60 : Int32) * nI s + nI j = nI (60 * s + j) := by rw [nI_lit 60, pk_mul, nI_add]
        rw [q1, bi_some, ex, nI_clamp (show 60 * s + j < 2 ^ 31 by omega)]
        refine wp_it rfl (wp_ckN (by omega) (by omega) (wp_some.mpr ⟨?_, h⟩))
        obtain ⟨f', z', hf', hz', e2', e66', hit, hlo⟩ := h.getO.1 s hs
        have ez : z' = z := (nI_eq (by omega) (by omega)).mp (e2'.symm.trans e2)
        subst ez
        show σ.1 67 (60 * s + j) = σ.1 (38 + 2 * s + 1) j
        rw [show 38 + 2 * s + 1 = 39 + 2 * s by omega]
        exact (hit j hj).symm
      · refine wp_ie q0 (wp_lt (wp_some.mpr (headM c1 c2 ?_)))
        rw [q2, bi_some]
        exact wp_ie q1 (wp_some.mpr ⟨rfl, h.fnd u⟩)
    · rw [if_neg c2]
      refine wp_it rfl (wp_some.mpr (wp_bpE isSheet_eq ?_))
      rw [if_pos c1]
      refine wp_ie (by decide) (wp_bpE (in0_eq (b := 2) (by decide)) ?_)
      rw [if_neg c2]
      exact wp_it rfl (wp_some.mpr ⟨rfl, h⟩)
  · rw [if_neg c1]
    refine wp_it rfl (wp_some.mpr (wp_bpE isSheet_eq ?_))
    rw [if_neg c1]
    exact wp_it rfl (wp_some.mpr ⟨rfl, h⟩)
end SHE
