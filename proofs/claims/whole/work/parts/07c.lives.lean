/-! 07c: the reference's steps are the steps as numbers -/
theorem m1_toInt {a : Nat} (h : a < 1000) : (nI a - 1).toInt = (a : Int) - 1 := by
  cases a with
  | zero => decide
  | succ a =>
    rw [nI_pred, nI_toInt (by omega)]
    omega
theorem in_eq {σ : Mem} {x y : Int32} : f_X10_in σ x.toInt64 (0 : Int64) y.toInt64 = some (if 0 ≤ x.toInt ∧ x.toInt ≤ y.toInt then 1 else 0) := by
  unfold f_X10_in
  have h1 : (lg_cmp x.toInt64 (0 : Int64) < 0) ↔ x.toInt < 0 := by
    rw [lg_cmp_lt, Int64.lt_iff_toInt_lt, Int32.toInt_toInt64]
    exact Iff.rfl
  have h2 : (0 < lg_cmp x.toInt64 y.toInt64) ↔ y.toInt < x.toInt := by
    rw [lg_cmp_gt, Int64.lt_iff_toInt_lt, Int32.toInt_toInt64, Int32.toInt_toInt64]
  by_cases c1 : x.toInt < 0
  · rw [if_pos (h1.mpr c1), if_neg (by omega)]
  · rw [if_neg (fun q => c1 (h1.mp q))]
    by_cases c2 : y.toInt < x.toInt
    · rw [if_pos (h2.mpr c2), if_neg (by omega)]
    · rw [if_neg (fun q => c2 (h2.mp q)), if_pos (by omega)]
/-- the first that waits, of the steps before t, and in step t of the boats before j -/
def FIj (σ : Mem) (lf : Nat → Nat → Bool) (nk P : Nat) (st : Nat → Nat) (t j : Nat) : Prop :=
  (σ.1 64 19 = (-1 : Int32) ∧ σ.1 64 20 = (-1 : Int32) ∧ (∀ u, u < t → ∀ k, k < nk → wat lf nk P st u k = false) ∧ ∀ k, k < j → wat lf nk P st t k = false) ∨
  ∃ u k, ((u < t ∧ k < nk) ∨ (u = t ∧ k < j)) ∧ σ.1 64 19 = nI u ∧ σ.1 64 20 = nI k ∧ wat lf nk P st u k = true ∧ (∀ i, i < k → wat lf nk P st u i = false) ∧ ∀ v, v < u → ∀ i, i < nk → wat lf nk P st v i = false
theorem FIj.next {σ : Mem} {lf : Nat → Nat → Bool} {nk P t : Nat} {st : Nat → Nat} (h : FIj σ lf nk P st t nk) : FIj σ lf nk P st (t + 1) 0 := by
  rcases h with ⟨a1, a2, a3, a4⟩ | ⟨u, k, b1, b2⟩
  · refine Or.inl ⟨a1, a2, fun u hu k hk => ?_, fun k hk => by omega⟩
    by_cases c : u = t
    · rw [c]; exact a4 k hk
    · exact a3 u (by omega) k hk
  · exact Or.inr ⟨u, k, Or.inl (by rcases b1 with z | z <;> omega), b2⟩
def Mwt (σ : Mem) (nk : Nat) (w : Nat → Nat) : Prop := ∀ k, k < nk → σ.1 77 k = nI (w k)
theorem Mpl.congr {σ : Mem} {nk : Nat} {p q : Nat → Nat} (h : Mpl σ nk p) (e : ∀ k, k < nk → p k = q k) : Mpl σ nk q := fun k hk => by rw [← e k hk]; exact h k hk
theorem Mwh.congr {σ : Mem} {nk P : Nat} {p q : Nat → Nat → Nat} (h : Mwh σ nk P p) (e : ∀ i k, i < P → k < nk → p i k = q i k) : Mwh σ nk P q := fun i k hi hk => by rw [← e i k hi hk]; exact h i k hi hk
theorem Msl.congr {σ : Mem} {nk P : Nat} {p q : Nat → Nat → Bool} (h : Msl σ nk P p) (e : ∀ i k, i < P → k < nk → p i k = q i k) : Msl σ nk P q := fun i k hi hk => by rw [← e i k hi hk]; exact h i k hi hk
theorem Mwt.congr {σ : Mem} {nk : Nat} {p q : Nat → Nat} (h : Mwt σ nk p) (e : ∀ k, k < nk → p k = q k) : Mwt σ nk q := fun k hk => by rw [← e k hk]; exact h k hk
section LIVES
variable {lf : Nat → Nat → Bool} {nk P t : Nat} {st pos X w : Nat → Nat} {pa : Nat → Nat → Nat} {sl : Nat → Nat → Bool} {σ : Mem}
theorem starts_loop {Q : Mem → Prop} (ht : t < 100) (hk : ∀ τ : Mem, MF σ τ → (∀ r, r ∈ [75, 76, 77] → τ.1 r = σ.1 r) → τ.1 64 = σ.1 64 → Mpl τ nk (sX st t pos) → wp (f_X10_step_b60 300 τ (nI t) (nI P - 1)) Q) :
    ∀ (m j : Nat) (τ : Mem), j ≤ nk → nk < j + m → MS τ lf nk P st → MF σ τ → (∀ r, r ∈ [75, 76, 77] → τ.1 r = σ.1 r) → τ.1 64 = σ.1 64 → Mpl τ nk (fun k => if k < j then sX st t pos k else pos k) → wp (f_X10_step_b7 m τ (nI t) (nI j)) Q := by
  intro m
  induction m with
  | zero => intro j τ h1 h2; omega
  | succ m ih =>
    intro j τ h1 h2 hS hF hR h64 hp
    obtain ⟨hP8, hn8, e9, epl, -, hst⟩ := hS.at
    rw [f_X10_step_b7, e9]
    refine wp_ite (fun c => ?_) (fun c => ?_)
    · rw [nI_leI (by omega) (by omega)] at c
      refine wp_bpE epl (hk τ hF hR h64 (hp.congr (fun k hk => ?_)))
      rw [if_pos (by omega)]
    · have hj := nI_not_le c (by omega) (by omega)
      obtain ⟨es, hs10⟩ := hst j hj
      have e7 : (7 : Int32) * nI j + (6 : Int32) = nI (7 * j + 6) := by rw [nI_lit 7, pk_mul, nI_lit 6, nI_add]
      rw [e7]
      refine wp_ckN (by omega) (by omega) ?_
      rw [nI_clamp (by omega), es, nI_clamp (by omega)]
      have go : ∀ y : Int32, y = nI (sX st t pos j) - 1 → wp (f_X10_step_b46 (f_X10_step_b7 m) τ (nI t) (nI j) y (nI j)) Q := by
        intro y hy
        unfold f_X10_step_b46
        rw [nI_1, nI_clamp (by omega)]
        refine wp_ckN (by omega) (by omega) (wp_lt ?_)
        have f2 : MF τ (ms τ 74 j y) := MF.rf.row (by simp)
        refine ih (j + 1) _ (by omega) (by omega) (hS.fr f2) (hF.tr f2) (fun r hr => ?_) ?_ (fun k hk => ?_)
        · rw [ms_ne (show r ≠ 74 by simp only [List.mem_cons, List.not_mem_nil, or_false] at hr; omega)]
          exact hR r hr
        · rw [ms_ne (by decide)]
          exact h64
        · rw [ms_same]
          dsimp only
          by_cases e : k = j
          · rw [e, upd_s, if_pos (by omega), hy]
          · rw [upd_n e, hp k hk]
            dsimp only
            by_cases e2 : k < j
            · rw [if_pos e2, if_pos (by omega)]
            · rw [if_neg e2, if_neg (by omega)]
      refine wp_ite (fun c => ?_) (fun c => ?_)
      · rw [nI_eq (by omega) (by omega)] at c
        refine go 0 ?_
        unfold sX
        rw [if_pos c]
        rfl
      · rw [nI_eq (by omega) (by omega)] at c
        refine wp_ckN (by omega) (by omega) (go _ ?_)
        rw [hp j hj]
        dsimp only
        unfold sX
        rw [if_neg (Nat.lt_irrefl _), if_neg c]
theorem places_loop {Q : Mem → Prop} (ht : t < 100) (hX : ∀ k, k < nk → X k < 90) (hk : ∀ τ : Mem, MF σ τ → τ.1 77 = σ.1 77 → τ.1 64 19 = σ.1 64 19 → τ.1 64 20 = σ.1 64 20 → Mpl τ nk (pJ lf nk P X 0) → Mwh τ nk P (paJ lf nk P X t pa 0) → Msl τ nk P (slJ lf nk P X sl 0) → bt (τ.1 64 21) (fun k => decide (k < nk) && goJ lf nk P X 0 k) → wp (f_X10_step_b78 300 τ (nI t) 0) Q) :
    ∀ (m j : Nat) (τ : Mem), j ≤ P → j < m → MS τ lf nk P st → MF σ τ → τ.1 77 = σ.1 77 → τ.1 64 19 = σ.1 64 19 → τ.1 64 20 = σ.1 64 20 → Mpl τ nk (pJ lf nk P X j) → Mwh τ nk P (paJ lf nk P X t pa j) → Msl τ nk P (slJ lf nk P X sl j) → bt (τ.1 64 21) (fun k => decide (k < nk) && goJ lf nk P X j k) → wp (f_X10_step_b60 m τ (nI t) (nI j - 1)) Q := by
  intro m
  induction m with
  | zero => intro j τ h1 h2; omega
  | succ m ih =>
    intro j τ h1 h2 hS hF h77 h19 h20 a1 a2 a3 a4
    have hP8 := hS.at.1
    rw [f_X10_step_b60]
    match j, h1, h2, a1, a2, a3, a4 with
    | 0, h1, h2, a1, a2, a3, a4 => exact wp_it (by decide) (hk τ hF h77 h19 h20 a1 a2 a3 a4)
    | i + 1, h1, h2, a1, a2, a3, a4 =>
      rw [nI_pred]
      have hpos : ∀ k, k < nk → pJ lf nk P X (i + 1) k < 100 := fun k hk => by
        have := hX k hk
        unfold pJ
        split <;> omega
      refine wp_ie (nI_pos (by omega)) (wp_bv (wp_mono (opens_wp hS ht (by omega) hpos a1 a2 a3 a4) (fun υ h => ?_)))
      obtain ⟨b1, b2, b3, b4, b5, b6, b7, b8⟩ := h
      obtain ⟨eA, eB⟩ := sAB_pJ (lf := lf) (nk := nk) (P := P) (X := X) (i := i)
      rw [eA, eB] at b5 b6 b7 b8
      rw [sub_one]
      refine ih i υ (by omega) (by omega) (hS.fr b1) (hF.tr b1) (b2.trans h77) (b3.trans h19) (b4.trans h20) (b5.congr (fun k hk => (pJ_step (by omega) hk).symm)) (b6.congr (fun q k _ hk => (paJ_step (by omega) hk).symm)) (b7.congr (fun q k _ hk => (slJ_step (by omega) hk).symm)) (bt_congr b8 (fun k _ => ?_))
      by_cases ck : k < nk
      · rw [goJ_step (i := i) (by omega) ck]
      · simp [ck]
theorem waits_loop (ht : t < 100) (hs0 : ∀ k, k < nk → w k < 1000) : ∀ (m j : Nat) (σ : Mem), j ≤ nk → nk < j + m → MS σ lf nk P st → Mpl σ nk (sim lf nk P st (t + 1)) → bt (σ.1 64 21) (fun k => decide (k < nk) && sM lf nk P (sX st t (sim lf nk P st t)) k) → Mwt σ nk (fun k => if k < j ∧ wat lf nk P st t k = true then w k + 1 else w k) → FIj σ lf nk P st t j →
    wp (f_X10_step_b78 m σ (nI t) (nI j)) (fun τ => MF σ τ ∧ (∀ r, r ∈ [74, 75, 76] → τ.1 r = σ.1 r) ∧ Mwt τ nk (fun k => if wat lf nk P st t k = true then w k + 1 else w k) ∧ FIj τ lf nk P st (t + 1) 0) := by
  intro m
  induction m with
  | zero => intro j σ h1 h2; omega
  | succ m ih =>
    intro j σ h1 h2 hS hp hg hw hf
    obtain ⟨hP8, hn8, e9, epl, -, hst⟩ := hS.at
    rw [f_X10_step_b78, e9]
    refine wp_ite (fun c => ?_) (fun c => ?_)
    · rw [nI_leI (by omega) (by omega)] at c
      have e : j = nk := by omega
      subst e
      refine wp_some.mpr ⟨MF.rf, fun _ _ => rfl, hw.congr (fun k hk => ?_), hf.next⟩
      by_cases e : wat lf j P st t k = true
      · rw [if_pos ⟨hk, e⟩, if_pos e]
      · rw [if_neg (fun z => e z.2), if_neg e]
    · have hj := nI_not_le c (by omega) (by omega)
      have h9 := sim_le9 (lf := lf) (nk := nk) (st := st) (t := t + 1) (k := j) hP8
      refine wp_ckN (by omega) (by omega) (wp_bpE epl ?_)
      rw [nI_clamp (by omega), hp j hj, in_eq, bp_some, m1_toInt (by omega), m1_toInt (by omega)]
      have next : ∀ τ : Mem, MF σ τ → (∀ r, r ∈ [74, 75, 76] → τ.1 r = σ.1 r) → τ.1 64 21 = σ.1 64 21 → Mwt τ nk (fun k => if k < j + 1 ∧ wat lf nk P st t k = true then w k + 1 else w k) → FIj τ lf nk P st t (j + 1) → wp (f_X10_step_b168 (f_X10_step_b78 m) τ (nI t) (nI j)) (fun τ => MF σ τ ∧ (∀ r, r ∈ [74, 75, 76] → τ.1 r = σ.1 r) ∧ Mwt τ nk (fun k => if wat lf nk P st t k = true then w k + 1 else w k) ∧ FIj τ lf nk P st (t + 1) 0) := by
        intro τ g1 g2 g3 g4 g5
        unfold f_X10_step_b168
        rw [nI_1]
        refine wp_mono (ih (j + 1) τ (by omega) (by omega) (hS.fr g1) ?_ (by rw [g3]; exact hg) g4 g5) (fun υ h => ⟨g1.tr h.1, fun r hr => (h.2.1 r hr).trans (g2 r hr), h.2.2⟩)
        intro k hk
        rw [g2 74 (by simp)]
        exact hp k hk
      have stay : wat lf nk P st t j = false → wp (f_X10_step_b168 (f_X10_step_b78 m) σ (nI t) (nI j)) (fun τ => MF σ τ ∧ (∀ r, r ∈ [74, 75, 76] → τ.1 r = σ.1 r) ∧ Mwt τ nk (fun k => if wat lf nk P st t k = true then w k + 1 else w k) ∧ FIj τ lf nk P st (t + 1) 0) := by
        intro hwa
        refine next σ MF.rf (fun _ _ => rfl) rfl (hw.congr (fun k hk => ?_)) ?_
        · by_cases e : k = j
          · rw [e, if_neg (fun z => Nat.lt_irrefl _ z.1), if_neg (fun z => by rw [hwa] at z; exact absurd z.2 (by decide))]
          · have : k < j + 1 ↔ k < j := by omega
            simp only [this]
        · rcases hf with ⟨a1, a2, a3, a4⟩ | ⟨u, k, b1, b2⟩
          · refine Or.inl ⟨a1, a2, a3, fun k hk => ?_⟩
            by_cases e : k = j
            · rw [e]; exact hwa
            · exact a4 k (by omega)
          · exact Or.inr ⟨u, k, by rcases b1 with z | z <;> omega, b2⟩
      by_cases cr : 1 ≤ sim lf nk P st (t + 1) j ∧ sim lf nk P st (t + 1) j ≤ P
      · rw [if_pos (show (0 : Int) ≤ (sim lf nk P st (t + 1) j : Int) - 1 ∧ (sim lf nk P st (t + 1) j : Int) - 1 ≤ (P : Int) - 1 by omega)]
        refine wp_ie (by decide) (wp_bpE (isIn_eq hg (by omega)) ?_)
        rw [decide_eq_true hj, Bool.true_and]
        cases hm : sM lf nk P (sX st t (sim lf nk P st t)) j with
        | true =>
          refine wp_ie (by decide) (stay ?_)
          rcases hwa : wat lf nk P st t j with _ | _
          · rfl
          · exact absurd hm (wat_iff.mp hwa).2.2
        | false =>
          have hwa : wat lf nk P st t j = true := wat_iff.mpr ⟨cr.1, cr.2, by rw [hm]; decide⟩
          refine wp_it (by decide) (wp_ckN (by omega) (by omega) (wp_ckN (by omega) (by omega) (wp_lt ?_)))
          have w19 : ∀ x, (ms σ 77 j x).1 64 = σ.1 64 := fun x => ms_ne (by decide)
          rw [w19]
          have wj : σ.1 77 j = nI (w j) := by
            have := hw j hj
            dsimp only at this
            rw [if_neg (fun z => Nat.lt_irrefl _ z.1)] at this
            exact this
          rw [wj, nI_1]
          have hwl := hs0 j hj
          have fin : ∀ y19 y20 : Int32, (y19 = σ.1 64 19 ∧ y20 = σ.1 64 20 ∧ ¬ σ.1 64 19 = (-1 : Int32) ∨ y19 = nI t ∧ y20 = nI j ∧ σ.1 64 19 = (-1 : Int32)) → wp (f_X10_step_b168 (f_X10_step_b78 m) (ms (ms (ms σ 77 j (nI (w j + 1))) 64 20 y20) 64 19 y19) (nI t) (nI j)) (fun τ => MF σ τ ∧ (∀ r, r ∈ [74, 75, 76] → τ.1 r = σ.1 r) ∧ Mwt τ nk (fun k => if wat lf nk P st t k = true then w k + 1 else w k) ∧ FIj τ lf nk P st (t + 1) 0) := by
            intro y19 y20 hy
            refine next _ (((MF.rf.row (by simp)).fld (by simp)).fld (by simp)) (fun r hr => ?_) ?_ (fun k hk => ?_) ?_
            · simp only [List.mem_cons, List.not_mem_nil, or_false] at hr
              rw [ms_ne (by omega), ms_ne (by omega), ms_ne (by omega)]
            · rw [ms_same, upd_n (by decide), ms_same, upd_n (by decide), w19]
            · rw [ms_ne (by decide), ms_ne (by decide), ms_same]
              dsimp only
              by_cases e : k = j
              · rw [e, upd_s, if_pos ⟨by omega, hwa⟩]
              · rw [upd_n e, hw k hk]
                have : k < j + 1 ↔ k < j := by omega
                simp only [this]
            · have e19 : (ms (ms (ms σ 77 j (nI (w j + 1))) 64 20 y20) 64 19 y19).1 64 19 = y19 := by rw [ms_same, upd_s]
              have e20 : (ms (ms (ms σ 77 j (nI (w j + 1))) 64 20 y20) 64 19 y19).1 64 20 = y20 := by rw [ms_same, upd_n (by decide), ms_same, upd_s]
              unfold FIj
              rw [e19, e20]
              rcases hf with ⟨a1, a2, a3, a4⟩ | ⟨u, k, b1, b2, b3, b4⟩
              · rcases hy with ⟨-, -, z⟩ | ⟨z1, z2, -⟩
                · exact absurd a1 z
                · exact Or.inr ⟨t, j, Or.inr ⟨rfl, by omega⟩, z1, z2, hwa, a4, a3⟩
              · have hne : ¬ σ.1 64 19 = (-1 : Int32) := by rw [b2]; exact nI_neg1 (by rcases b1 with z | z <;> omega)
                rcases hy with ⟨z1, z2, -⟩ | ⟨-, -, z⟩
                · exact Or.inr ⟨u, k, by rcases b1 with z | z <;> omega, z1.trans b2, z2.trans b3, b4⟩
                · exact absurd z hne
          unfold f_X10_step_b145 f_X10_step_b165
          have e20 : ∀ y : Int32, (ms (ms σ 77 j (nI (w j + 1))) 64 20 y).1 64 19 = σ.1 64 19 := fun y => by rw [ms_same, upd_n (by decide), w19]
          refine wp_ite (fun c19 => ?_) (fun c19 => ?_)
          · refine wp_lt ?_
            rw [e20]
            exact wp_it c19 (wp_lt (fin _ _ (Or.inr ⟨rfl, rfl, c19⟩)))
          · refine wp_lt ?_
            rw [e20]
            exact wp_ie c19 (wp_lt (fin _ _ (Or.inl ⟨rfl, rfl, c19⟩)))
      · rw [if_neg (show ¬ ((0 : Int) ≤ (sim lf nk P st (t + 1) j : Int) - 1 ∧ (sim lf nk P st (t + 1) j : Int) - 1 ≤ (P : Int) - 1) by omega)]
        refine wp_it rfl (stay ?_)
        rcases hwa : wat lf nk P st t j with _ | _
        · rfl
        · exact absurd ⟨(wat_iff.mp hwa).1, (wat_iff.mp hwa).2.1⟩ cr
/-- one step -/
theorem step_wp (ht : t < 100) (hS : MS σ lf nk P st) (h1 : Mpl σ nk (sim lf nk P st t)) (h2 : Mwh σ nk P (pas lf nk P st t)) (h3 : Msl σ nk P (slp lf nk P st t)) (h4 : Mwt σ nk (wts lf nk P st t)) (h5 : FIj σ lf nk P st t 0) :
    wp (f_X10_step σ (nI t)) (fun τ => MF σ τ ∧ Mpl τ nk (sim lf nk P st (t + 1)) ∧ Mwh τ nk P (pas lf nk P st (t + 1)) ∧ Msl τ nk P (slp lf nk P st (t + 1)) ∧ Mwt τ nk (wts lf nk P st (t + 1)) ∧ FIj τ lf nk P st (t + 1) 0) := by
  obtain ⟨hP8, hn8, -⟩ := hS.at
  have hwl : ∀ k, k < nk → wts lf nk P st t k < 1000 := fun k _ => by
    have : ∀ u, wts lf nk P st u k ≤ u := by
      intro u
      induction u with
      | zero => exact Nat.le_refl _
      | succ u ih =>
        by_cases c : wat lf nk P st u k = true
        · rw [wts_mv c]; omega
        · rw [wts_st c]; omega
    have := this t
    omega
  have f0 : MF σ (ms σ 64 21 0) := MF.rf.fld (by simp)
  unfold f_X10_step
  refine wp_lt ?_
  refine starts_loop (σ := ms σ 64 21 0) (lf := lf) (nk := nk) (P := P) (st := st) (pos := sim lf nk P st t) ht ?_ 300 0 _ (Nat.zero_le _) (by omega) (hS.fr f0) MF.rf (fun _ _ => rfl) rfl ?_
  · intro τ g1 g2 g3 g4
    have hF : MF σ τ := f0.tr g1
    have r75 : τ.1 75 = σ.1 75 := (g2 75 (by simp)).trans (ms_ne (by decide))
    have r76 : τ.1 76 = σ.1 76 := (g2 76 (by simp)).trans (ms_ne (by decide))
    have r77 : τ.1 77 = σ.1 77 := (g2 77 (by simp)).trans (ms_ne (by decide))
    have r19 : τ.1 64 19 = σ.1 64 19 := by rw [g3, ms_same, upd_n (by decide)]
    have r20 : τ.1 64 20 = σ.1 64 20 := by rw [g3, ms_same, upd_n (by decide)]
    have hle : ∀ k, sM lf nk P (sX st t (sim lf nk P st t)) k = true → ¬ P + 1 ≤ sX st t (sim lf nk P st t) k := fun k q => by have := (sM_iff.mp q).2.2.1; omega
    have hX : ∀ k, k < nk → sX st t (sim lf nk P st t) k < 90 := fun k _ => by
      have := sim_le9 (lf := lf) (nk := nk) (st := st) (t := t) (k := k) hP8
      unfold sX
      split <;> omega
    refine places_loop (σ := τ) (lf := lf) (st := st) (X := sX st t (sim lf nk P st t)) (pa := pas lf nk P st t) (sl := slp lf nk P st t) ht hX ?_ 300 P τ (Nat.le_refl _) (by omega) (hS.fr hF) MF.rf rfl rfl rfl (g4.congr (fun k _ => ?_)) ?_ ?_ ?_
    · intro υ d1 d2 d3 d4 d5 d6 d7 d8
      have hF2 : MF σ υ := hF.tr d1
      have p5 : Mpl υ nk (sim lf nk P st (t + 1)) := d5.congr (fun k hk => by
        rw [sim_succ]
        unfold pJ sN
        by_cases c : sM lf nk P (sX st t (sim lf nk P st t)) k = true
        · have := (sM_iff.mp c).2.1
          rw [if_pos ⟨by omega, c⟩, if_pos c]
        · rw [if_neg (fun q => c q.2), if_neg c])
      refine wp_mono (waits_loop (w := wts lf nk P st t) ht hwl 300 0 υ (Nat.zero_le _) (by omega) (hS.fr hF2) p5 (bt_congr d8 (fun k _ => ?_)) (fun k hk => ?_) ?_) (fun ω h => ?_)
      · unfold goJ
        cases hm : sM lf nk P (sX st t (sim lf nk P st t)) k with
        | false => simp
        | true =>
          have := (sM_iff.mp hm).2.1
          simp [this]
      · rw [d2, r77]
        dsimp only
        rw [if_neg (fun z => absurd z.1 (by omega))]
        exact h4 k hk
      · unfold FIj at h5 ⊢
        rw [d3, d4, r19, r20]
        exact h5
      · obtain ⟨e1, e2, e3, e4⟩ := h
        refine ⟨hF2.tr e1, fun k hk => ?_, fun p k hp hk => ?_, fun p k hp hk => ?_, e3.congr (fun k hk => rfl), e4⟩
        · rw [e2 74 (by simp)]
          exact p5 k hk
        · rw [e2 75 (by simp)]
          refine (d6.congr (fun p k _ _ => ?_)) p k hp hk
          unfold paJ
          show _ = (if _ then _ else _)
          by_cases c : sM lf nk P (sX st t (sim lf nk P st t)) k = true ∧ sX st t (sim lf nk P st t) k = p + 1
          · rw [if_pos c, if_pos ⟨Nat.zero_le _, c⟩]
          · rw [if_neg c, if_neg (fun q => c q.2)]
        · rw [e2 76 (by simp)]
          refine (d7.congr (fun p k _ _ => ?_)) p k hp hk
          unfold slJ
          show _ = (if _ then _ else _)
          by_cases c : sM lf nk P (sX st t (sim lf nk P st t)) k = true ∧ sX st t (sim lf nk P st t) k = p + 1
          · rw [if_pos c, if_pos ⟨Nat.zero_le _, c⟩]
          · rw [if_neg c, if_neg (fun q => c q.2)]
    · unfold pJ
      rw [if_neg (fun q => hle k q.2 q.1)]
    · intro p k hp hk
      rw [r75]
      refine (h2.congr (fun p k hp _ => ?_)) p k hp hk
      unfold paJ
      rw [if_neg (fun q => by omega)]
    · intro p k hp hk
      rw [r76]
      refine (h3.congr (fun p k hp _ => ?_)) p k hp hk
      unfold slJ
      rw [if_neg (fun q => by omega)]
    · rw [g3, ms_same, upd_s]
      refine bt_congr bt_0 (fun k _ => ?_)
      unfold goJ
      cases hm : sM lf nk P (sX st t (sim lf nk P st t)) k with
      | false => simp
      | true =>
        have := hle k hm
        simp
        omega
  · intro k hk
    rw [ms_ne (by decide)]
    dsimp only
    rw [if_neg (Nat.not_lt_zero _)]
    exact h1 k hk
theorem lives_steps {to : Nat} (hto : to < 100) : ∀ (m t : Nat) (σ : Mem), t ≤ to + 1 → to + 1 < t + m → MS σ lf nk P st → Mpl σ nk (sim lf nk P st t) → Mwh σ nk P (pas lf nk P st t) → Msl σ nk P (slp lf nk P st t) → Mwt σ nk (wts lf nk P st t) → FIj σ lf nk P st t 0 →
    wp (f_X10_lives_b68 m σ (nI to) (nI t)) (fun τ => MF σ τ ∧ Mpl τ nk (sim lf nk P st (to + 1)) ∧ Mwh τ nk P (pas lf nk P st (to + 1)) ∧ Msl τ nk P (slp lf nk P st (to + 1)) ∧ Mwt τ nk (wts lf nk P st (to + 1)) ∧ FIj τ lf nk P st (to + 1) 0) := by
  intro m
  induction m with
  | zero => intro t σ h1 h2; omega
  | succ m ih =>
    intro t σ h1 h2 hS a1 a2 a3 a4 a5
    rw [f_X10_lives_b68]
    refine wp_ite (fun c => ?_) (fun c => ?_)
    · rw [nI_ltI (by omega) (by omega)] at c
      have e : t = to + 1 := by omega
      subst e
      exact wp_some.mpr ⟨MF.rf, a1, a2, a3, a4, a5⟩
    · have ht : t ≤ to := by
        rcases Nat.lt_or_ge to t with q | q
        · exact absurd ((nI_ltI (by omega) (by omega)).mpr q) c
        · exact q
      refine wp_bv (wp_mono (step_wp (by omega) hS a1 a2 a3 a4 a5) (fun τ h => ?_))
      rw [nI_1]
      exact wp_mono (ih (t + 1) τ (by omega) (by omega) (hS.fr h.1) h.2.1 h.2.2.1 h.2.2.2.1 h.2.2.2.2.1 h.2.2.2.2.2) (fun υ g => ⟨h.1.tr g.1, g.2⟩)
theorem lives_fill2 {Q : Mem → Prop} {x : Int32} (hk : ∀ τ : Mem, MF σ τ → τ.1 64 = σ.1 64 → τ.1 74 = σ.1 74 → τ.1 77 = σ.1 77 → (∀ i, i < 64 → τ.1 75 i = (-1 : Int32) ∧ τ.1 76 i = 0) → wp (f_X10_lives_b68 300 τ x 0) Q) :
    ∀ (m j : Nat) (τ : Mem), j ≤ 64 → 64 < j + m → MF σ τ → τ.1 64 = σ.1 64 → τ.1 74 = σ.1 74 → τ.1 77 = σ.1 77 → (∀ i, i < j → τ.1 75 i = (-1 : Int32) ∧ τ.1 76 i = 0) → wp (f_X10_lives_b40 m τ x (nI j)) Q := by
  intro m
  induction m with
  | zero => intro j τ h1 h2; omega
  | succ m ih =>
    intro j τ h1 h2 hF h64 h74 h77 hi
    rw [f_X10_lives_b40, show (64 : Int32) = nI 64 from rfl]
    refine wp_ite (fun c => ?_) (fun c => ?_)
    · rw [nI_leI (by omega) (by omega)] at c
      exact hk τ hF h64 h74 h77 (fun i hi2 => hi i (by omega))
    · have hj := nI_not_le c (by omega) (by omega)
      rw [nI_clamp (by omega), nI_1]
      refine wp_ckN (by omega) (by omega) (wp_lt (wp_ckN (by omega) (by omega) (wp_lt ?_)))
      refine ih (j + 1) _ (by omega) (by omega) ((hF.row (by simp)).row (by simp)) ?_ ?_ ?_ (fun i hi2 => ?_)
      · rw [ms_ne (by decide), ms_ne (by decide)]; exact h64
      · rw [ms_ne (by decide), ms_ne (by decide)]; exact h74
      · rw [ms_ne (by decide), ms_ne (by decide)]; exact h77
      · rw [ms_ne (show (75 : Nat) ≠ 76 by decide), ms_same, ms_same, ms_ne (show (76 : Nat) ≠ 75 by decide)]
        by_cases e : i = j
        · rw [e, upd_s, upd_s]
          exact ⟨rfl, rfl⟩
        · rw [upd_n e, upd_n e]
          exact hi i (by omega)
theorem lives_fill1 {Q : Mem → Prop} {x : Int32} (hk : ∀ τ : Mem, MF σ τ → τ.1 64 = σ.1 64 → (∀ i, i < 8 → τ.1 74 i = (-1 : Int32) ∧ τ.1 77 i = 0) → wp (f_X10_lives_b40 300 τ x 0) Q) :
    ∀ (m j : Nat) (τ : Mem), j ≤ 8 → 8 < j + m → MF σ τ → τ.1 64 = σ.1 64 → (∀ i, i < j → τ.1 74 i = (-1 : Int32) ∧ τ.1 77 i = 0) → wp (f_X10_lives_b12 m τ x (nI j)) Q := by
  intro m
  induction m with
  | zero => intro j τ h1 h2; omega
  | succ m ih =>
    intro j τ h1 h2 hF h64 hi
    rw [f_X10_lives_b12, show (8 : Int32) = nI 8 from rfl]
    refine wp_ite (fun c => ?_) (fun c => ?_)
    · rw [nI_leI (by omega) (by omega)] at c
      exact hk τ hF h64 (fun i hi2 => hi i (by omega))
    · have hj := nI_not_le c (by omega) (by omega)
      rw [nI_clamp (by omega), nI_1]
      refine wp_ckN (by omega) (by omega) (wp_lt (wp_ckN (by omega) (by omega) (wp_lt ?_)))
      refine ih (j + 1) _ (by omega) (by omega) ((hF.row (by simp)).row (by simp)) ?_ (fun i hi2 => ?_)
      · rw [ms_ne (by decide), ms_ne (by decide)]; exact h64
      · rw [ms_ne (show (74 : Nat) ≠ 77 by decide), ms_same, ms_same, ms_ne (show (77 : Nat) ≠ 74 by decide)]
        by_cases e : i = j
        · rw [e, upd_s, upd_s]
          exact ⟨rfl, rfl⟩
        · rw [upd_n e, upd_n e]
          exact hi i (by omega)
/-- the reference's steps up to a step -/
theorem lives_wp {to : Nat} (hto : to < 100) (hS : MS σ lf nk P st) : wp (f_X10_lives σ (nI to)) (fun τ => MF σ τ ∧ Mpl τ nk (sim lf nk P st (to + 1)) ∧ Mwh τ nk P (pas lf nk P st (to + 1)) ∧ Msl τ nk P (slp lf nk P st (to + 1)) ∧ Mwt τ nk (wts lf nk P st (to + 1)) ∧ FIj τ lf nk P st (to + 1) 0) := by
  obtain ⟨hP8, hn8, -⟩ := hS.at
  unfold f_X10_lives
  refine wp_lt (wp_lt ?_)
  have f0 : MF σ (ms (ms σ 64 19 (-1 : Int32)) 64 20 (-1 : Int32)) := (MF.rf.fld (by simp)).fld (by simp)
  refine lives_fill1 (σ := ms (ms σ 64 19 (-1 : Int32)) 64 20 (-1 : Int32)) ?_ 300 0 _ (by omega) (by omega) MF.rf rfl (fun i hi => by omega)
  intro τ a1 a2 a3
  refine lives_fill2 (σ := τ) ?_ 300 0 τ (by omega) (by omega) MF.rf rfl rfl rfl (fun i hi => by omega)
  intro υ b1 b2 b3 b4 b5
  have hF : MF σ υ := (f0.tr a1).tr b1
  refine wp_mono (lives_steps (lf := lf) (nk := nk) (P := P) (st := st) hto 300 0 υ (by omega) (by omega) (hS.fr hF) (fun k hk => ?_) (fun p k hp hk => ?_) (fun p k hp hk => ?_) (fun k hk => ?_) (Or.inl ⟨?_, ?_, fun u hu => by omega, fun k hk => by omega⟩)) (fun ω h => ⟨hF.tr h.1, h.2⟩)
  · rw [b3, (a3 k (by omega)).1]
    rfl
  · rw [(b5 _ (by omega)).1]
    rfl
  · rw [(b5 _ (by omega)).2]
    rfl
  · rw [b4, (a3 k (by omega)).2]
    rfl
  · rw [b2, a2, ms_same, upd_n (by decide), ms_same, upd_s]
  · rw [b2, a2, ms_same, upd_s]
end LIVES
