/-! 10g: first, write, count -/
def amn (f : Nat → Nat) : Nat → Nat × Int32
  | 0 => (100, (-1 : Int32))
  | j + 1 => if f j < (amn f j).1 then (f j, nI j) else amn f j
theorem amn_spec {f : Nat → Nat} (hf : ∀ k, f k ≤ 100) : ∀ j, (amn f j = (100, (-1 : Int32)) ∧ ∀ k, k < j → f k = 100) ∨ ∃ k, k < j ∧ amn f j = (f k, nI k) ∧ f k < 100 ∧ (∀ i, i < k → f k < f i) ∧ ∀ i, i < j → f k ≤ f i := by
  intro j
  induction j with
  | zero => exact Or.inl ⟨rfl, fun k hk => absurd hk (Nat.not_lt_zero _)⟩
  | succ j ih =>
    rw [amn]
    rcases ih with ⟨e, h⟩ | ⟨k, hk, e, h1, h2, h3⟩
    · rw [e]
      by_cases c : f j < 100
      · rw [if_pos c]
        exact Or.inr ⟨j, by omega, rfl, c, fun i hi => by rw [h i hi]; exact c, fun i hi => by
          by_cases q : i = j
          · rw [q]; exact Nat.le_refl _
          · rw [h i (by omega)]; omega⟩
      · rw [if_neg c]
        exact Or.inl ⟨rfl, fun k hk => by
          by_cases q : k = j
          · rw [q]; have := hf j; omega
          · exact h k (by omega)⟩
    · rw [e]
      by_cases c : f j < f k
      · rw [if_pos c]
        exact Or.inr ⟨j, by omega, rfl, by omega, fun i hi => by have := h3 i hi; omega, fun i hi => by
          by_cases q : i = j
          · rw [q]; exact Nat.le_refl _
          · have := h3 i (by omega); omega⟩
      · rw [if_neg c]
        exact Or.inr ⟨k, by omega, rfl, h1, h2, fun i hi => by
          by_cases q : i = j
          · rw [q]; omega
          · exact h3 i (by omega)⟩
/-- what first answers -/
def fsv (lf : Nat → Nat → Bool) (nk P : Nat) (st : Nat → Nat) (w : Nat) : Int32 := if (amn (fwt lf nk P st) nk).2 = (-1 : Int32) then (-1 : Int32) else if w = 0 then nI (amn (fwt lf nk P st) nk).1 else (amn (fwt lf nk P st) nk).2
section FST
variable {σ τ : Mem} {lf : Nat → Nat → Bool} {nb nk ns ng P bl aw n0 n1 : Nat} {st t0 t1 kd mk mn bs sb sm gt gk gb : Nat → Nat} {ma : Nat → Nat → Nat}
theorem fwt_spec {k : Nat} (hs : st k < 10) (hP : P ≤ 8) : (fwt lf nk P st k = 100 ∧ ∀ t, wat lf nk P st t k = false) ∨ (fwt lf nk P st k < 100 ∧ wat lf nk P st (fwt lf nk P st k) k = true ∧ ∀ v, v < fwt lf nk P st k → wat lf nk P st v k = false) := by
  unfold fwt
  have hno : ∀ q, q < lst (fun b => decide (pas lf nk P st 100 b k ≠ st k + b)) P → pas lf nk P st 100 q k = st k + q := fun q hq => by
    have := lst_no hq
    rw [decide_eq_false_iff_not, Decidable.not_not] at this
    exact this
  by_cases c : lst (fun b => decide (pas lf nk P st 100 b k ≠ st k + b)) P < P
  · rw [if_pos c]
    have hy := lst_yes c
    rw [decide_eq_true_iff] at hy
    exact Or.inr ⟨by omega, run_waits c (by omega) hno hy, (run_on (by omega) (by omega) hno).2⟩
  · rw [if_neg c]
    refine Or.inl ⟨rfl, fun t => run_never (by omega) (fun q hq => hno q ?_)⟩
    have := lst_le (fun b => decide (pas lf nk P st 100 b k ≠ st k + b)) P
    omega
theorem fwt_le {k : Nat} (hs : st k < 10) (hP : P ≤ 8) : fwt lf nk P st k ≤ 100 := by
  rcases fwt_spec (lf := lf) (nk := nk) hs hP with ⟨e, -⟩ | ⟨e, -⟩ <;> omega
theorem firstM_eq (h8 : P ≤ 8) (hk8 : nk ≤ 8) (hs : ∀ k, k < nk → st k < 10) (h : FIj τ lf nk P st 100 0) : τ.1 64 19 = fsv lf nk P st 0 ∧ τ.1 64 20 = fsv lf nk P st 1 := by
  -- only boats below nk count
  have sp : (amn (fwt lf nk P st) nk = (100, (-1 : Int32)) ∧ ∀ k, k < nk → fwt lf nk P st k = 100) ∨ ∃ k, k < nk ∧ amn (fwt lf nk P st) nk = (fwt lf nk P st k, nI k) ∧ fwt lf nk P st k < 100 ∧ (∀ i, i < k → fwt lf nk P st k < fwt lf nk P st i) ∧ ∀ i, i < nk → fwt lf nk P st k ≤ fwt lf nk P st i := by
    have e : ∀ j, j ≤ nk → amn (fwt lf nk P st) j = amn (fun k => if k < nk then fwt lf nk P st k else 100) j := by
      intro j
      induction j with
      | zero => intro _; rfl
      | succ j ih =>
        intro hj
        rw [amn, amn, ih (by omega), if_pos (show j < nk by omega)]
    rw [e nk (Nat.le_refl _)]
    rcases amn_spec (f := fun k => if k < nk then fwt lf nk P st k else 100) (fun k => by
      show (if k < nk then fwt lf nk P st k else 100) ≤ 100
      by_cases c : k < nk
      · rw [if_pos c]; exact fwt_le (hs k c) h8
      · rw [if_neg c]; omega) nk with ⟨a, b⟩ | ⟨k, hk, a, b, c, d⟩
    · refine Or.inl ⟨a, fun k hk => ?_⟩
      have := b k hk
      rw [if_pos hk] at this
      exact this
    · rw [if_pos hk] at a b
      refine Or.inr ⟨k, hk, a, b, fun i hi => ?_, fun i hi => ?_⟩
      · have := c i hi
        rw [if_pos hk, if_pos (show i < nk by omega)] at this
        exact this
      · have := d i hi
        rw [if_pos hk, if_pos hi] at this
        exact this
  unfold fsv
  rcases h with ⟨e19, e20, hno, -⟩ | ⟨u, k, hu, e19, e20, hw, hi, hv⟩
  · rcases sp with ⟨a, -⟩ | ⟨k, hk, a, b, -, -⟩
    · rw [a, e19, e20]
      exact ⟨rfl, rfl⟩
    · rcases fwt_spec (lf := lf) (nk := nk) (hs k hk) h8 with ⟨q, -⟩ | ⟨q, q2, -⟩
      · omega
      · rw [hno _ q k hk] at q2
        exact absurd q2 (by decide)
  · obtain ⟨hu, hk⟩ : u < 100 ∧ k < nk := by omega
    rcases sp with ⟨-, b⟩ | ⟨j, hj, a, b, c, d⟩
    · rcases fwt_spec (lf := lf) (nk := nk) (hs k hk) h8 with ⟨-, q⟩ | ⟨q, -⟩
      · rw [q u] at hw
        exact absurd hw (by decide)
      · have := b k hk
        omega
    · have up : ∀ i, i < nk → u ≤ fwt lf nk P st i := fun i hi2 => by
        rcases fwt_spec (lf := lf) (nk := nk) (hs i hi2) h8 with ⟨q, -⟩ | ⟨q, q2, -⟩
        · omega
        · rcases Nat.lt_or_ge (fwt lf nk P st i) u with z | z
          · rw [hv _ z i hi2] at q2
            exact absurd q2 (by decide)
          · exact z
      have ek : fwt lf nk P st k = u := by
        have h1 := up k hk
        rcases fwt_spec (lf := lf) (nk := nk) (hs k hk) h8 with ⟨q, q2⟩ | ⟨q, q2, q3⟩
        · rw [q2 u] at hw
          exact absurd hw (by decide)
        · rcases Nat.lt_or_ge u (fwt lf nk P st k) with z | z
          · rw [q3 u z] at hw
            exact absurd hw (by decide)
          · omega
      have ej : fwt lf nk P st j = u := by
        have h1 := d k hk
        have h2 := up j hj
        omega
      have e : j = k := by
        rcases Nat.lt_trichotomy j k with z | z | z
        · exfalso
          have := hi j z
          rcases fwt_spec (lf := lf) (nk := nk) (hs j hj) h8 with ⟨q, -⟩ | ⟨q, q2, -⟩
          · omega
          · rw [ej] at q2
            rw [q2] at this
            exact absurd this (by decide)
        · exact z
        · have := c k z
          omega
      subst e
      rw [a, e19, e20, if_neg (nI_neg1 (by omega)), if_neg (nI_neg1 (by omega)), ej]
      exact ⟨rfl, rfl⟩
theorem firstOf_wp {w : Nat} (M : MW σ nb kd mk mn nk ma bs ns sb sm ng gt gk gb) (hw : w < 2) : wp (f_X10_firstOf σ (nI w)) (fun o => o.1 = fsv (lfc kd mk mn ma (shc sb sm 255 ns)) nk nb bs w ∧ MF σ o.2) := by
  unfold f_X10_firstOf
  rw [show (99 : Int32) = nI 99 from rfl]
  refine wp_bv (wp_mono (lives_wp (by decide) M.ms) (fun τ g => ?_))
  have hh := firstM_eq M.1.1 M.2.1.1 (fun k hk => (M.2.1.2.2 k hk).2.2) g.2.2.2.2.2
  rcases (show w = 0 ∨ w = 1 by omega) with rfl | rfl
  · exact wp_it rfl (wp_some.mpr ⟨hh.1, g.1⟩)
  · exact wp_ie (by decide) (wp_some.mpr ⟨hh.2, g.1⟩)
theorem firstC_loop (hV : Vok σ 46 lf nk P st) (hn : σ.1 10 2 = nI nk) (hk8 : nk ≤ 8) (hs : ∀ k, k < nk → st k < 10) (h8 : P ≤ 8) {w : Nat} (hw : w < 2) : ∀ (q j : Nat), j ≤ nk → nk < j + q → f_X9_first_b19 σ q (nI w) (nI (amn (fwt lf nk P st) j).1) (amn (fwt lf nk P st) j).2 (nI j) = some (fsv lf nk P st w) := by
  intro q
  induction q with
  | zero => intro j h1 h2; omega
  | succ q ih =>
    intro j h1 h2
    rw [f_X9_first_b19, hn]
    by_cases c : nk ≤ j
    · have e : j = nk := by omega
      subst e
      rw [if_pos ((nI_leI (by omega) (by omega)).mpr (Nat.le_refl _))]
      unfold fsv
      by_cases c2 : (amn (fwt lf j P st) j).2 = (-1 : Int32)
      · rw [if_pos c2, if_pos c2]
      · rw [if_neg c2, if_neg c2]
        rcases (show w = 0 ∨ w = 1 by omega) with rfl | rfl
        · rfl
        · rfl
    · have hj : j < nk := by omega
      rw [if_neg (fun z => c ((nI_leI (by omega) (by omega)).mp z)), firstWait_eq hV hj, bp_some]
      have hl := fwt_le (lf := lf) (nk := nk) (hs j hj) h8
      have hm : (amn (fwt lf nk P st) j).1 ≤ 100 := by
        have : ∀ i, i ≤ nk → (amn (fwt lf nk P st) i).1 ≤ 100 := by
          intro i
          induction i with
          | zero => intro _; exact Nat.le_refl _
          | succ i ih2 =>
            intro hi
            rw [amn]
            by_cases z : fwt lf nk P st i < (amn (fwt lf nk P st) i).1
            · rw [if_pos z]; exact fwt_le (hs i (by omega)) h8
            · rw [if_neg z]; exact ih2 (by omega)
        exact this j h1
      have hI := ih (j + 1) (by omega) (by omega)
      rw [amn] at hI
      unfold f_X9_first_b54
      rw [nI_1]
      by_cases c2 : fwt lf nk P st j < (amn (fwt lf nk P st) j).1
      · rw [if_pos c2] at hI
        rw [if_neg (fun z => by have := (nI_leI (by omega) (by omega)).mp z; omega)]
        exact hI
      · rw [if_neg c2] at hI
        rw [if_pos ((nI_leI (by omega) (by omega)).mpr (by omega))]
        exact hI
theorem firstC_eq (C : CW σ nb kd mk mn nk ma bs ns sb sm ng gt gk gb) {w : Nat} (hw : w < 2) : f_X9_first σ (nI w) = some (fsv (lfc kd mk mn ma (shc sb sm 255 ns)) nk nb bs w) := by
  have k8 := C.2.1.1
  unfold f_X9_first
  rw [show (2 : Int32) = nI 2 from rfl, within_eq (by decide), bp_some, if_pos (nI_rng hw (by decide)), if_neg (by decide)]
  exact firstC_loop C.2.2.2.2.2 C.2.1.2.1 k8 (fun k hk => (C.2.1.2.2 k hk).2.2) C.1.1 hw 300 0 (by omega) (by omega)
theorem op_first (h : INV σ) (x : Int32) : wp (f_X9_first σ x) (fun r => wp (f_X10_first σ x) (fun o2 => o2.1 = r ∧ INV o2.2)) := by
  obtain ⟨n0, t0, n1, t1, ns, sb, sm, ng, gt, gk, gb, hI⟩ := h
  have hI : IN σ n0 t0 n1 t1 ns sb sm ng gt gk gb := hI
  have C := hI.cw
  by_cases c1 : 0 ≤ x.toInt ∧ x.toInt < (2 : Nat)
  · obtain ⟨w, hw, rfl⟩ := inr c1
    rw [firstC_eq C hw]
    unfold f_X10_first
    refine wp_some.mpr (hI.fnd (fun τ f M => wp_bpE isTwo_eq ?_))
    rw [if_pos c1]
    exact wp_ie (by decide) (wp_bi (wp_mono (firstOf_wp M hw) (fun o q => wp_some.mpr ⟨q.1, hI.end2 f q.2⟩)))
  · unfold f_X9_first f_X10_first
    rw [show (2 : Int32) = nI 2 from rfl]
    refine wp_bpE (within_eq (by decide)) ?_
    rw [if_neg c1]
    refine wp_it rfl (wp_some.mpr (hI.fnd (fun τ f M => wp_bpE isTwo_eq ?_)))
    rw [if_neg c1]
    exact wp_it rfl (wp_some.mpr ⟨rfl, hI.end f⟩)
-- counts of bits
def pcb (f : Nat → Bool) : Nat := smn (fun k => if f k = true then 1 else 0) 8
theorem ones_mem {σ τ : Mem} {n : Nat} {x y : Int32} : f_X10_ones_b4 σ n x y = f_X10_ones_b4 τ n x y := by
  induction n generalizing x y with
  | zero => rfl
  | succ n ih =>
    rw [f_X10_ones_b4, f_X10_ones_b4, ih]
theorem ones_all : ∀ m, m < 256 → f_X10_ones ((fun _ _ => 0, fun _ => 0) : Mem) (nI m) = some (nI (pcb m.testBit)) := by decide +kernel
theorem bits_all : ∀ m, m < 256 → f_J6_bitCount_0f7a4 ((fun _ _ => 0, fun _ => 0) : Mem) (nI m) = some (nI (pcb m.testBit)) := by decide +kernel
theorem pcb_congr {f g : Nat → Bool} (h : ∀ k, k < 8 → f k = g k) : pcb f = pcb g := smn_congr (fun k hk => by show (if f k = true then 1 else 0) = _; rw [h k hk])
theorem pcb_le {f : Nat → Bool} : pcb f ≤ 8 := smn_le (n := 8) (c := 1) (fun k _ => by show (if f k = true then 1 else 0) ≤ 1; split <;> omega)
theorem bt_ones {σ : Mem} {x : Int32} {f : Nat → Bool} (h : bt x f) : f_X10_ones σ x = some (nI (pcb f)) := by
  obtain ⟨m, h1, rfl, h3⟩ := h
  rw [← pcb_congr h3, ← ones_all m h1]
  exact ones_mem
theorem bt_bits {σ : Mem} {x : Int32} {f : Nat → Bool} (h : bt x f) : f_J6_bitCount_0f7a4 σ x = some (nI (pcb f)) := by
  obtain ⟨m, h1, rfl, h3⟩ := h
  rw [← pcb_congr h3, ← bits_all m h1]
  rfl
theorem throughCount_eq {r : Nat} (h : Vok σ r lf nk P st) : f_X8_throughCount σ r = some (nI (pcb (fun k => decide (k < nk) && decide (sim lf nk P st 100 k = P + 1)))) := by
  unfold f_X8_throughCount
  rw [show (99 : Int32) = nI 99 from rfl]
  obtain ⟨v, e, hv⟩ := throughBits_wp h (t := 99) (by decide)
  rw [e, bp_some, bt_bits hv, bp_some]
theorem allWaitM_loop (hk8 : nk ≤ 8) (e9 : σ.1 64 9 = nI nk) (hw : Mwt σ nk (wts lf nk P st 100)) : ∀ (q j : Nat), j ≤ nk → nk < j + q → f_X10_allWait_b4 σ q (nI (smn (wts lf nk P st 100) j)) (nI j) = some (nI (smn (wts lf nk P st 100) nk)) := by
  intro q
  induction q with
  | zero => intro j h1 h2; omega
  | succ q ih =>
    intro j h1 h2
    rw [f_X10_allWait_b4, e9]
    by_cases c : nk ≤ j
    · have e : j = nk := by omega
      subst e
      rw [if_pos ((nI_leI (by omega) (by omega)).mpr (Nat.le_refl _))]
    · rw [if_neg (fun z => c ((nI_leI (by omega) (by omega)).mp z)), ck_N (by omega) (by decide), nI_clamp (by omega), hw j (by omega), nI_add, nI_1]
      exact ih (j + 1) (by omega) (by omega)
theorem allWaitM_eq (hk8 : nk ≤ 8) (e9 : σ.1 64 9 = nI nk) (hw : Mwt σ nk (wts lf nk P st 100)) : f_X10_allWait σ = some (nI (smn (wts lf nk P st 100) nk)) := by
  unfold f_X10_allWait
  exact allWaitM_loop hk8 e9 hw 300 0 (by omega) (by omega)
/-- what count answers -/
theorem count_both (hI : IN σ n0 t0 n1 t1 ns sb sm ng gt gk gb) (x : Int32) : ∃ v : Int32, f_X9_count σ x = some v ∧ wp (f_X10_count σ x) (fun o => o.1 = v ∧ ∃ υ : Mem, MX [71, 72] [7, 9] σ υ ∧ MW υ (nbB n0 t0) (kdB t0) (mkB t0) (mnB t0) (nkK n1 t1) (maK n1 t1) (bsK n1 t1) ns sb sm ng gt gk gb ∧ MF υ o.2) := by
  have C := hI.cw
  have T := hI.1
  have ref : ∀ {v : Int32}, (∀ τ υ : Mem, MX [71, 72] [7, 9] σ τ → MW τ (nbB n0 t0) (kdB t0) (mkB t0) (mnB t0) (nkK n1 t1) (maK n1 t1) (bsK n1 t1) ns sb sm ng gt gk gb → MF τ υ → Mpl υ (nkK n1 t1) (sim (lfc (kdB t0) (mkB t0) (mnB t0) (maK n1 t1) (shc sb sm 255 ns)) (nkK n1 t1) (nbB n0 t0) (bsK n1 t1) 100) → Mwt υ (nkK n1 t1) (wts (lfc (kdB t0) (mkB t0) (mnB t0) (maK n1 t1) (shc sb sm 255 ns)) (nkK n1 t1) (nbB n0 t0) (bsK n1 t1) 100) → wp (if x = (0 : Int32) then (some ((υ.1 64 7), υ)) else (if x = (1 : Int32) then (some ((υ.1 64 9), υ)) else (if x = (2 : Int32) then (f_X10_count_b70 υ x) else (if x = (3 : Int32) then (f_X10_count_b70 υ x) else (if x = (4 : Int32) then (some ((υ.1 64 11), υ)) else (if x = (5 : Int32) then (bp (f_X10_throughNow υ) (fun v13 => (bp (f_X10_ones υ v13) (fun v15 => (some (v15, υ)))))) else (if x = (6 : Int32) then (bp (f_X10_allWait υ) (fun v18 => (some (v18, υ)))) else (if x = (7 : Int32) then (some ((υ.1 64 22), υ)) else (if x = (8 : Int32) then (some ((υ.1 64 4), υ)) else (some ((-2 : Int32), υ))))))))))) (fun o => o.1 = v ∧ o.2 = υ)) → wp (f_X10_count σ x) (fun o => o.1 = v ∧ ∃ υ : Mem, MX [71, 72] [7, 9] σ υ ∧ MW υ (nbB n0 t0) (kdB t0) (mkB t0) (mnB t0) (nkK n1 t1) (maK n1 t1) (bsK n1 t1) ns sb sm ng gt gk gb ∧ MF υ o.2) := by
    intro v hk
    unfold f_X10_count
    rw [show (99 : Int32) = nI 99 from rfl]
    refine hI.fnd (fun τ f M => wp_bv (wp_mono (lives_wp (by decide) M.ms) (fun υ g => wp_mono (hk τ υ f M g.1 g.2.1 g.2.2.2.2.1) (fun o q => ⟨q.1, τ, f, M, by rw [q.2]; exact g.1⟩))))
  unfold f_X9_count
  by_cases c0 : x = 0
  · subst c0
    exact ⟨_, rfl, ref (fun τ υ f M g p w => wp_some.mpr ⟨by show υ.1 64 7 = _; rw [g.2.1 7 (by decide), M.1.2.1, C.1.2.1], rfl⟩)⟩
  by_cases c1 : x = 1
  · subst c1
    exact ⟨_, rfl, ref (fun τ υ f M g p w => wp_some.mpr ⟨by show υ.1 64 9 = _; rw [g.2.1 9 (by decide), M.2.1.2.1, C.2.1.2.1], rfl⟩)⟩
  by_cases c2 : x = 2
  · subst c2
    exact ⟨_, rfl, ref (fun τ υ f M g p w => wp_some.mpr ⟨by
      show υ.1 70 0 = σ.1 2 1
      rw [g.1 70 (by decide), f.1 70 (by decide) (by decide), T.1.2.1, T.2.2.1], rfl⟩)⟩
  by_cases c3 : x = 3
  · subst c3
    exact ⟨_, rfl, ref (fun τ υ f M g p w => wp_some.mpr ⟨by
      show υ.1 70 1 = σ.1 4 1
      rw [g.1 70 (by decide), f.1 70 (by decide) (by decide), T.2.1.2.1, T.2.2.2.1], rfl⟩)⟩
  by_cases c4 : x = 4
  · subst c4
    exact ⟨_, rfl, ref (fun τ υ f M g p w => wp_some.mpr ⟨by show υ.1 64 11 = _; rw [g.2.1 11 (by decide), M.2.2.1.2.1, C.2.2.1.2.1], rfl⟩)⟩
  by_cases c5 : x = 5
  · subst c5
    rw [if_neg (by decide), if_neg (by decide), if_neg (by decide), if_neg (by decide), if_neg (by decide), if_pos rfl, throughCount_eq C.2.2.2.2.2, bp_some]
    refine ⟨_, rfl, ref (fun τ υ f M g p w => ?_)⟩
    refine wp_ie (by decide) (wp_ie (by decide) (wp_ie (by decide) (wp_ie (by decide) (wp_ie (by decide) (wp_it rfl (wp_bp (wp_mono (throughNow_wp (M.ms.fr g) p (fun k hk => ?_)) (fun v hv => wp_bpE (bt_ones hv) (wp_some.mpr ⟨rfl, rfl⟩)))))))))
    have := sim_le9 (lf := lfc (kdB t0) (mkB t0) (mnB t0) (maK n1 t1) (shc sb sm 255 ns)) (nk := nkK n1 t1) (st := bsK n1 t1) (t := 100) (k := k) C.1.1
    omega
  by_cases c6 : x = 6
  · subst c6
    rw [if_neg (by decide), if_neg (by decide), if_neg (by decide), if_neg (by decide), if_neg (by decide), if_neg (by decide), if_pos rfl, allWait_eq C.2.2.2.2.2, bp_some]
    refine ⟨_, rfl, ref (fun τ υ f M g p w => ?_)⟩
    exact wp_ie (by decide) (wp_ie (by decide) (wp_ie (by decide) (wp_ie (by decide) (wp_ie (by decide) (wp_ie (by decide) (wp_it rfl (wp_bpE (allWaitM_eq C.2.1.1 (by rw [g.2.1 9 (by decide), M.2.1.2.1]) w) (wp_some.mpr ⟨rfl, rfl⟩))))))))
  by_cases c7 : x = 7
  · subst c7
    exact ⟨_, rfl, ref (fun τ υ f M g p w => wp_some.mpr ⟨by show υ.1 64 22 = _; rw [g.2.1 22 (by decide), M.2.2.2.2.1, C.2.2.2.2.1.2.1], rfl⟩)⟩
  by_cases c8 : x = 8
  · subst c8
    exact ⟨_, rfl, ref (fun τ υ f M g p w => wp_some.mpr ⟨by show υ.1 64 4 = σ.1 0 12; rw [g.2.1 4 (by decide), f.2.1 4 (by decide), hI.2.2.2.2.1.2.1], rfl⟩)⟩
  · rw [if_neg c0, if_neg c1, if_neg c2, if_neg c3, if_neg c4, if_neg c5, if_neg c6, if_neg c7, if_neg c8]
    refine ⟨_, rfl, ref (fun τ υ f M g p w => ?_)⟩
    rw [if_neg c0, if_neg c1, if_neg c2, if_neg c3, if_neg c4, if_neg c5, if_neg c6, if_neg c7, if_neg c8]
    exact wp_some.mpr ⟨rfl, rfl⟩
theorem op_count (h : INV σ) (x : Int32) : wp (f_X9_count σ x) (fun r => wp (f_X10_count σ x) (fun o2 => o2.1 = r ∧ INV o2.2)) := by
  obtain ⟨n0, t0, n1, t1, ns, sb, sm, ng, gt, gk, gb, hI⟩ := h
  have hI : IN σ n0 t0 n1 t1 ns sb sm ng gt gk gb := hI
  obtain ⟨v, e, hv⟩ := count_both hI x
  exact ⟨v, e, wp_mono hv (fun o ⟨q, υ, f, _, g⟩ => ⟨q, hI.end2 f g⟩)⟩
end FST
