/-! 05a: the steps, as numbers: places of boats by step (0: not started, p + 1: at place p), when each place was passed, who slipped, who waited -/
/-- the least k < n with f, else n -/
def lst (f : Nat → Bool) : Nat → Nat
  | 0 => 0
  | n + 1 => if lst f n < n then lst f n else if f n then n else n + 1
theorem lst_le (f : Nat → Bool) (n : Nat) : lst f n ≤ n := by
  induction n with
  | zero => exact Nat.le_refl _
  | succ n ih =>
    unfold lst
    split
    · omega
    · split <;> omega
theorem lst_no {f : Nat → Bool} {n k : Nat} (h : k < lst f n) : f k = false := by
  induction n with
  | zero => exact absurd h (Nat.not_lt_zero k)
  | succ n ih =>
    have hl := lst_le f n
    unfold lst at h
    by_cases c : lst f n < n
    · rw [if_pos c] at h
      exact ih h
    · rw [if_neg c] at h
      by_cases c2 : f n = true
      · rw [if_pos c2] at h
        exact ih (by omega)
      · rw [if_neg c2] at h
        by_cases c3 : k = n
        · subst c3
          exact Bool.eq_false_iff.mpr c2
        · exact ih (by omega)
theorem lst_yes {f : Nat → Bool} {n : Nat} (h : lst f n < n) : f (lst f n) = true := by
  induction n with
  | zero => exact absurd h (Nat.not_lt_zero _)
  | succ n ih =>
    unfold lst at h ⊢
    by_cases c : lst f n < n
    · rw [if_pos c]
      exact ih c
    · rw [if_neg c] at h ⊢
      by_cases c2 : f n = true
      · rw [if_pos c2]
        exact c2
      · rw [if_neg c2] at h
        omega
theorem lst_eq {f : Nat → Bool} {n a : Nat} (h : a < n) (hf : f a = true) (hn : ∀ k, k < a → f k = false) : lst f n = a := by
  rcases Nat.lt_trichotomy (lst f n) a with q | q | q
  · have h1 := lst_yes (f := f) (n := n) (by omega)
    rw [hn _ q] at h1
    cases h1
  · exact q
  · have h1 := lst_no q
    rw [hf] at h1
    cases h1
theorem lst_none {f : Nat → Bool} {n : Nat} (hn : ∀ k, k < n → f k = false) : lst f n = n := by
  have h1 := lst_le f n
  rcases Nat.lt_or_ge (lst f n) n with q | q
  · have h2 := lst_yes q
    rw [hn _ q] at h2
    cases h2
  · omega
theorem lst_congr {f g : Nat → Bool} {n : Nat} (h : ∀ k, k < n → f k = g k) : lst f n = lst g n := by
  induction n with
  | zero => rfl
  | succ n ih =>
    unfold lst
    rw [ih (fun k hk => h k (by omega)), h n (by omega)]
def sA (lf : Nat → Nat → Bool) (nk : Nat) (X : Nat → Nat) (p : Nat) : Nat := lst (fun k => decide (X k = p + 1) && lf p k) nk
def sB (lf : Nat → Nat → Bool) (nk : Nat) (X : Nat → Nat) (p : Nat) : Nat := lst (fun k => decide (X k = p + 1) && decide (k ≠ sA lf nk X p)) nk
/-- does k go on, of places X -/
def sM (lf : Nat → Nat → Bool) (nk P : Nat) (X : Nat → Nat) (k : Nat) : Bool := decide (k < nk ∧ 1 ≤ X k ∧ X k ≤ P ∧ sA lf nk X (X k - 1) < nk ∧ (k = sA lf nk X (X k - 1) ∨ k = sB lf nk X (X k - 1)))
def sX (st : Nat → Nat) (t : Nat) (pos : Nat → Nat) (k : Nat) : Nat := if st k = t then 1 else pos k
def sN (lf : Nat → Nat → Bool) (nk P : Nat) (X : Nat → Nat) (k : Nat) : Nat := if sM lf nk P X k = true then X k + 1 else X k
def sim (lf : Nat → Nat → Bool) (nk P : Nat) (st : Nat → Nat) : Nat → Nat → Nat
  | 0 => fun _ => 0
  | t + 1 => sN lf nk P (sX st t (sim lf nk P st t))
def pas (lf : Nat → Nat → Bool) (nk P : Nat) (st : Nat → Nat) : Nat → Nat → Nat → Nat
  | 0 => fun _ _ => 100
  | t + 1 => fun p k => if sM lf nk P (sX st t (sim lf nk P st t)) k = true ∧ sX st t (sim lf nk P st t) k = p + 1 then t else pas lf nk P st t p k
def slp (lf : Nat → Nat → Bool) (nk P : Nat) (st : Nat → Nat) : Nat → Nat → Nat → Bool
  | 0 => fun _ _ => false
  | t + 1 => fun p k => if sM lf nk P (sX st t (sim lf nk P st t)) k = true ∧ sX st t (sim lf nk P st t) k = p + 1 then decide (k ≠ sA lf nk (sX st t (sim lf nk P st t)) p) else slp lf nk P st t p k
/-- does k wait in step t -/
def wat (lf : Nat → Nat → Bool) (nk P : Nat) (st : Nat → Nat) (t k : Nat) : Bool := decide (1 ≤ sim lf nk P st (t + 1) k ∧ sim lf nk P st (t + 1) k ≤ P ∧ ¬ sM lf nk P (sX st t (sim lf nk P st t)) k = true)
def wts (lf : Nat → Nat → Bool) (nk P : Nat) (st : Nat → Nat) : Nat → Nat → Nat
  | 0 => fun _ => 0
  | t + 1 => fun k => if wat lf nk P st t k = true then wts lf nk P st t k + 1 else wts lf nk P st t k
section SIM
variable {lf : Nat → Nat → Bool} {nk P : Nat} {st : Nat → Nat} {k : Nat}
theorem sM_iff {X : Nat → Nat} : sM lf nk P X k = true ↔ k < nk ∧ 1 ≤ X k ∧ X k ≤ P ∧ sA lf nk X (X k - 1) < nk ∧ (k = sA lf nk X (X k - 1) ∨ k = sB lf nk X (X k - 1)) := by
  unfold sM
  exact decide_eq_true_iff
theorem sM_congr {X Y : Nat → Nat} (h : ∀ j, j < nk → X j = Y j) (hk : k < nk) : sM lf nk P X k = sM lf nk P Y k := by
  have hA : ∀ p, sA lf nk X p = sA lf nk Y p := fun p => lst_congr (fun j hj => by rw [h j hj])
  have hB : ∀ p, sB lf nk X p = sB lf nk Y p := fun p => lst_congr (fun j hj => by rw [h j hj, hA p])
  unfold sM
  rw [h k hk, hA, hB]
theorem sim_succ {t : Nat} : sim lf nk P st (t + 1) = sN lf nk P (sX st t (sim lf nk P st t)) := rfl
theorem sX_of {t : Nat} {pos : Nat → Nat} (h : st k < t) : sX st t pos k = pos k := by
  unfold sX
  exact if_neg (by omega)
theorem sX_at {pos : Nat → Nat} : sX st (st k) pos k = 1 := by
  unfold sX
  exact if_pos rfl
theorem sim_before {t : Nat} (h : t ≤ st k) : sim lf nk P st t k = 0 := by
  induction t with
  | zero => rfl
  | succ t ih =>
    have h0 := ih (by omega)
    have hX : sX st t (sim lf nk P st t) k = 0 := by
      unfold sX
      rw [if_neg (by omega), h0]
    rw [sim_succ]
    unfold sN
    rw [if_neg, hX]
    intro q
    have := (sM_iff.mp q).2.1
    omega
theorem sim_mv {t : Nat} (h : sM lf nk P (sX st t (sim lf nk P st t)) k = true) : sim lf nk P st (t + 1) k = sX st t (sim lf nk P st t) k + 1 := by
  rw [sim_succ]
  unfold sN
  exact if_pos h
theorem sim_st {t : Nat} (h : ¬ sM lf nk P (sX st t (sim lf nk P st t)) k = true) : sim lf nk P st (t + 1) k = sX st t (sim lf nk P st t) k := by
  rw [sim_succ]
  unfold sN
  exact if_neg h
theorem sim_rng {t : Nat} (h : st k < t) : 1 ≤ sim lf nk P st t k ∧ sim lf nk P st t k ≤ P + 1 := by
  induction t with
  | zero => omega
  | succ t ih =>
    have hX : 1 ≤ sX st t (sim lf nk P st t) k ∧ sX st t (sim lf nk P st t) k ≤ P + 1 := by
      by_cases c : st k = t
      · rw [← c, sX_at]
        omega
      · rw [sX_of (by omega)]
        exact ih (by omega)
    by_cases c : sM lf nk P (sX st t (sim lf nk P st t)) k = true
    · rw [sim_mv c]
      have := (sM_iff.mp c).2.2.1
      omega
    · rw [sim_st c]
      exact hX
theorem sim_mono {t u : Nat} (h : st k < t) (hu : t ≤ u) : sim lf nk P st t k ≤ sim lf nk P st u k := by
  induction u with
  | zero => omega
  | succ u ih =>
    by_cases c0 : t = u + 1
    · rw [c0]
      exact Nat.le_refl _
    · have h1 := ih (by omega)
      have hX : sX st u (sim lf nk P st u) k = sim lf nk P st u k := sX_of (by omega)
      by_cases c : sM lf nk P (sX st u (sim lf nk P st u)) k = true
      · rw [sim_mv c, hX]
        omega
      · rw [sim_st c, hX]
        exact h1
theorem pas_before {t p : Nat} (h : t ≤ st k) : pas lf nk P st t p k = 100 := by
  induction t with
  | zero => rfl
  | succ t ih =>
    show (if _ then t else _) = 100
    rw [if_neg, ih (by omega)]
    intro q
    have h1 := (sM_iff.mp q.1).2.1
    have hX : sX st t (sim lf nk P st t) k = 0 := by
      unfold sX
      rw [if_neg (by omega), sim_before (by omega)]
    omega
theorem pas_mv {t p : Nat} (h : sM lf nk P (sX st t (sim lf nk P st t)) k = true ∧ sX st t (sim lf nk P st t) k = p + 1) : pas lf nk P st (t + 1) p k = t := if_pos h
theorem pas_st {t p : Nat} (h : ¬ (sM lf nk P (sX st t (sim lf nk P st t)) k = true ∧ sX st t (sim lf nk P st t) k = p + 1)) : pas lf nk P st (t + 1) p k = pas lf nk P st t p k := if_neg h
theorem pas_rng {t p : Nat} (h : st k < t) (ht : t ≤ 100) : (p + 2 ≤ sim lf nk P st t k → st k + p ≤ pas lf nk P st t p k ∧ pas lf nk P st t p k < t) ∧ (sim lf nk P st t k ≤ p + 1 → pas lf nk P st t p k = 100) := by
  induction t with
  | zero => omega
  | succ t ih =>
    have hold : (p + 2 ≤ sX st t (sim lf nk P st t) k → st k + p ≤ pas lf nk P st t p k ∧ pas lf nk P st t p k < t) ∧ (sX st t (sim lf nk P st t) k ≤ p + 1 → pas lf nk P st t p k = 100) := by
      by_cases c : st k = t
      · rw [pas_before (by omega)]
        have : sX st t (sim lf nk P st t) k = 1 := by rw [← c, sX_at]
        exact ⟨fun q => by omega, fun _ => rfl⟩
      · rw [sX_of (by omega)]
        exact ih (by omega) (by omega)
    have hlow : sX st t (sim lf nk P st t) k ≤ t - st k + 1 := by
      by_cases c : st k = t
      · rw [← c, sX_at]
        omega
      · rw [sX_of (by omega)]
        clear hold ih
        have key : ∀ u, st k < u → sim lf nk P st u k ≤ u - st k + 1 := by
          intro u
          induction u with
          | zero => intro q; omega
          | succ u ihu =>
            intro q
            have hx : sX st u (sim lf nk P st u) k ≤ u - st k + 1 := by
              by_cases c2 : st k = u
              · rw [← c2, sX_at]
                omega
              · rw [sX_of (by omega)]
                exact ihu (by omega)
            by_cases c3 : sM lf nk P (sX st u (sim lf nk P st u)) k = true
            · rw [sim_mv c3]
              omega
            · rw [sim_st c3]
              omega
        exact key t (by omega)
    by_cases c : sM lf nk P (sX st t (sim lf nk P st t)) k = true
    · rw [sim_mv c]
      by_cases c2 : sX st t (sim lf nk P st t) k = p + 1
      · rw [pas_mv ⟨c, c2⟩]
        exact ⟨fun _ => by omega, fun q => by omega⟩
      · rw [pas_st (fun q => c2 q.2)]
        exact ⟨fun q => by have := hold.1 (by omega); omega, fun q => hold.2 (by omega)⟩
    · rw [sim_st c, pas_st (fun q => c q.1)]
      exact ⟨fun q => by have := hold.1 q; omega, hold.2⟩
/-- a boat that has started has passed place p behind step u iff its place then is higher -/
theorem pas_le {t u p : Nat} (h : st k ≤ u) (hu : u < t) (ht : t ≤ 100) : pas lf nk P st t p k ≤ u ↔ p + 2 ≤ sim lf nk P st (u + 1) k := by
  induction t with
  | zero => omega
  | succ t ih =>
    by_cases c0 : u = t
    · subst c0
      have := pas_rng (lf := lf) (nk := nk) (P := P) (st := st) (k := k) (t := u + 1) (p := p) (by omega) ht
      constructor
      · intro q
        rcases Nat.lt_or_ge (sim lf nk P st (u + 1) k) (p + 2) with w | w
        · have := this.2 (by omega)
          omega
        · exact w
      · intro q
        have := this.1 q
        omega
    · have h1 := ih (by omega) (by omega)
      by_cases c : sM lf nk P (sX st t (sim lf nk P st t)) k = true ∧ sX st t (sim lf nk P st t) k = p + 1
      · rw [pas_mv c]
        have hX : sX st t (sim lf nk P st t) k = sim lf nk P st t k := sX_of (by omega)
        have hm := sim_mono (lf := lf) (nk := nk) (P := P) (st := st) (k := k) (t := u + 1) (u := t) (by omega) (by omega)
        rw [← hX, c.2] at hm
        omega
      · rw [pas_st c]
        exact h1
theorem wts_before {t : Nat} (h : t ≤ st k) : wts lf nk P st t k = 0 := by
  induction t with
  | zero => rfl
  | succ t ih =>
    show (if _ then _ else _) = 0
    rw [if_neg, ih (by omega)]
    unfold wat
    rw [decide_eq_true_iff, sim_before (by omega)]
    omega
theorem wts_mv {t : Nat} (h : wat lf nk P st t k = true) : wts lf nk P st (t + 1) k = wts lf nk P st t k + 1 := if_pos h
theorem wts_st {t : Nat} (h : ¬ wat lf nk P st t k = true) : wts lf nk P st (t + 1) k = wts lf nk P st t k := if_neg h
theorem wat_iff {t : Nat} : wat lf nk P st t k = true ↔ 1 ≤ sim lf nk P st (t + 1) k ∧ sim lf nk P st (t + 1) k ≤ P ∧ ¬ sM lf nk P (sX st t (sim lf nk P st t)) k = true := by
  unfold wat
  exact decide_eq_true_iff
/-- how long a boat has waited: by its place, or by when it was through -/
theorem wts_rng {t : Nat} (h : st k < t) : (sim lf nk P st t k ≤ P → wts lf nk P st t k + sim lf nk P st t k + st k = t + 1) ∧ (sim lf nk P st t k = P + 1 → (P = 0 → wts lf nk P st t k = 0) ∧ (0 < P → wts lf nk P st t k + P + st k = pas lf nk P st t (P - 1) k + 1)) := by
  induction t with
  | zero => omega
  | succ t ih =>
    have hX : sX st t (sim lf nk P st t) k = 1 ∧ wts lf nk P st t k = 0 ∧ st k = t ∨ sX st t (sim lf nk P st t) k = sim lf nk P st t k ∧ st k < t := by
      by_cases c : st k = t
      · exact Or.inl ⟨by rw [← c, sX_at], wts_before (by omega), c⟩
      · exact Or.inr ⟨sX_of (by omega), by omega⟩
    by_cases c : sM lf nk P (sX st t (sim lf nk P st t)) k = true
    · have hle := (sM_iff.mp c).2.2.1
      have hge := (sM_iff.mp c).2.1
      have hs := sim_mv c
      have hw := wts_st (t := t) (fun q => (wat_iff.mp q).2.2 c)
      rw [hw]
      rcases hX with ⟨x1, x2, x3⟩ | ⟨x1, x2⟩
      · refine ⟨fun q => by omega, fun q => ⟨fun z => by omega, fun z => ?_⟩⟩
        rw [pas_mv ⟨c, by omega⟩]
        omega
      · have hi := ih x2
        refine ⟨fun q => by have := hi.1 (by omega); omega, fun q => ⟨fun z => by omega, fun z => ?_⟩⟩
        rw [pas_mv ⟨c, by omega⟩]
        have := hi.1 (by omega)
        omega
    · have hs := sim_st c
      have hp : ∀ p, pas lf nk P st (t + 1) p k = pas lf nk P st t p k := fun p => pas_st (fun q => c q.1)
      rcases hX with ⟨x1, x2, x3⟩ | ⟨x1, x2⟩
      · by_cases w : wat lf nk P st t k = true
        · have w2 := wat_iff.mp w
          rw [wts_mv w]
          exact ⟨fun q => by omega, fun q => by omega⟩
        · rw [wts_st w]
          have w2 : ¬ sim lf nk P st (t + 1) k ≤ P := fun q => w (wat_iff.mpr ⟨by omega, q, c⟩)
          exact ⟨fun q => absurd q w2, fun q => ⟨fun _ => x2, fun z => by omega⟩⟩
      · have hi := ih x2
        by_cases w : wat lf nk P st t k = true
        · have w2 := wat_iff.mp w
          rw [wts_mv w]
          exact ⟨fun q => by have := hi.1 (by omega); omega, fun q => by omega⟩
        · rw [wts_st w]
          have hr := sim_rng (lf := lf) (nk := nk) (P := P) (st := st) (k := k) (t := t + 1) h
          have w2 : ¬ sim lf nk P st (t + 1) k ≤ P := fun q => w (wat_iff.mpr ⟨hr.1, q, c⟩)
          refine ⟨fun q => absurd q w2, fun q => ?_⟩
          rw [hp]
          exact hi.2 (by omega)
/-- when none goes on and all have started, none ever will -/
theorem sim_stop {t u : Nat} (h : ∀ j, j < nk → st j ≤ t) (hM : ∀ j, j < nk → sM lf nk P (sX st t (sim lf nk P st t)) j = false) (hu : t + 1 ≤ u) : (∀ j, j < nk → sim lf nk P st u j = sim lf nk P st (t + 1) j) ∧ (∀ p j, j < nk → pas lf nk P st u p j = pas lf nk P st (t + 1) p j) ∧ ∀ p j, j < nk → slp lf nk P st u p j = slp lf nk P st (t + 1) p j := by
  induction u with
  | zero => omega
  | succ u ih =>
    by_cases c0 : t = u
    · subst c0
      exact ⟨fun _ _ => rfl, fun _ _ _ => rfl, fun _ _ _ => rfl⟩
    · obtain ⟨i1, i2, i3⟩ := ih (by omega)
      have hfix : ∀ j, j < nk → sim lf nk P st (t + 1) j = sX st t (sim lf nk P st t) j := fun j hj => sim_st (by rw [hM j hj]; decide)
      have hX : ∀ j, j < nk → sX st u (sim lf nk P st u) j = sX st t (sim lf nk P st t) j := fun j hj => by
        rw [sX_of (by have := h j hj; omega), i1 j hj, hfix j hj]
      have hM2 : ∀ j, j < nk → ¬ sM lf nk P (sX st u (sim lf nk P st u)) j = true := fun j hj => by
        rw [sM_congr hX hj, hM j hj]
        decide
      refine ⟨fun j hj => ?_, fun p j hj => ?_, fun p j hj => ?_⟩
      · rw [sim_st (hM2 j hj), hX j hj, hfix j hj]
      · rw [pas_st (fun q => hM2 j hj q.1), i2 p j hj]
      · rw [← i3 p j hj]
        exact if_neg (fun q => hM2 j hj q.1)
/-- a boat that has passed each place at once has not waited -/
theorem run_on {b : Nat} (hb : b ≤ P) (hs : st k + P ≤ 100) (h : ∀ q, q < b → pas lf nk P st 100 q k = st k + q) : (1 ≤ b → sim lf nk P st (st k + b) k = b + 1) ∧ ∀ t, t < st k + b → wat lf nk P st t k = false := by
  induction b with
  | zero =>
    refine ⟨fun q => by omega, fun t ht => ?_⟩
    rcases hw : wat lf nk P st t k with _ | _
    · rfl
    · have := (wat_iff.mp hw).1
      rw [sim_before (by omega)] at this
      omega
  | succ b ih =>
    obtain ⟨i1, i2⟩ := ih (by omega) (fun q hq => h q (by omega))
    have hp := h b (by omega)
    have hle := (pas_le (lf := lf) (nk := nk) (P := P) (st := st) (k := k) (t := 100) (u := st k + b) (p := b) (by omega) (by omega) (by omega)).mp (by omega)
    have hX : sX st (st k + b) (sim lf nk P st (st k + b)) k = b + 1 := by
      by_cases c : b = 0
      · subst c
        rw [Nat.add_zero, sX_at]
      · rw [sX_of (by omega), i1 (by omega)]
    have hmv : sM lf nk P (sX st (st k + b) (sim lf nk P st (st k + b))) k = true := by
      rcases hm : sM lf nk P (sX st (st k + b) (sim lf nk P st (st k + b))) k with _ | _
      · have := sim_st (lf := lf) (nk := nk) (P := P) (st := st) (k := k) (t := st k + b) (by rw [hm]; decide)
        omega
      · rfl
    have hsim := sim_mv hmv
    refine ⟨fun _ => by rw [← Nat.add_assoc]; omega, fun t ht => ?_⟩
    by_cases c : t = st k + b
    · subst c
      rcases hw : wat lf nk P st (st k + b) k with _ | _
      · rfl
      · exact absurd hmv (wat_iff.mp hw).2.2
    · exact i2 t (by omega)
theorem run_waits {b : Nat} (hb : b < P) (hs : st k + P ≤ 100) (h : ∀ q, q < b → pas lf nk P st 100 q k = st k + q) (hn : pas lf nk P st 100 b k ≠ st k + b) : wat lf nk P st (st k + b) k = true := by
  obtain ⟨i1, i2⟩ := run_on (lf := lf) (nk := nk) (k := k) (Nat.le_of_lt hb) hs h
  have hX : sX st (st k + b) (sim lf nk P st (st k + b)) k = b + 1 := by
    by_cases c : b = 0
    · subst c
      rw [Nat.add_zero, sX_at]
    · rw [sX_of (by omega), i1 (by omega)]
  have hmv : ¬ sM lf nk P (sX st (st k + b) (sim lf nk P st (st k + b))) k = true := by
    intro hm
    have h1 := sim_mv hm
    have hle := (pas_le (lf := lf) (nk := nk) (P := P) (st := st) (k := k) (t := 100) (u := st k + b) (p := b) (by omega) (by omega) (by omega)).mpr (by omega)
    have hr := pas_rng (lf := lf) (nk := nk) (P := P) (st := st) (k := k) (t := 100) (p := b) (by omega) (Nat.le_refl _)
    have hmo := sim_mono (lf := lf) (nk := nk) (P := P) (st := st) (k := k) (t := st k + b + 1) (u := 100) (by omega) (by omega)
    have := hr.1 (by omega)
    omega
  have h1 := sim_st hmv
  exact wat_iff.mpr ⟨by omega, by omega, hmv⟩
theorem run_never (hs : st k + P ≤ 100) (h : ∀ q, q < P → pas lf nk P st 100 q k = st k + q) {t : Nat} : wat lf nk P st t k = false := by
  obtain ⟨i1, i2⟩ := run_on (lf := lf) (nk := nk) (k := k) (Nat.le_refl P) hs h
  rcases Nat.lt_or_ge t (st k + P) with q | q
  · exact i2 t q
  · rcases hw : wat lf nk P st t k with _ | _
    · rfl
    · have h1 := (wat_iff.mp hw).2.1
      have h2 : P + 1 ≤ sim lf nk P st (t + 1) k := by
        by_cases c : P = 0
        · have := (sim_rng (lf := lf) (nk := nk) (P := P) (st := st) (k := k) (t := t + 1) (by omega)).1
          omega
        · have := sim_mono (lf := lf) (nk := nk) (P := P) (st := st) (k := k) (t := st k + P) (u := t + 1) (by omega) (by omega)
          rw [i1 (by omega)] at this
          exact this
      omega
end SIM
