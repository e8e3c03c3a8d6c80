/-! 06c: what a voyage of the class answers -/
def Vok (σ : Mem) (r : Nat) (lf : Nat → Nat → Bool) (nk P : Nat) (st : Nat → Nat) : Prop := Vin σ r lf nk P st ∧ Vp σ r nk P (pas lf nk P st 100) ∧ Vs σ r nk P (slp lf nk P st 100)
/-- the sum of f over k < n -/
def smn (f : Nat → Nat) : Nat → Nat
  | 0 => 0
  | n + 1 => smn f n + f n
theorem smn_le {f : Nat → Nat} {c : Nat} : ∀ {n : Nat}, (∀ k, k < n → f k ≤ c) → smn f n ≤ n * c
  | 0, _ => Nat.zero_le _
  | n + 1, h => by
    have h1 := smn_le (n := n) (fun k hk => h k (by omega))
    have h2 := h n (by omega)
    have h3 : (n + 1) * c = n * c + c := Nat.succ_mul n c
    have h4 : smn f (n + 1) = smn f n + f n := rfl
    omega
theorem smn_congr {f g : Nat → Nat} : ∀ {n : Nat}, (∀ k, k < n → f k = g k) → smn f n = smn g n
  | 0, _ => rfl
  | n + 1, h => by
    show smn f n + f n = smn g n + g n
    rw [smn_congr (fun k hk => h k (by omega)), h n (by omega)]
def fwt (lf : Nat → Nat → Bool) (nk P : Nat) (st : Nat → Nat) (k : Nat) : Nat := if lst (fun b => decide (pas lf nk P st 100 b k ≠ st k + b)) P < P then st k + lst (fun b => decide (pas lf nk P st 100 b k ≠ st k + b)) P else 100
section ASK
variable {lf : Nat → Nat → Bool} {nk P r : Nat} {st : Nat → Nat} {σ τ : Mem}
theorem nI_not_le {a b : Nat} (h : ¬ nI a ≤ nI b) (ha : a < 2 ^ 31) (hb : b < 2 ^ 31) : b < a := by
  rcases Nat.lt_or_ge b a with q | q
  · exact q
  · exact absurd ((nI_leI ha hb).mpr q) h
theorem passStep_eq (h : Vok σ r lf nk P st) {p k : Nat} (hp : p < P) (hk : k < nk) : f_X8_passStep σ r (nI p) (nI k) = some (nI (pas lf nk P st 100 p k)) := by
  obtain ⟨⟨hP, hn, -⟩, h2, -⟩ := h
  unfold f_X8_passStep
  have e1 : nI p * (8 : Int32) + nI k = nI (p * 8 + k) := by rw [nI_lit 8, pk_mul, nI_add]
  rw [e1, ck_N (by omega) (by omega), nI_clamp (by omega), h2 p k hp hk]
theorem pas_100 {p k : Nat} : pas lf nk P st 100 p k ≤ 100 := by
  have : ∀ t, t ≤ 100 → pas lf nk P st t p k ≤ 100 := by
    intro t
    induction t with
    | zero => intro _; exact Nat.le_refl _
    | succ t ih =>
      intro ht
      by_cases c : sM lf nk P (sX st t (sim lf nk P st t)) k = true ∧ sX st t (sim lf nk P st t) k = p + 1
      · rw [pas_mv c]; omega
      · rw [pas_st c]; exact ih (by omega)
  exact this 100 (Nat.le_refl _)
theorem placeOf_loop (h : Vok σ r lf nk P st) {t k : Nat} (ht : t < 100) (hk : k < nk) (hs : st k ≤ t) : ∀ (m j : Nat), j + 1 ≤ sim lf nk P st (t + 1) k → P < j + m → f_X8_placeOf_b14 σ m r (nI t) (nI k) (nI j) = some (nI (sim lf nk P st (t + 1) k - 1)) := by
  intro m
  have hr := sim_rng (lf := lf) (nk := nk) (P := P) (st := st) (k := k) (t := t + 1) (by omega)
  have hP := h.1.1
  induction m with
  | zero => intro j h1 h2; omega
  | succ m ih =>
    intro j h1 h2
    rw [f_X8_placeOf_b14, h.1.2.2.1]
    by_cases c : P ≤ j
    · rw [if_pos ((nI_leI (by omega) (by omega)).mpr c)]
      have : sim lf nk P st (t + 1) k - 1 = j := by omega
      rw [this]
    · rw [if_neg (fun q => c ((nI_leI (by omega) (by omega)).mp q)), passStep_eq h (by omega) hk, bp_some]
      have hp := pas_100 (lf := lf) (nk := nk) (P := P) (st := st) (p := j) (k := k)
      have hle := pas_le (lf := lf) (nk := nk) (P := P) (st := st) (k := k) (t := 100) (u := t) (p := j) hs ht (Nat.le_refl _)
      by_cases c2 : t < pas lf nk P st 100 j k
      · rw [if_pos ((nI_ltI (by omega) (by omega)).mpr c2)]
        have : sim lf nk P st (t + 1) k - 1 = j := by
          have : ¬ j + 2 ≤ sim lf nk P st (t + 1) k := fun q => by have := hle.mpr q; omega
          omega
        rw [this]
      · rw [if_neg (fun q => c2 ((nI_ltI (by omega) (by omega)).mp q)), nI_1]
        exact ih (j + 1) (hle.mp (by omega)) (by omega)
theorem placeOf_eq (h : Vok σ r lf nk P st) {t k : Nat} (ht : t < 100) (hk : k < nk) : f_X8_placeOf σ r (nI t) (nI k) = some (nI (sim lf nk P st (t + 1) k) - 1) := by
  obtain ⟨hP, hn, -, -, hst, -⟩ := h.1
  obtain ⟨es, hs⟩ := hst k hk
  unfold f_X8_placeOf
  rw [ck_N (by omega) (by omega), nI_clamp (by omega), es]
  by_cases c : st k ≤ t
  · rw [if_pos ((nI_leI (by omega) (by omega)).mpr c)]
    have hr := sim_rng (lf := lf) (nk := nk) (P := P) (st := st) (k := k) (t := t + 1) (by omega)
    rw [show (0 : Int32) = nI 0 from rfl, placeOf_loop h ht hk c 300 0 (by omega) (by omega)]
    obtain ⟨z, hz⟩ : ∃ z, sim lf nk P st (t + 1) k = z + 1 := ⟨_, (Nat.sub_add_cancel hr.1).symm⟩
    rw [hz, nI_pred]
    rfl
  · rw [if_neg (fun q => c ((nI_leI (by omega) (by omega)).mp q)), sim_before (by omega)]
    rfl
theorem sim_le9 (hP : P ≤ 8) {t k : Nat} : sim lf nk P st t k ≤ 9 := by
  by_cases c : st k < t
  · have := sim_rng (lf := lf) (nk := nk) (P := P) (st := st) (k := k) c
    omega
  · rw [sim_before (by omega)]
    omega
theorem nI_m1_eq {a b : Nat} (ha : a < 1000) (hb : b < 1000) : nI a - 1 = nI b ↔ a = b + 1 := by
  cases a with
  | zero =>
    constructor
    · intro q
      exact absurd q.symm (nI_neg1 (by omega))
    · intro q; omega
  | succ a =>
    rw [nI_pred, nI_eq (by omega) (by omega)]
    omega
theorem isThrough_eq (h : Vok σ r lf nk P st) {t k : Nat} (ht : t < 100) (hk : k < nk) : f_X8_isThrough σ r (nI t) (nI k) = some (if sim lf nk P st (t + 1) k = P + 1 then 1 else 0) := by
  have h9 := sim_le9 (lf := lf) (nk := nk) (st := st) (t := t + 1) (k := k) h.1.1
  have hP := h.1.1
  unfold f_X8_isThrough
  rw [placeOf_eq h ht hk, bp_some, h.1.2.2.1]
  by_cases c : sim lf nk P st (t + 1) k = P + 1
  · rw [if_pos ((nI_m1_eq (by omega) (by omega)).mpr c), if_pos c]
  · rw [if_neg (fun q => c ((nI_m1_eq (by omega) (by omega)).mp q)), if_neg c]
theorem throughBits_loop (h : Vok σ r lf nk P st) {t : Nat} (ht : t < 100) : ∀ (m j : Nat) (x : Int32), j ≤ nk → nk < j + m → bt x (fun k => decide (k < j) && decide (sim lf nk P st (t + 1) k = P + 1)) → wp (f_X8_throughBits_b4 σ m r (nI t) x (nI j)) (fun v => bt v (fun k => decide (k < nk) && decide (sim lf nk P st (t + 1) k = P + 1))) := by
  intro m
  have hn := h.1.2.1
  induction m with
  | zero => intro j x h1 h2; omega
  | succ m ih =>
    intro j x h1 h2 hb
    rw [f_X8_throughBits_b4, h.1.2.2.2.1]
    refine wp_ite (fun c => ?_) (fun c => ?_)
    · rw [nI_leI (by omega) (by omega)] at c
      have e : j = nk := by omega
      subst e
      exact wp_some.mpr hb
    · have hj := nI_not_le c (by omega) (by omega)
      rw [isThrough_eq h ht hj, bp_some]
      unfold f_X8_throughBits_b27
      rw [nI_1]
      by_cases ct : sim lf nk P st (t + 1) j = P + 1
      · rw [if_pos ct]
        refine wp_ie (by decide) (ih (j + 1) _ (by omega) (by omega) (bt_congr (bt_set hb (by omega)) (fun k _ => ?_)))
        by_cases e : k = j
        · subst e
          simp [ct]
        · have : k < j + 1 ↔ k < j := by omega
          simp [e, this]
      · rw [if_neg ct]
        refine wp_it rfl (ih (j + 1) _ (by omega) (by omega) (bt_congr hb (fun k _ => ?_)))
        by_cases e : k = j
        · subst e
          simp [ct]
        · have : k < j + 1 ↔ k < j := by omega
          simp [this]
theorem throughBits_wp (h : Vok σ r lf nk P st) {t : Nat} (ht : t < 100) : wp (f_X8_throughBits σ r (nI t)) (fun v => bt v (fun k => decide (k < nk) && decide (sim lf nk P st (t + 1) k = P + 1))) := by
  unfold f_X8_throughBits
  exact throughBits_loop h ht 300 0 0 (Nat.zero_le _) (by have := h.1.2.1; omega) (bt_congr bt_0 (fun k _ => by simp))
theorem wts_100 {k : Nat} (hs : st k < 10) : wts lf nk P st 100 k ≤ 100 := by
  have h := wts_rng (lf := lf) (nk := nk) (P := P) (st := st) (k := k) (t := 100) (by omega)
  have hr := sim_rng (lf := lf) (nk := nk) (P := P) (st := st) (k := k) (t := 100) (by omega)
  by_cases c : sim lf nk P st 100 k ≤ P
  · have := h.1 c
    omega
  · have := h.2 (by omega)
    by_cases c0 : P = 0
    · rw [this.1 c0]; omega
    · have h3 := this.2 (by omega)
      have h4 := (pas_rng (lf := lf) (nk := nk) (P := P) (st := st) (k := k) (t := 100) (p := P - 1) (by omega) (Nat.le_refl _)).1 (by omega)
      omega
theorem throughStep_eq (h : Vok σ r lf nk P st) {k : Nat} (hk : k < nk) : f_X8_throughStep σ r (nI k) = some (nI (if P = 0 then st k else pas lf nk P st 100 (P - 1) k)) := by
  obtain ⟨hP, hn, e5, -, hst, -⟩ := id h.1
  obtain ⟨es, hs⟩ := hst k hk
  unfold f_X8_throughStep
  rw [e5]
  by_cases c : P = 0
  · rw [if_pos (by rw [c]; rfl), if_pos c, ck_N (by omega) (by omega), nI_clamp (by omega), es]
  · rw [if_neg (nI_ne0 (by omega) (by omega)), if_neg c]
    obtain ⟨z, hz⟩ : ∃ z, P = z + 1 := ⟨P - 1, by omega⟩
    rw [show nI P - 1 = nI (P - 1) by rw [hz]; exact nI_pred z, passStep_eq h (by omega) hk, bp_some]
theorem waitOf_eq (h : Vok σ r lf nk P st) {k : Nat} (hk : k < nk) : f_X8_waitOf σ r (nI k) = some (nI (wts lf nk P st 100 k)) := by
  obtain ⟨hP, hn, e5, -, hst, -⟩ := id h.1
  obtain ⟨es, hs⟩ := hst k hk
  have hw := wts_rng (lf := lf) (nk := nk) (P := P) (st := st) (k := k) (t := 100) (by omega)
  have hr := sim_rng (lf := lf) (nk := nk) (P := P) (st := st) (k := k) (t := 100) (by omega)
  have hp := pas_rng (lf := lf) (nk := nk) (P := P) (st := st) (k := k) (t := 100) (p := P - 1) (by omega) (Nat.le_refl _)
  unfold f_X8_waitOf
  rw [e5]
  by_cases c : P = 0
  · rw [if_pos (by rw [c]; rfl), (hw.2 (by omega)).1 c]
    rfl
  · rw [if_neg (nI_ne0 (by omega) (by omega)), throughStep_eq h hk, if_neg c, bp_some, ck_N (by omega) (by omega), show (99 : Int32) = nI 99 from rfl, placeOf_eq h (by omega) hk, bp_some, nI_clamp (by omega), es, nI_1]
    obtain ⟨z, hz⟩ : ∃ z, sim lf nk P st (99 + 1) k = z + 1 := ⟨_, (Nat.sub_add_cancel hr.1).symm⟩
    rw [hz, nI_pred]
    have e99 : sim lf nk P st 100 k = z + 1 := hz
    by_cases c2 : sim lf nk P st 100 k ≤ P
    · have h1 := hw.1 c2
      have h2 := hp.2 (by omega)
      rw [h2, show (100 : Int32) = nI 100 from rfl, if_pos ((nI_ltI (by omega) (by omega)).mpr (by omega)), pk_sub (by omega), pk_sub (by omega)]
      have : 100 - st k - z = wts lf nk P st 100 k := by omega
      rw [this]
    · have h1 := (hw.2 (by omega)).2 (by omega)
      have h2 := hp.1 (by omega)
      rw [show (100 : Int32) = nI 100 from rfl, if_neg (fun q => by have := (nI_ltI (by omega) (by omega)).mp q; omega), pk_sub (by omega), pk_sub (by omega)]
      have : pas lf nk P st 100 (P - 1) k + 1 - st k - z = wts lf nk P st 100 k := by omega
      rw [this]
theorem allWait_loop (h : Vok σ r lf nk P st) : ∀ (m j : Nat), j ≤ nk → nk < j + m → f_X8_allWait_b4 σ m r (nI (smn (wts lf nk P st 100) j)) (nI j) = some (nI (smn (wts lf nk P st 100) nk)) := by
  intro m
  have hn := h.1.2.1
  induction m with
  | zero => intro j h1 h2; omega
  | succ m ih =>
    intro j h1 h2
    rw [f_X8_allWait_b4, h.1.2.2.2.1]
    by_cases c : nk ≤ j
    · rw [if_pos ((nI_leI (by omega) (by omega)).mpr c)]
      have e : j = nk := by omega
      rw [e]
    · rw [if_neg (fun q => c ((nI_leI (by omega) (by omega)).mp q)), waitOf_eq h (by omega), bp_some, nI_add, nI_1]
      exact ih (j + 1) (by omega) (by omega)
theorem allWait_eq (h : Vok σ r lf nk P st) : f_X8_allWait σ r = some (nI (smn (wts lf nk P st 100) nk)) := by
  unfold f_X8_allWait
  exact allWait_loop h 300 0 (Nat.zero_le _) (by have := h.1.2.1; omega)
theorem firstWait_loop (h : Vok σ r lf nk P st) {k : Nat} (hk : k < nk) : ∀ (m j : Nat), j ≤ P → P < j + m → (∀ b, b < j → pas lf nk P st 100 b k = st k + b) → f_X8_firstWaitOf_b2 σ m r (nI k) (nI j) = some (nI (fwt lf nk P st k)) := by
  intro m
  obtain ⟨hP, hn, e5, -, hst, -⟩ := id h.1
  obtain ⟨es, hs⟩ := hst k hk
  induction m with
  | zero => intro j h1 h2; omega
  | succ m ih =>
    intro j h1 h2 hb
    rw [f_X8_firstWaitOf_b2, e5]
    by_cases c : P ≤ j
    · rw [if_pos ((nI_leI (by omega) (by omega)).mpr c)]
      have e : lst (fun b => decide (pas lf nk P st 100 b k ≠ st k + b)) P = P := lst_none (fun b hb2 => by simp [hb b (by omega)])
      unfold fwt
      rw [e, if_neg (Nat.lt_irrefl P)]
      rfl
    · have hp := pas_100 (lf := lf) (nk := nk) (P := P) (st := st) (p := j) (k := k)
      rw [if_neg (fun q => c ((nI_leI (by omega) (by omega)).mp q)), passStep_eq h (by omega) hk, bp_some, ck_N (by omega) (by omega), nI_clamp (by omega), es, nI_add, nI_1]
      by_cases c2 : pas lf nk P st 100 j k = st k + j
      · rw [if_pos (by rw [c2])]
        refine ih (j + 1) (by omega) (by omega) (fun b hb2 => ?_)
        by_cases e : b = j
        · rw [e]; exact c2
        · exact hb b (by omega)
      · rw [if_neg (fun q => c2 ((nI_eq (by omega) (by omega)).mp q)), ck_N (by omega) (by omega)]
        have e : lst (fun b => decide (pas lf nk P st 100 b k ≠ st k + b)) P = j := lst_eq (by omega) (by simp [c2]) (fun b hb2 => by simp [hb b hb2])
        unfold fwt
        rw [e, if_pos (by omega)]
theorem firstWait_eq (h : Vok σ r lf nk P st) {k : Nat} (hk : k < nk) : f_X8_firstWaitOf σ r (nI k) = some (nI (fwt lf nk P st k)) := by
  unfold f_X8_firstWaitOf
  exact firstWait_loop h hk 300 0 (Nat.zero_le _) (by have := h.1.1; omega) (fun b hb => by omega)
theorem isLifted_eq (h : Vok σ r lf nk P st) {p k : Nat} (hp : p < P) (hk : k < nk) : f_X8_isLifted σ r (nI p) (nI k) = some (if lf p k = true then 1 else 0) := by
  obtain ⟨hP, hn, -, -, -, hl⟩ := id h.1
  unfold f_X8_isLifted
  rw [ck_N (by omega) (by omega), nI_clamp (by omega), bt_tst (hl p hp) (by omega)]
  cases e : lf p k <;> simp [hk]
theorem hasSlipped_eq (h : Vok σ r lf nk P st) {p k : Nat} (hp : p < P) (hk : k < nk) : f_X8_hasSlipped σ r (nI p) (nI k) = some (if slp lf nk P st 100 p k = true then 1 else 0) := by
  obtain ⟨hP, hn, -⟩ := id h.1
  unfold f_X8_hasSlipped
  rw [ck_N (by omega) (by omega), nI_clamp (by omega), bt_tst (h.2.2 p hp) (by omega)]
  cases e : slp lf nk P st 100 p k <;> simp [hk]
end ASK
