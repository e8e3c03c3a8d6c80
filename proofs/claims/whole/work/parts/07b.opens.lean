/-! 07b: the reference opens a bridge -/
section STEPJ
variable {lf : Nat → Nat → Bool} {nk P t : Nat} {X : Nat → Nat} {pa : Nat → Nat → Nat} {sl : Nat → Nat → Bool}
def goJ (lf : Nat → Nat → Bool) (nk P : Nat) (X : Nat → Nat) (j k : Nat) : Bool := decide (j + 1 ≤ X k) && sM lf nk P X k
theorem mv_at {i k : Nat} (hi : i < P) (hk : k < nk) : (sM lf nk P X k = true ∧ X k = i + 1) ↔ (sA lf nk X i < nk ∧ (k = sA lf nk X i ∨ k = sB lf nk X i)) := by
  constructor
  · rintro ⟨h1, h2⟩
    exact ((sM_at h2).mp h1).2.2
  · rintro ⟨h1, h2⟩
    have hx : X k = i + 1 := by
      rcases h2 with e | e
      · rw [e]; exact sA_at h1
      · rw [e]; exact (sB_at (by rw [← e]; exact hk)).1
    exact ⟨(sM_at hx).mpr ⟨hk, hi, h1, h2⟩, hx⟩
theorem pJ_step {i k : Nat} (hi : i < P) (hk : k < nk) : pJ lf nk P X i k = if sA lf nk X i < nk ∧ (k = sA lf nk X i ∨ k = sB lf nk X i) then i + 2 else pJ lf nk P X (i + 1) k := by
  by_cases c : sA lf nk X i < nk ∧ (k = sA lf nk X i ∨ k = sB lf nk X i)
  · obtain ⟨h1, h2⟩ := (mv_at hi hk).mpr c
    rw [if_pos c]
    unfold pJ
    rw [if_pos ⟨by omega, h1⟩]
    omega
  · rw [if_neg c]
    unfold pJ
    by_cases c1 : i + 1 ≤ X k ∧ sM lf nk P X k = true
    · have : X k ≠ i + 1 := fun e => c ((mv_at hi hk).mp ⟨c1.2, e⟩)
      rw [if_pos c1, if_pos ⟨by omega, c1.2⟩]
    · rw [if_neg c1, if_neg (fun q => c1 ⟨by omega, q.2⟩)]
theorem paJ_step {i q k : Nat} (hi : i < P) (hk : k < nk) : paJ lf nk P X t pa i q k = if q = i ∧ sA lf nk X i < nk ∧ (k = sA lf nk X i ∨ k = sB lf nk X i) then t else paJ lf nk P X t pa (i + 1) q k := by
  by_cases c : q = i ∧ sA lf nk X i < nk ∧ (k = sA lf nk X i ∨ k = sB lf nk X i)
  · obtain ⟨h1, h2⟩ := (mv_at hi hk).mpr c.2
    rw [if_pos c]
    unfold paJ
    rw [if_pos ⟨by omega, h1, by rw [c.1]; exact h2⟩]
  · rw [if_neg c]
    unfold paJ
    by_cases c1 : i ≤ q ∧ sM lf nk P X k = true ∧ X k = q + 1
    · have : q ≠ i := fun e => c ⟨e, (mv_at hi hk).mp ⟨c1.2.1, by rw [← e]; exact c1.2.2⟩⟩
      rw [if_pos c1, if_pos ⟨by omega, c1.2⟩]
    · rw [if_neg c1, if_neg (fun z => c1 ⟨by omega, z.2⟩)]
theorem slJ_step {i q k : Nat} (hi : i < P) (hk : k < nk) : slJ lf nk P X sl i q k = if q = i ∧ sA lf nk X i < nk ∧ (k = sA lf nk X i ∨ k = sB lf nk X i) then decide (k ≠ sA lf nk X i) else slJ lf nk P X sl (i + 1) q k := by
  by_cases c : q = i ∧ sA lf nk X i < nk ∧ (k = sA lf nk X i ∨ k = sB lf nk X i)
  · obtain ⟨h1, h2⟩ := (mv_at hi hk).mpr c.2
    rw [if_pos c]
    unfold slJ
    rw [if_pos ⟨by omega, h1, by rw [c.1]; exact h2⟩, c.1]
  · rw [if_neg c]
    unfold slJ
    by_cases c1 : i ≤ q ∧ sM lf nk P X k = true ∧ X k = q + 1
    · have : q ≠ i := fun e => c ⟨e, (mv_at hi hk).mp ⟨c1.2.1, by rw [← e]; exact c1.2.2⟩⟩
      rw [if_pos c1, if_pos ⟨by omega, c1.2⟩]
    · rw [if_neg c1, if_neg (fun z => c1 ⟨by omega, z.2⟩)]
theorem goJ_step {i k : Nat} (hi : i < P) (hk : k < nk) : goJ lf nk P X i k = (decide (sA lf nk X i < nk ∧ (k = sA lf nk X i ∨ k = sB lf nk X i)) || goJ lf nk P X (i + 1) k) := by
  unfold goJ
  by_cases c : sA lf nk X i < nk ∧ (k = sA lf nk X i ∨ k = sB lf nk X i)
  · obtain ⟨h1, h2⟩ := (mv_at hi hk).mpr c
    rw [decide_eq_true c, h1, decide_eq_true (show i + 1 ≤ X k by omega)]
    rfl
  · rw [decide_eq_false c, Bool.false_or]
    cases hm : sM lf nk P X k with
    | false => rw [Bool.and_false, Bool.and_false]
    | true =>
      have : X k ≠ i + 1 := fun e => c ((mv_at hi hk).mp ⟨hm, e⟩)
      rw [Bool.and_true, Bool.and_true, decide_eq_decide]
      omega
theorem sAB_pJ {i : Nat} : sA lf nk (pJ lf nk P X (i + 1)) i = sA lf nk X i ∧ sB lf nk (pJ lf nk P X (i + 1)) i = sB lf nk X i := by
  have eX : ∀ k, (pJ lf nk P X (i + 1) k = i + 1) = (X k = i + 1) := fun k => by
    apply propext
    unfold pJ
    by_cases c : i + 1 + 1 ≤ X k ∧ sM lf nk P X k = true
    · rw [if_pos c]; omega
    · rw [if_neg c]
  have h1 : sA lf nk (pJ lf nk P X (i + 1)) i = sA lf nk X i := lst_congr (fun k _ => by simp only [eX])
  refine ⟨h1, lst_congr (fun k _ => by simp only [eX, h1])⟩
end STEPJ
/-- the reference's places, bridges, boats, for the steps -/
def ML (σ : Mem) (lf : Nat → Nat → Bool) (nk P : Nat) (st : Nat → Nat) : Prop := P ≤ 8 ∧ nk ≤ 8 ∧ σ.1 64 9 = nI nk ∧ f_X10_places σ = some (nI P) ∧ (∀ p, p < P → ∀ k, k < nk → ∃ v, f_X10_standing σ (nI p) = some v ∧ f_X10_isLifted σ v (nI k) = some (if lf p k = true then 1 else 0)) ∧ ∀ k, k < nk → σ.1 72 (7 * k + 6) = nI (st k) ∧ st k < 10
def MS (σ : Mem) (lf : Nat → Nat → Bool) (nk P : Nat) (st : Nat → Nat) : Prop := ∀ τ, MF σ τ → ML τ lf nk P st
theorem MS.fr {σ τ : Mem} {lf : Nat → Nat → Bool} {nk P : Nat} {st : Nat → Nat} (h : MS σ lf nk P st) (f : MF σ τ) : MS τ lf nk P st := fun υ hυ => h υ (f.tr hυ)
theorem MS.at {σ : Mem} {lf : Nat → Nat → Bool} {nk P : Nat} {st : Nat → Nat} (h : MS σ lf nk P st) : ML σ lf nk P st := h σ MF.rf
def Mpl (σ : Mem) (nk : Nat) (pos : Nat → Nat) : Prop := ∀ k, k < nk → σ.1 74 k = nI (pos k) - 1
def Mwh (σ : Mem) (nk P : Nat) (pa : Nat → Nat → Nat) : Prop := ∀ p k, p < P → k < nk → σ.1 75 (8 * p + k) = if pa p k = 100 then (-1 : Int32) else nI (pa p k)
def Msl (σ : Mem) (nk P : Nat) (sl : Nat → Nat → Bool) : Prop := ∀ p k, p < P → k < nk → σ.1 76 (8 * p + k) = if sl p k = true then 1 else 0
/-- a is the least of [j, n) with f; n if there is none -/
def Lst (f : Nat → Bool) (j n a : Nat) : Prop := (a = n ∧ ∀ k, j ≤ k → k < n → f k = false) ∨ (j ≤ a ∧ a < n ∧ f a = true ∧ ∀ k, j ≤ k → k < a → f k = false)
theorem Lst.end' {f : Nat → Bool} {n a : Nat} (h : Lst f 0 n a) : a = lst f n := by
  rcases h with ⟨e, g⟩ | ⟨-, g1, g2, g3⟩
  · rw [e, lst_none (fun k hk => g k (Nat.zero_le _) hk)]
  · exact (lst_eq g1 g2 (fun k hk => g3 k (Nat.zero_le _) hk)).symm
theorem Lst.yes {f : Nat → Bool} {j n a : Nat} (hj : j < n) (h : f j = true) : Lst f j n j := Or.inr ⟨Nat.le_refl _, hj, h, fun k h1 h2 => by omega⟩
theorem Lst.no {f : Nat → Bool} {j n a : Nat} (h : Lst f (j + 1) n a) (hf : f j = false) : Lst f j n a := by
  rcases h with ⟨e, g⟩ | ⟨g0, g1, g2, g3⟩
  · refine Or.inl ⟨e, fun k h1 h2 => ?_⟩
    by_cases c : k = j
    · rw [c]; exact hf
    · exact g k (by omega) h2
  · refine Or.inr ⟨by omega, g1, g2, fun k h1 h2 => ?_⟩
    by_cases c : k = j
    · rw [c]; exact hf
    · exact g3 k (by omega) h2
def vN (n a : Nat) : Int32 := if a < n then nI a else (-1 : Int32)
section OPENS
variable {lf : Nat → Nat → Bool} {nk P t p : Nat} {st pos : Nat → Nat} {pa : Nat → Nat → Nat} {sl : Nat → Nat → Bool} {g : Nat → Bool} {σ : Mem}
theorem goesOn_wp {k : Nat} {s : Int32} (hp : p < 8) (hk : k < 8) : wp (f_X10_goesOn σ (nI t) (nI p) (nI k) s) (fun τ => MF σ τ ∧ τ.1 77 = σ.1 77 ∧ τ.1 64 19 = σ.1 64 19 ∧ τ.1 64 20 = σ.1 64 20 ∧ τ.1 75 = upd (σ.1 75) (8 * p + k) (nI t) ∧ τ.1 76 = upd (σ.1 76) (8 * p + k) s ∧ τ.1 74 = upd (σ.1 74) k (nI (p + 1)) ∧ τ.1 64 21 = (σ.1 64 21 ||| ((1 : Int32) <<< (nI k &&& 31)))) := by
  unfold f_X10_goesOn
  have e1 : (8 : Int32) * nI p + nI k = nI (8 * p + k) := by rw [nI_lit 8, pk_mul, nI_add]
  rw [e1, nI_clamp (by omega), nI_clamp (by omega), nI_1]
  refine wp_ckN (by omega) (by omega) (wp_lt (wp_ckN (by omega) (by omega) (wp_lt (wp_ckN (by omega) (by omega) (wp_lt (wp_lt (wp_some.mpr ?_)))))))
  refine ⟨(((MF.rf.row (by simp)).row (by simp)).row (by simp)).fld (by simp), ?_, ?_, ?_, ?_, ?_, ?_, ?_⟩
  · rw [ms_ne (by decide), ms_ne (by decide), ms_ne (by decide), ms_ne (by decide)]
  · rw [ms_same, upd_n (by decide), ms_ne (by decide), ms_ne (by decide), ms_ne (by decide)]
  · rw [ms_same, upd_n (by decide), ms_ne (by decide), ms_ne (by decide), ms_ne (by decide)]
  · rw [ms_ne (by decide), ms_ne (by decide), ms_ne (by decide), ms_same]
  · rw [ms_ne (by decide), ms_ne (by decide), ms_same, ms_ne (by decide)]
  · rw [ms_ne (by decide), ms_same, ms_ne (by decide), ms_ne (by decide)]
  · rw [ms_same, upd_s, ms_ne (by decide), ms_ne (by decide), ms_ne (by decide)]
/-- a boat goes on -/
theorem on_wp {k : Nat} {s : Bool} (hP : P ≤ 8) (hn : nk ≤ 8) (ht : t < 100) (hp : p < P) (hk : k < nk) (h1 : Mpl σ nk pos) (h2 : Mwh σ nk P pa) (h3 : Msl σ nk P sl) (h4 : bt (σ.1 64 21) (fun j => decide (j < nk) && g j)) : wp (f_X10_goesOn σ (nI t) (nI p) (nI k) (if s = true then 1 else 0)) (fun τ => MF σ τ ∧ τ.1 77 = σ.1 77 ∧ τ.1 64 19 = σ.1 64 19 ∧ τ.1 64 20 = σ.1 64 20 ∧ Mpl τ nk (fun j => if j = k then p + 2 else pos j) ∧ Mwh τ nk P (fun q j => if q = p ∧ j = k then t else pa q j) ∧ Msl τ nk P (fun q j => if q = p ∧ j = k then s else sl q j) ∧ bt (τ.1 64 21) (fun j => decide (j < nk) && (g j || decide (j = k)))) := by
  refine wp_mono (goesOn_wp (by omega) (by omega)) (fun τ h => ?_)
  obtain ⟨a1, a2, a3, a4, a5, a6, a7, a8⟩ := h
  refine ⟨a1, a2, a3, a4, fun j hj => ?_, fun q j hq hj => ?_, fun q j hq hj => ?_, ?_⟩
  · rw [a7]
    show upd _ _ _ j = nI (if j = k then p + 2 else pos j) - 1
    by_cases c : j = k
    · rw [c, upd_s, if_pos rfl, show p + 2 = (p + 1) + 1 from rfl, nI_pred]
    · rw [upd_n c, if_neg c]
      exact h1 j hj
  · rw [a5]
    show upd _ _ _ _ = if (if q = p ∧ j = k then t else pa q j) = 100 then (-1 : Int32) else nI (if q = p ∧ j = k then t else pa q j)
    by_cases c : q = p ∧ j = k
    · rw [if_pos c, if_neg (by omega), c.1, c.2, upd_s]
    · rw [if_neg c, upd_n (by omega)]
      exact h2 q j hq hj
  · rw [a6]
    show upd _ _ _ _ = if (if q = p ∧ j = k then s else sl q j) = true then 1 else 0
    by_cases c : q = p ∧ j = k
    · rw [if_pos c, c.1, c.2, upd_s]
    · rw [if_neg c, upd_n (by omega)]
      exact h3 q j hq hj
  · rw [a8]
    refine bt_congr (bt_set h4 (by omega)) (fun j _ => ?_)
    by_cases c : j = k
    · subst c
      simp [hk]
    · simp [c]
theorem opens_second {a : Nat} (hn : nk ≤ 8) (hp : p < 8) (hpos : ∀ k, k < nk → pos k < 100) (ha : a ≤ nk) (h1 : Mpl σ nk pos) {Q : Mem → Prop}
    (hk : wp (if vN nk a = (-1 : Int32) then (some σ) else (bv (f_X10_goesOn σ (nI t) (nI p) (vN nk a) (0 : Int32)) (fun σ5 => (if vN nk (lst (fun k => decide (pos k = p + 1) && decide (k ≠ a)) nk) = (-1 : Int32) then (some σ5) else (bv (f_X10_goesOn σ5 (nI t) (nI p) (vN nk (lst (fun k => decide (pos k = p + 1) && decide (k ≠ a)) nk)) (1 : Int32)) (fun σ8 => (some σ8))))))) Q) :
    ∀ (m j b : Nat), j ≤ nk → j < m → Lst (fun k => decide (pos k = p + 1) && decide (k ≠ a)) j nk b → wp (f_X10_opens_b64 m σ (nI t) (nI p) (vN nk a) (vN nk b) (nI j - 1)) Q := by
  intro m
  induction m with
  | zero => intro j b h2 h3; omega
  | succ m ih =>
    intro j b h2 h3 hL
    rw [f_X10_opens_b64]
    match j, h2, h3, hL with
    | 0, h2, h3, hL =>
      refine wp_it (by decide) ?_
      rw [hL.end']
      exact hk
    | i + 1, h2, h3, hL =>
      rw [nI_pred]
      refine wp_ie (nI_pos (by omega)) (wp_ckN (by omega) (by omega) ?_)
      rw [nI_clamp (by omega), h1 i (by omega)]
      unfold f_X10_opens_b91 f_X10_opens_b93
      rw [sub_one]
      have hpi := hpos i (by omega)
      refine wp_ite (fun c => ?_) (fun c => ?_)
      · have c' := (nI_m1_eq (by omega) (by omega)).mp c
        refine wp_ite (fun c2 => ?_) (fun c2 => ?_)
        · have e : i = a := by
            unfold vN at c2
            by_cases q : a < nk
            · rw [if_pos q] at c2
              exact (nI_eq (by omega) (by omega)).mp c2
            · rw [if_neg q] at c2
              exact absurd c2 (nI_neg1 (by omega))
          exact ih i b (by omega) (by omega) (hL.no (by simp [e]))
        · have e : i ≠ a := fun e => c2 (by unfold vN; rw [← e, if_pos (by omega)])
          have := ih i i (by omega) (by omega) (Lst.yes (a := 0) (by omega) (by simp [c', e]))
          unfold vN at this
          rw [if_pos (show i < nk by omega)] at this
          exact this
      · have c' : ¬ pos i = p + 1 := fun e => c ((nI_m1_eq (by omega) (by omega)).mpr e)
        exact ih i b (by omega) (by omega) (hL.no (by simp [c']))
theorem opens_first (hS : MS σ lf nk P st) (hp : p < P) (hpos : ∀ k, k < nk → pos k < 100) (h1 : Mpl σ nk pos) {Q : Mem → Prop}
    (hk : wp (f_X10_opens_b64 300 σ (nI t) (nI p) (vN nk (sA lf nk pos p)) (-1 : Int32) (nI nk - 1)) Q) :
    ∀ (m j a : Nat), j ≤ nk → j < m → Lst (fun k => decide (pos k = p + 1) && lf p k) j nk a → wp (f_X10_opens_b10 m σ (nI t) (nI p) (vN nk a) (nI j - 1)) Q := by
  intro m
  obtain ⟨hP8, hn8, e9, -, hlf, -⟩ := hS.at
  induction m with
  | zero => intro j a h2 h3; omega
  | succ m ih =>
    intro j a h2 h3 hL
    rw [f_X10_opens_b10]
    match j, h2, h3, hL with
    | 0, h2, h3, hL =>
      refine wp_it (by decide) ?_
      rw [hL.end', e9]
      exact hk
    | i + 1, h2, h3, hL =>
      rw [nI_pred]
      refine wp_ie (nI_pos (by omega)) (wp_ckN (by omega) (by omega) ?_)
      rw [nI_clamp (by omega), h1 i (by omega)]
      unfold f_X10_opens_b45 f_X10_opens_b46
      rw [sub_one]
      have hpi := hpos i (by omega)
      refine wp_ite (fun c => ?_) (fun c => ?_)
      · have c' := (nI_m1_eq (by omega) (by omega)).mp c
        obtain ⟨v, g1, g2⟩ := hlf p hp i (by omega)
        refine wp_bpE g1 (wp_bpE g2 ?_)
        cases hl : lf p i with
        | true =>
          refine wp_ie (by decide) ?_
          have := ih i i (by omega) (by omega) (Lst.yes (a := 0) (by omega) (by simp [c', hl]))
          unfold vN at this
          rw [if_pos (show i < nk by omega)] at this
          exact this
        | false =>
          refine wp_it (by decide) ?_
          exact ih i a (by omega) (by omega) (hL.no (by simp [hl]))
      · have c' : ¬ pos i = p + 1 := fun e => c ((nI_m1_eq (by omega) (by omega)).mpr e)
        exact ih i a (by omega) (by omega) (hL.no (by simp [c']))
/-- a bridge opens, or not -/
theorem opens_wp (hS : MS σ lf nk P st) (ht : t < 100) (hp : p < P) (hpos : ∀ k, k < nk → pos k < 100) (h1 : Mpl σ nk pos) (h2 : Mwh σ nk P pa) (h3 : Msl σ nk P sl) (h4 : bt (σ.1 64 21) (fun j => decide (j < nk) && g j)) :
    wp (f_X10_opens σ (nI t) (nI p)) (fun τ => MF σ τ ∧ τ.1 77 = σ.1 77 ∧ τ.1 64 19 = σ.1 64 19 ∧ τ.1 64 20 = σ.1 64 20 ∧ Mpl τ nk (fun k => if sA lf nk pos p < nk ∧ (k = sA lf nk pos p ∨ k = sB lf nk pos p) then p + 2 else pos k) ∧ Mwh τ nk P (fun q k => if q = p ∧ sA lf nk pos p < nk ∧ (k = sA lf nk pos p ∨ k = sB lf nk pos p) then t else pa q k) ∧ Msl τ nk P (fun q k => if q = p ∧ sA lf nk pos p < nk ∧ (k = sA lf nk pos p ∨ k = sB lf nk pos p) then decide (k ≠ sA lf nk pos p) else sl q k) ∧ bt (τ.1 64 21) (fun k => decide (k < nk) && (decide (sA lf nk pos p < nk ∧ (k = sA lf nk pos p ∨ k = sB lf nk pos p)) || g k))) := by
  obtain ⟨hP8, hn8, e9, -, hlf, -⟩ := hS.at
  unfold f_X10_opens
  rw [e9]
  have hA := lst_le (fun k => decide (pos k = p + 1) && lf p k) nk
  have hB := lst_le (fun k => decide (pos k = p + 1) && decide (k ≠ sA lf nk pos p)) nk
  have v1 : vN nk nk = (-1 : Int32) := by unfold vN; rw [if_neg (Nat.lt_irrefl _)]
  have base := opens_first (t := t) hS hp hpos h1 (Q := fun τ => MF σ τ ∧ τ.1 77 = σ.1 77 ∧ τ.1 64 19 = σ.1 64 19 ∧ τ.1 64 20 = σ.1 64 20 ∧ Mpl τ nk (fun k => if sA lf nk pos p < nk ∧ (k = sA lf nk pos p ∨ k = sB lf nk pos p) then p + 2 else pos k) ∧ Mwh τ nk P (fun q k => if q = p ∧ sA lf nk pos p < nk ∧ (k = sA lf nk pos p ∨ k = sB lf nk pos p) then t else pa q k) ∧ Msl τ nk P (fun q k => if q = p ∧ sA lf nk pos p < nk ∧ (k = sA lf nk pos p ∨ k = sB lf nk pos p) then decide (k ≠ sA lf nk pos p) else sl q k) ∧ bt (τ.1 64 21) (fun k => decide (k < nk) && (decide (sA lf nk pos p < nk ∧ (k = sA lf nk pos p ∨ k = sB lf nk pos p)) || g k))) ?_ 300 nk nk (Nat.le_refl _) (by omega) (Or.inl ⟨rfl, fun k h1 h2 => by omega⟩)
  · rw [v1] at base
    exact base
  · have := opens_second (t := t) (p := p) (a := sA lf nk pos p) (σ := σ) (pos := pos) (nk := nk) hn8 (by omega) hpos hA h1 (Q := fun τ => MF σ τ ∧ τ.1 77 = σ.1 77 ∧ τ.1 64 19 = σ.1 64 19 ∧ τ.1 64 20 = σ.1 64 20 ∧ Mpl τ nk (fun k => if sA lf nk pos p < nk ∧ (k = sA lf nk pos p ∨ k = sB lf nk pos p) then p + 2 else pos k) ∧ Mwh τ nk P (fun q k => if q = p ∧ sA lf nk pos p < nk ∧ (k = sA lf nk pos p ∨ k = sB lf nk pos p) then t else pa q k) ∧ Msl τ nk P (fun q k => if q = p ∧ sA lf nk pos p < nk ∧ (k = sA lf nk pos p ∨ k = sB lf nk pos p) then decide (k ≠ sA lf nk pos p) else sl q k) ∧ bt (τ.1 64 21) (fun k => decide (k < nk) && (decide (sA lf nk pos p < nk ∧ (k = sA lf nk pos p ∨ k = sB lf nk pos p)) || g k))) ?_ 300 nk nk (Nat.le_refl _) (by omega) (Or.inl ⟨rfl, fun k h1 h2 => by omega⟩)
    · rw [v1] at this
      exact this
    · change wp (if vN nk (sA lf nk pos p) = (-1 : Int32) then (some σ) else (bv (f_X10_goesOn σ (nI t) (nI p) (vN nk (sA lf nk pos p)) (0 : Int32)) (fun σ5 => (if vN nk (sB lf nk pos p) = (-1 : Int32) then (some σ5) else (bv (f_X10_goesOn σ5 (nI t) (nI p) (vN nk (sB lf nk pos p)) (1 : Int32)) (fun σ8 => (some σ8))))))) _
      by_cases cA : sA lf nk pos p < nk
      · have vA : vN nk (sA lf nk pos p) = nI (sA lf nk pos p) := by unfold vN; rw [if_pos cA]
        rw [vA]
        refine wp_ie (nI_neg1 (by omega)) (wp_bv ?_)
        refine wp_mono (on_wp (s := false) hP8 hn8 ht hp cA h1 h2 h3 h4) (fun σ5 h5 => ?_)
        obtain ⟨b1, b2, b3, b4, b5, b6, b7, b8⟩ := h5
        by_cases cB : sB lf nk pos p < nk
        · have vB : vN nk (sB lf nk pos p) = nI (sB lf nk pos p) := by unfold vN; rw [if_pos cB]
          obtain ⟨-, hne⟩ := sB_at cB
          rw [vB]
          refine wp_ie (nI_neg1 (by omega)) (wp_bv ?_)
          refine wp_mono (on_wp (s := true) hP8 hn8 ht hp cB b5 b6 b7 b8) (fun σ8 h8 => wp_some.mpr ?_)
          obtain ⟨d1, d2, d3, d4, d5, d6, d7, d8⟩ := h8
          refine ⟨b1.tr d1, d2.trans b2, d3.trans b3, d4.trans b4, fun k hk => ?_, fun q k hq hk => ?_, fun q k hq hk => ?_, bt_congr d8 (fun k _ => ?_)⟩
          · rw [d5 k hk]
            dsimp only
            congr 2
            by_cases e2 : k = sB lf nk pos p
            · rw [if_pos e2, if_pos ⟨cA, Or.inr e2⟩]
            · rw [if_neg e2]
              by_cases e1 : k = sA lf nk pos p
              · rw [if_pos e1, if_pos ⟨cA, Or.inl e1⟩]
              · rw [if_neg e1, if_neg (fun z => z.2.elim e1 e2)]
          · rw [d6 q k hq hk]
            dsimp only
            have e : (if q = p ∧ k = sB lf nk pos p then t else if q = p ∧ k = sA lf nk pos p then t else pa q k) = if q = p ∧ sA lf nk pos p < nk ∧ (k = sA lf nk pos p ∨ k = sB lf nk pos p) then t else pa q k := by
              by_cases e2 : q = p ∧ k = sB lf nk pos p
              · rw [if_pos e2, if_pos ⟨e2.1, cA, Or.inr e2.2⟩]
              · rw [if_neg e2]
                by_cases e1 : q = p ∧ k = sA lf nk pos p
                · rw [if_pos e1, if_pos ⟨e1.1, cA, Or.inl e1.2⟩]
                · rw [if_neg e1, if_neg (fun z => z.2.2.elim (fun w => e1 ⟨z.1, w⟩) (fun w => e2 ⟨z.1, w⟩))]
            simp only [e]
          · rw [d7 q k hq hk]
            dsimp only
            have e : (if q = p ∧ k = sB lf nk pos p then true else if q = p ∧ k = sA lf nk pos p then false else sl q k) = if q = p ∧ sA lf nk pos p < nk ∧ (k = sA lf nk pos p ∨ k = sB lf nk pos p) then decide (k ≠ sA lf nk pos p) else sl q k := by
              by_cases e2 : q = p ∧ k = sB lf nk pos p
              · rw [if_pos e2, if_pos ⟨e2.1, cA, Or.inr e2.2⟩, decide_eq_true (by rw [e2.2]; exact hne)]
              · rw [if_neg e2]
                by_cases e1 : q = p ∧ k = sA lf nk pos p
                · rw [if_pos e1, if_pos ⟨e1.1, cA, Or.inl e1.2⟩, decide_eq_false (fun w : k ≠ sA lf nk pos p => w e1.2)]
                · rw [if_neg e1, if_neg (fun z => z.2.2.elim (fun w => e1 ⟨z.1, w⟩) (fun w => e2 ⟨z.1, w⟩))]
            simp only [e]
          · by_cases e1 : k = sA lf nk pos p <;> by_cases e2 : k = sB lf nk pos p <;> cases g k <;> simp [e1, e2, cA]
        · have vB : vN nk (sB lf nk pos p) = (-1 : Int32) := by unfold vN; rw [if_neg cB]
          rw [vB]
          refine wp_it rfl (wp_some.mpr ⟨b1, b2, b3, b4, fun k hk => ?_, fun q k hq hk => ?_, fun q k hq hk => ?_, bt_congr b8 (fun k _ => ?_)⟩)
          · rw [b5 k hk]
            dsimp only
            have e2 : k ≠ sB lf nk pos p := fun e => cB (by rw [← e]; exact hk)
            congr 2
            by_cases e1 : k = sA lf nk pos p
            · rw [if_pos e1, if_pos ⟨cA, Or.inl e1⟩]
            · rw [if_neg e1, if_neg (fun z => z.2.elim e1 e2)]
          · rw [b6 q k hq hk]
            dsimp only
            have e2 : k ≠ sB lf nk pos p := fun e => cB (by rw [← e]; exact hk)
            have e : (if q = p ∧ k = sA lf nk pos p then t else pa q k) = if q = p ∧ sA lf nk pos p < nk ∧ (k = sA lf nk pos p ∨ k = sB lf nk pos p) then t else pa q k := by
              by_cases e1 : q = p ∧ k = sA lf nk pos p
              · rw [if_pos e1, if_pos ⟨e1.1, cA, Or.inl e1.2⟩]
              · rw [if_neg e1, if_neg (fun z => z.2.2.elim (fun w => e1 ⟨z.1, w⟩) e2)]
            simp only [e]
          · rw [b7 q k hq hk]
            dsimp only
            have e2 : k ≠ sB lf nk pos p := fun e => cB (by rw [← e]; exact hk)
            have e : (if q = p ∧ k = sA lf nk pos p then false else sl q k) = if q = p ∧ sA lf nk pos p < nk ∧ (k = sA lf nk pos p ∨ k = sB lf nk pos p) then decide (k ≠ sA lf nk pos p) else sl q k := by
              by_cases e1 : q = p ∧ k = sA lf nk pos p
              · rw [if_pos e1, if_pos ⟨e1.1, cA, Or.inl e1.2⟩, decide_eq_false (fun w : k ≠ sA lf nk pos p => w e1.2)]
              · rw [if_neg e1, if_neg (fun z => z.2.2.elim (fun w => e1 ⟨z.1, w⟩) e2)]
            simp only [e]
          · by_cases ck : k < nk
            · have e2 : k ≠ sB lf nk pos p := fun e => cB (by rw [← e]; exact ck)
              by_cases e1 : k = sA lf nk pos p <;> cases g k <;> simp [e1, e2, cA]
            · simp [ck]
      · have vA : vN nk (sA lf nk pos p) = (-1 : Int32) := by unfold vN; rw [if_neg cA]
        rw [vA]
        refine wp_it rfl (wp_some.mpr ⟨MF.rf, rfl, rfl, rfl, fun k hk => ?_, fun q k hq hk => ?_, fun q k hq hk => ?_, bt_congr h4 (fun k _ => ?_)⟩)
        · rw [h1 k hk]
          dsimp only
          rw [if_neg (fun z => cA z.1)]
        · rw [h2 q k hq hk]
          dsimp only
          simp only [if_neg (fun z : q = p ∧ sA lf nk pos p < nk ∧ (k = sA lf nk pos p ∨ k = sB lf nk pos p) => cA z.2.1)]
        · rw [h3 q k hq hk]
          dsimp only
          simp only [if_neg (fun z : q = p ∧ sA lf nk pos p < nk ∧ (k = sA lf nk pos p ∨ k = sB lf nk pos p) => cA z.2.1)]
        · simp [cA]
end OPENS
