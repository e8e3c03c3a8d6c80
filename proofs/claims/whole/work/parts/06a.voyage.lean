/-! 06a: a voyage of the class is the steps as numbers -/
def Vin (σ : Mem) (r : Nat) (lf : Nat → Nat → Bool) (nk P : Nat) (st : Nat → Nat) : Prop :=
  P ≤ 8 ∧ nk ≤ 8 ∧ σ.1 r 5 = nI P ∧ σ.1 r 6 = nI nk ∧ (∀ k, k < nk → σ.1 (r + 2) k = nI (st k) ∧ st k < 10) ∧ ∀ p, p < P → bt (σ.1 (r + 1) p) (fun k => decide (k < nk) && lf p k)
def Vw (σ : Mem) (r nk P : Nat) (pos : Nat → Nat) : Prop := ∀ p, p ≤ P → bt (σ.1 (r + 3) p) (fun k => decide (k < nk ∧ pos k = p + 1))
def Vp (σ : Mem) (r nk P : Nat) (pa : Nat → Nat → Nat) : Prop := ∀ p k, p < P → k < nk → σ.1 (r + 4) (p * 8 + k) = nI (pa p k)
def Vs (σ : Mem) (r nk P : Nat) (sl : Nat → Nat → Bool) : Prop := ∀ p, p < P → bt (σ.1 (r + 5) p) (fun k => decide (k < nk) && sl p k)
section VOY
variable {lf : Nat → Nat → Bool} {nk P r t : Nat} {st pos X : Nat → Nat} {pa : Nat → Nat → Nat} {sl : Nat → Nat → Bool} {σ τ : Mem}
theorem Vin.fr {rs : List Nat} (h : Vin σ r lf nk P st) (hf : Fr rs σ τ) (h0 : r ∉ rs) (h1 : r + 1 ∉ rs) (h2 : r + 2 ∉ rs) : Vin τ r lf nk P st := by
  unfold Vin at h ⊢
  rw [hf.1 r h0, hf.1 _ h1, hf.1 _ h2]
  exact h
theorem Vw.congr {q : Nat → Nat} (h : Vw σ r nk P pos) (e : ∀ k, k < nk → pos k = q k) : Vw σ r nk P q := fun p hp => bt_congr (h p hp) (fun k _ => by
  by_cases c : k < nk
  · rw [e k c]
  · simp [c])
theorem Vp.congr {q : Nat → Nat → Nat} (h : Vp σ r nk P pa) (e : ∀ p k, p < P → k < nk → pa p k = q p k) : Vp σ r nk P q := fun p k hp hk => by rw [← e p k hp hk]; exact h p k hp hk
theorem Vs.congr {q : Nat → Nat → Bool} (h : Vs σ r nk P sl) (e : ∀ p k, p < P → k < nk → sl p k = q p k) : Vs σ r nk P q := fun p hp => bt_congr (h p hp) (fun k _ => by
  by_cases c : k < nk
  · rw [e p k hp c]
  · simp [c])
theorem Vw.fr {rs : List Nat} (h : Vw σ r nk P pos) (hf : Fr rs σ τ) (h3 : r + 3 ∉ rs) : Vw τ r nk P pos := by
  unfold Vw at h ⊢
  rw [hf.1 _ h3]
  exact h
theorem Vp.fr {rs : List Nat} (h : Vp σ r nk P pa) (hf : Fr rs σ τ) (h3 : r + 4 ∉ rs) : Vp τ r nk P pa := by
  unfold Vp at h ⊢
  rw [hf.1 _ h3]
  exact h
theorem Vs.fr {rs : List Nat} (h : Vs σ r nk P sl) (hf : Fr rs σ τ) (h3 : r + 5 ∉ rs) : Vs τ r nk P sl := by
  unfold Vs at h ⊢
  rw [hf.1 _ h3]
  exact h
theorem c0 : (0 : Int32).toNatClampNeg = 0 := by decide
theorem letStart_loop (ht : t < 100) : ∀ (m j : Nat) (σ : Mem), j ≤ nk → nk < j + m → Vin σ r lf nk P st → bt (σ.1 (r + 3) 0) (fun k => decide (k < nk ∧ (pos k = 1 ∨ (k < j ∧ st k = t)))) →
    wp (f_X8_letStart_b2 m σ r (nI t) (nI j)) (fun τ => Fr [r + 3] σ τ ∧ bt (τ.1 (r + 3) 0) (fun k => decide (k < nk ∧ (pos k = 1 ∨ st k = t))) ∧ ∀ p, 0 < p → τ.1 (r + 3) p = σ.1 (r + 3) p) := by
  intro m
  induction m with
  | zero => intro j σ h1 h2; omega
  | succ m ih =>
    intro j σ h1 h2 hV hb
    obtain ⟨hP8, hn8, -, e6, hst, -⟩ := id hV
    rw [f_X8_letStart_b2, e6]
    refine wp_ite (fun c => ?_) (fun c => ?_)
    · rw [nI_leI (by omega) (by omega)] at c
      rw [wp_some]
      refine ⟨Fr.rf, bt_congr hb (fun k hk => ?_), fun _ _ => rfl⟩
      by_cases ck : k < nk
      · have : k < j := by omega
        simp [ck, this]
      · simp [ck]
    · have hj : j < nk := by
        rcases Nat.lt_or_ge j nk with q | q
        · exact q
        · exact absurd ((nI_leI (by omega) (by omega)).mpr q) c
      obtain ⟨es, hs10⟩ := hst j hj
      refine wp_ckN (by omega) (by omega) ?_
      rw [nI_clamp (by omega), es]
      have nx : ∀ σ' : Mem, Vin σ' r lf nk P st → Fr [r + 3] σ σ' → (∀ p, 0 < p → σ'.1 (r + 3) p = σ.1 (r + 3) p) → bt (σ'.1 (r + 3) 0) (fun k => decide (k < nk ∧ (pos k = 1 ∨ (k < j + 1 ∧ st k = t)))) → wp (f_X8_letStart_b32 (f_X8_letStart_b2 m) σ' r (nI t) (nI j)) (fun τ => Fr [r + 3] σ τ ∧ bt (τ.1 (r + 3) 0) (fun k => decide (k < nk ∧ (pos k = 1 ∨ st k = t))) ∧ ∀ p, 0 < p → τ.1 (r + 3) p = σ.1 (r + 3) p) := by
        intro σ' g1 g2 g3 g4
        unfold f_X8_letStart_b32
        rw [nI_1]
        refine wp_mono (ih (j + 1) σ' (by omega) (by omega) g1 g4) (fun τ h => ?_)
        exact ⟨g2.tr h.1, h.2.1, fun p hp => (h.2.2 p hp).trans (g3 p hp)⟩
      refine wp_ite (fun c => ?_) (fun c => ?_)
      · rw [nI_eq (by omega) (by omega)] at c
        refine wp_ck (vp_in_nI (n := 0) (by decide) (by decide)) (wp_ck (vp_in_nI (n := 0) (by decide) (by decide)) (wp_lt ?_))
        rw [c0]
        have hf : Fr [r + 3] σ (ms σ (r + 3) 0 (σ.1 (r + 3) 0 ||| (1 : Int32) <<< (nI j &&& 31))) := Fr.rf.ms (List.mem_singleton.mpr rfl)
        refine nx _ (hV.fr hf (by simp) (by simp) (by simp)) hf (fun p hp => by rw [ms_same, upd_n (by omega)]) ?_
        rw [ms_same, upd_s]
        refine bt_congr (bt_set hb (by omega)) (fun k hk => ?_)
        by_cases ck : k < nk
        · by_cases ce : k = j
          · subst ce
            simp [ck, c]
          · have : k < j + 1 ↔ k < j := by omega
            simp [ck, ce, this]
        · have : ¬ k = j := by omega
          simp [ck, this]
      · rw [nI_eq (by omega) (by omega)] at c
        refine nx σ hV Fr.rf (fun _ _ => rfl) (bt_congr hb (fun k hk => ?_))
        by_cases ce : k = j
        · subst ce
          simp [c]
        · have : k < j + 1 ↔ k < j := by omega
          simp [this]
theorem letStart_wp (ht : t < 100) (hV : Vin σ r lf nk P st) (hw : Vw σ r nk P pos) (h0 : ∀ k, k < nk → st k = t → pos k = 0) : wp (f_X8_letStart σ r (nI t)) (fun τ => Fr [r + 3] σ τ ∧ Vw τ r nk P (sX st t pos)) := by
  unfold f_X8_letStart
  refine wp_mono (letStart_loop (pos := pos) ht 300 0 σ (Nat.zero_le _) (by have := hV.2.1; omega) hV (bt_congr (hw 0 (Nat.zero_le _)) (fun k _ => by simp))) (fun τ h => ?_)
  refine ⟨h.1, fun p hp => ?_⟩
  by_cases c : p = 0
  · subst c
    refine bt_congr h.2.1 (fun k _ => ?_)
    unfold sX
    by_cases e : st k = t
    · simp [e]
    · simp [e]
  · rw [h.2.2 p (by omega)]
    refine bt_congr (hw p hp) (fun k _ => ?_)
    unfold sX
    by_cases ck : k < nk
    · by_cases e : st k = t
      · have := h0 k ck e
        simp [e, this, Ne.symm c]
        omega
      · simp [e]
    · simp [ck]
theorem letOver_wp {p k : Nat} (hp : p < 8) (hk : k < 8) : wp (f_X8_letOver σ r (nI p) (nI k) (nI t)) (fun τ => Fr [r + 3, r + 4] σ τ ∧ τ.1 (r + 4) = upd (σ.1 (r + 4)) (p * 8 + k) (nI t) ∧ τ.1 (r + 3) = upd (upd (σ.1 (r + 3)) p (σ.1 (r + 3) p &&& (((1 : Int32) <<< (nI k &&& 31)) ^^^ (-1 : Int32)))) (p + 1) (σ.1 (r + 3) (p + 1) ||| ((1 : Int32) <<< (nI k &&& 31)))) := by
  unfold f_X8_letOver
  have e1 : nI p * (8 : Int32) + nI k = nI (p * 8 + k) := by rw [nI_lit 8, pk_mul, nI_add]
  rw [e1, nI_1, nI_clamp (by omega), nI_clamp (by omega), nI_clamp (by omega)]
  refine wp_ckN (by omega) (by omega) (wp_lt (wp_ckN (by omega) (by omega) (wp_ckN (by omega) (by omega) (wp_lt (wp_ckN (by omega) (by omega) (wp_ckN (by omega) (by omega) (wp_lt (wp_some.mpr ?_))))))))
  refine ⟨((Fr.rf.ms (by simp)).ms (by simp)).ms (by simp), ?_, ?_⟩
  · rw [ms_ne (by omega), ms_ne (by omega), ms_same]
  · rw [ms_same, ms_same, ms_ne (by omega), upd_n (by omega)]
/-- a boat goes over a bridge -/
theorem over_wp {p k : Nat} (hP : P ≤ 8) (hn : nk ≤ 8) (hp : p < P) (hk : k < nk) (hw : Vw σ r nk P pos) (hpa : Vp σ r nk P pa) (hx : pos k = p + 1) : wp (f_X8_letOver σ r (nI p) (nI k) (nI t)) (fun τ => Fr [r + 3, r + 4] σ τ ∧ Vw τ r nk P (fun j => if j = k then p + 2 else pos j) ∧ Vp τ r nk P (fun q j => if q = p ∧ j = k then t else pa q j)) := by
  refine wp_mono (letOver_wp (by omega) (by omega)) (fun τ h => ?_)
  obtain ⟨h1, h2, h3⟩ := h
  refine ⟨h1, fun q hq => ?_, fun q j hq hj => ?_⟩
  · rw [h3]
    by_cases c1 : q = p + 1
    · subst c1
      rw [upd_s]
      refine bt_congr (bt_set (hw (p + 1) hq) (by omega)) (fun j _ => ?_)
      by_cases e : j = k
      · subst e
        simp [hk]
      · simp [e]
    · rw [upd_n c1]
      by_cases c2 : q = p
      · subst c2
        rw [upd_s]
        refine bt_congr (bt_clr (hw q hq) (by omega)) (fun j _ => ?_)
        by_cases e : j = k
        · subst e
          simp
        · simp [e]
      · rw [upd_n c2]
        refine bt_congr (hw q hq) (fun j _ => ?_)
        by_cases e : j = k
        · subst e
          have a1 : ¬ p = q := fun z => c2 z.symm
          have a2 : ¬ p + 1 = q := fun z => c1 z.symm
          simp [hx, a1, a2]
        · simp [e]
  · rw [h2]
    show upd (σ.1 (r + 4)) (p * 8 + k) (nI t) (q * 8 + j) = nI (if q = p ∧ j = k then t else pa q j)
    by_cases c : q = p ∧ j = k
    · rw [if_pos c, c.1, c.2, upd_s]
    · rw [if_neg c, upd_n (by omega)]
      exact hpa q j hq hj
theorem sA_at {j : Nat} (h : sA lf nk X j < nk) : X (sA lf nk X j) = j + 1 := by
  have := lst_yes (f := fun k => decide (X k = j + 1) && lf j k) (n := nk) h
  rw [Bool.and_eq_true, decide_eq_true_iff] at this
  exact this.1
theorem sB_at {j : Nat} (h : sB lf nk X j < nk) : X (sB lf nk X j) = j + 1 ∧ sB lf nk X j ≠ sA lf nk X j := by
  have := lst_yes (f := fun k => decide (X k = j + 1) && decide (k ≠ sA lf nk X j)) (n := nk) h
  rw [Bool.and_eq_true, decide_eq_true_iff, decide_eq_true_iff] at this
  exact this
theorem sM_at {j k : Nat} (hX : X k = j + 1) : sM lf nk P X k = true ↔ k < nk ∧ j + 1 ≤ P ∧ sA lf nk X j < nk ∧ (k = sA lf nk X j ∨ k = sB lf nk X j) := by
  rw [sM_iff, hX]
  have e : j + 1 - 1 = j := by omega
  rw [e]
  constructor
  · intro h; exact ⟨h.1, h.2.2⟩
  · intro h; exact ⟨h.1, by omega, h.2⟩
end VOY
