/-! 06b: letGoOn, run -/
def pJ (lf : Nat → Nat → Bool) (nk P : Nat) (X : Nat → Nat) (j k : Nat) : Nat := if j + 1 ≤ X k ∧ sM lf nk P X k = true then X k + 1 else X k
def paJ (lf : Nat → Nat → Bool) (nk P : Nat) (X : Nat → Nat) (t : Nat) (pa : Nat → Nat → Nat) (j p k : Nat) : Nat := if j ≤ p ∧ sM lf nk P X k = true ∧ X k = p + 1 then t else pa p k
def slJ (lf : Nat → Nat → Bool) (nk P : Nat) (X : Nat → Nat) (sl : Nat → Nat → Bool) (j p k : Nat) : Bool := if j ≤ p ∧ sM lf nk P X k = true ∧ X k = p + 1 then decide (k ≠ sA lf nk X p) else sl p k
section GO
variable {lf : Nat → Nat → Bool} {nk P r t : Nat} {st pos X : Nat → Nat} {pa : Nat → Nat → Nat} {sl : Nat → Nat → Bool} {σ τ : Mem}
theorem go_loop (ht : t < 100) (h0 : ∀ p k, k < nk → X k ≤ p + 1 → sl p k = false) : ∀ (m j : Nat) (σ : Mem) (x2 : Int32), j ≤ P → j < m → Vin σ r lf nk P st → Vw σ r nk P (pJ lf nk P X j) → Vp σ r nk P (paJ lf nk P X t pa j) → Vs σ r nk P (slJ lf nk P X sl j) →
    ((x2 = 1 ∧ ∃ k, k < nk ∧ sM lf nk P X k = true ∧ j + 1 ≤ X k) ∨ (x2 = 0 ∧ ∀ k, k < nk → sM lf nk P X k = true → ¬ j + 1 ≤ X k)) →
    wp (f_X8_letGoOn_b9 m σ r (nI t) x2 (nI j - 1)) (fun o => Fr [r + 3, r + 4, r + 5] σ o.2 ∧ Vw o.2 r nk P (sN lf nk P X) ∧ Vp o.2 r nk P (paJ lf nk P X t pa 0) ∧ Vs o.2 r nk P (slJ lf nk P X sl 0) ∧ ((o.1 = 1 ∧ ∃ k, k < nk ∧ sM lf nk P X k = true) ∨ (o.1 = 0 ∧ ∀ k, k < nk → sM lf nk P X k = false))) := by
  intro m
  induction m with
  | zero => intro j σ x2 h1 h2; omega
  | succ m ih =>
    intro j σ x2 h1 h2 hV hw hp hs hx
    obtain ⟨hP8, hn8, e5, e6, hst, hlf⟩ := id hV
    rw [f_X8_letGoOn_b9]
    match j, h1, h2, hw, hp, hs, hx with
    | 0, h1, h2, hw, hp, hs, hx =>
      refine wp_it (by decide) (wp_cb ?_ (wp_some.mpr ⟨Fr.rf, hw.congr (fun k hk => ?_), hp, hs, ?_⟩))
      · rcases hx with ⟨e, -⟩ | ⟨e, -⟩
        · exact Or.inr e
        · exact Or.inl e
      · unfold pJ sN
        by_cases c : sM lf nk P X k = true
        · have := (sM_iff.mp c).2.1
          rw [if_pos ⟨by omega, c⟩, if_pos c]
        · rw [if_neg (fun q => c q.2), if_neg c]
      · rcases hx with ⟨e, k, g1, g2, -⟩ | ⟨e, g⟩
        · exact Or.inl ⟨e, k, g1, g2⟩
        · refine Or.inr ⟨e, fun k hk => ?_⟩
          rcases hm : sM lf nk P X k with _ | _
          · rfl
          · have := (sM_iff.mp hm).2.1
            exact absurd (by omega) (g k hk hm)
    | i + 1, h1, h2, hw, hp, hs, hx =>
      rw [nI_pred]
      have hi : i < P := by omega
      refine wp_ie (nI_pos (by omega)) (wp_ckN (by omega) (by omega) (wp_ckN (by omega) (by omega) ?_))
      rw [nI_clamp (by omega)]
      have eX : ∀ k, pJ lf nk P X (i + 1) k = i + 1 ↔ X k = i + 1 := fun k => by
        unfold pJ
        by_cases c : i + 1 + 1 ≤ X k ∧ sM lf nk P X k = true
        · rw [if_pos c]; omega
        · rw [if_neg c]
      have bw : bt (σ.1 (r + 3) i) (fun k => decide (k < nk ∧ X k = i + 1)) := bt_congr (hw i (by omega)) (fun k _ => by rw [decide_eq_decide, eX k])
      have hA := lst_le (fun k => decide (X k = i + 1) && lf i k) nk
      have hl1 : f_X8_leastOf σ ((σ.1 (r + 3) i) &&& (σ.1 (r + 1) i)) = some (if sA lf nk X i < nk then nI (sA lf nk X i) else (-1 : Int32)) := by
        rw [bt_least (bt_and bw (hlf i hi))]
        have e : lst (fun j => decide (j < nk ∧ X j = i + 1) && (decide (j < nk) && lf i j)) 8 = if sA lf nk X i < nk then sA lf nk X i else 8 := by
          rw [← show _ = if sA lf nk X i < nk then sA lf nk X i else 8 from lst_cut (f := fun k => decide (X k = i + 1) && lf i k) hn8]
          refine lst_congr (fun k _ => ?_)
          by_cases c1 : k < nk <;> by_cases c2 : X k = i + 1 <;> simp [c1, c2]
        rw [e]
        by_cases c : sA lf nk X i < nk
        · rw [if_pos c, if_pos c, if_pos (by omega)]
        · rw [if_neg c, if_neg c, if_neg (by omega)]
      refine wp_bpE hl1 ?_
      have fin : ∀ (σ' : Mem) (y : Int32), Fr [r + 3, r + 4, r + 5] σ σ' → Vw σ' r nk P (pJ lf nk P X i) → Vp σ' r nk P (paJ lf nk P X t pa i) → Vs σ' r nk P (slJ lf nk P X sl i) → ((y = 1 ∧ ∃ k, k < nk ∧ sM lf nk P X k = true ∧ i + 1 ≤ X k) ∨ (y = 0 ∧ ∀ k, k < nk → sM lf nk P X k = true → ¬ i + 1 ≤ X k)) → wp (f_X8_letGoOn_b88 (f_X8_letGoOn_b9 m) σ' r (nI t) y (nI i)) (fun o => Fr [r + 3, r + 4, r + 5] σ o.2 ∧ Vw o.2 r nk P (sN lf nk P X) ∧ Vp o.2 r nk P (paJ lf nk P X t pa 0) ∧ Vs o.2 r nk P (slJ lf nk P X sl 0) ∧ ((o.1 = 1 ∧ ∃ k, k < nk ∧ sM lf nk P X k = true) ∨ (o.1 = 0 ∧ ∀ k, k < nk → sM lf nk P X k = false))) := by
        intro σ' y g1 g2 g3 g4 g5
        unfold f_X8_letGoOn_b88
        rw [sub_one]
        exact wp_mono (ih i σ' y (by omega) (by omega) (hV.fr g1 (by simp) (by simp) (by simp)) g2 g3 g4 g5) (fun o h => ⟨g1.tr h.1, h.2⟩)
      by_cases cA : sA lf nk X i < nk
      · rw [if_pos cA]
        have aX := sA_at cA
        refine wp_ie (nI_neg1 (by omega)) (wp_bv ?_)
        refine wp_mono (over_wp hP8 hn8 hi cA hw hp ((eX _).mpr aX)) (fun σ9 h9 => ?_)
        obtain ⟨f9, w9, p9⟩ := h9
        have s9 : Vs σ9 r nk P (slJ lf nk P X sl (i + 1)) := hs.fr f9 (by simp)
        refine wp_ckN (by omega) (by omega) ?_
        have bw9 : bt (σ9.1 (r + 3) i) (fun k => decide (k < nk ∧ X k = i + 1 ∧ k ≠ sA lf nk X i)) := bt_congr (w9 i (by omega)) (fun k _ => by
          rw [decide_eq_decide]
          by_cases e : k = sA lf nk X i
          · simp [e]
          · simp only [if_neg e, eX k]
            constructor
            · intro q; exact ⟨q.1, q.2, e⟩
            · intro q; exact ⟨q.1, q.2.1⟩)
        have hl2 : f_X8_leastOf σ9 (σ9.1 (r + 3) i) = some (if sB lf nk X i < nk then nI (sB lf nk X i) else (-1 : Int32)) := by
          rw [bt_least bw9]
          have e : lst (fun j => decide (j < nk ∧ X j = i + 1 ∧ j ≠ sA lf nk X i)) 8 = if sB lf nk X i < nk then sB lf nk X i else 8 := by
            rw [← show _ = if sB lf nk X i < nk then sB lf nk X i else 8 from lst_cut (f := fun k => decide (X k = i + 1) && decide (k ≠ sA lf nk X i)) hn8]
            refine lst_congr (fun k _ => ?_)
            by_cases c1 : k < nk <;> by_cases c2 : X k = i + 1 <;> simp [c1, c2]
          rw [e]
          by_cases c : sB lf nk X i < nk
          · rw [if_pos c, if_pos c, if_pos (by omega)]
          · rw [if_neg c, if_neg c, if_neg (by omega)]
        refine wp_bpE hl2 ?_
        have hany : ∃ k, k < nk ∧ sM lf nk P X k = true ∧ i + 1 ≤ X k := ⟨_, cA, (sM_at aX).mpr ⟨cA, hi, cA, Or.inl rfl⟩, by omega⟩
        by_cases cB : sB lf nk X i < nk
        · rw [if_pos cB]
          obtain ⟨bX, bA⟩ := sB_at cB
          refine wp_ie (nI_neg1 (by omega)) (wp_bv ?_)
          refine wp_mono (over_wp hP8 hn8 hi cB w9 p9 (by simp only [if_neg bA]; exact (eX _).mpr bX)) (fun σ15 h15 => ?_)
          obtain ⟨f15, w15, p15⟩ := h15
          have s15 : Vs σ15 r nk P (slJ lf nk P X sl (i + 1)) := s9.fr f15 (by simp)
          refine wp_ckN (by omega) (by omega) (wp_ckN (by omega) (by omega) (wp_lt ?_))
          have f18 : Fr [r + 3, r + 4, r + 5] σ15 (ms σ15 (r + 5) i (σ15.1 (r + 5) i ||| (1 : Int32) <<< (nI (sB lf nk X i) &&& 31))) := Fr.rf.ms (by simp)
          refine fin _ 1 (((f9.wide (by simp)).tr (f15.wide (by simp))).tr f18) ?_ ?_ ?_ (Or.inl ⟨rfl, hany⟩)
          · refine (w15.congr (fun k hk => ?_)).fr (rs := [r + 5]) (Fr.rf.ms (by simp)) (by simp)
            by_cases e2 : k = sB lf nk X i
            · rw [if_pos e2]
              unfold pJ
              rw [e2, if_pos ⟨by omega, (sM_at bX).mpr ⟨cB, hi, cA, Or.inr rfl⟩⟩]
              omega
            · rw [if_neg e2]
              by_cases e1 : k = sA lf nk X i
              · rw [if_pos e1]
                unfold pJ
                rw [e1, if_pos ⟨by omega, (sM_at aX).mpr ⟨cA, hi, cA, Or.inl rfl⟩⟩]
                omega
              · rw [if_neg e1]
                unfold pJ
                by_cases cx : X k = i + 1
                · have hm : ¬ sM lf nk P X k = true := fun q => by
                    rcases ((sM_at cx).mp q).2.2.2 with z | z
                    · exact e1 z
                    · exact e2 z
                  rw [if_neg (fun q => hm q.2), if_neg (fun q => hm q.2)]
                · have : i + 1 + 1 ≤ X k ↔ i + 1 ≤ X k := by omega
                  simp only [this]
          · refine (p15.congr (fun q k hq hk => ?_)).fr (rs := [r + 5]) (Fr.rf.ms (by simp)) (by simp)
            unfold paJ
            by_cases cq : q = i
            · subst cq
              by_cases e2 : k = sB lf nk X q
              · rw [if_pos ⟨rfl, e2⟩, if_pos ⟨Nat.le_refl _, by rw [e2]; exact (sM_at bX).mpr ⟨cB, hi, cA, Or.inr rfl⟩, by rw [e2]; exact bX⟩]
              · rw [if_neg (fun z => e2 z.2)]
                by_cases e1 : k = sA lf nk X q
                · rw [if_pos ⟨rfl, e1⟩, if_pos ⟨Nat.le_refl _, by rw [e1]; exact (sM_at aX).mpr ⟨cA, hi, cA, Or.inl rfl⟩, by rw [e1]; exact aX⟩]
                · rw [if_neg (fun z => e1 z.2), if_neg (fun z => absurd z.1 (by omega)), if_neg]
                  intro z
                  rcases ((sM_at z.2.2).mp z.2.1).2.2.2 with y | y
                  · exact e1 y
                  · exact e2 y
            · rw [if_neg (fun z => cq z.1), if_neg (fun z => cq z.1)]
              have : i + 1 ≤ q ↔ i ≤ q := by omega
              simp only [this]
          · intro q hq
            by_cases cq : q = i
            · subst cq
              rw [ms_same, upd_s]
              refine bt_congr (bt_set (s15 q hq) (by omega)) (fun k _ => ?_)
              unfold slJ
              rw [if_neg (fun z => absurd z.1 (by omega))]
              by_cases ck : k < nk
              · by_cases e2 : k = sB lf nk X q
                · rw [if_pos ⟨Nat.le_refl _, by rw [e2]; exact (sM_at bX).mpr ⟨cB, hi, cA, Or.inr rfl⟩, by rw [e2]; exact bX⟩]
                  subst e2
                  simp [ck, bA]
                · by_cases e1 : k = sA lf nk X q
                  · rw [if_pos ⟨Nat.le_refl _, by rw [e1]; exact (sM_at aX).mpr ⟨cA, hi, cA, Or.inl rfl⟩, by rw [e1]; exact aX⟩, h0 q k ck (by rw [e1, aX]; omega)]
                    rw [decide_eq_false e2, decide_eq_false (fun w : k ≠ sA lf nk X q => w e1)]
                    simp
                  · rw [if_neg (fun z => by
                      rcases ((sM_at z.2.2).mp z.2.1).2.2.2 with y | y
                      · exact e1 y
                      · exact e2 y)]
                    simp [e2]
              · have : ¬ k = sB lf nk X q := by omega
                simp [ck, this]
            · rw [ms_same, upd_n cq]
              refine bt_congr (s15 q hq) (fun k _ => ?_)
              unfold slJ
              have : i + 1 ≤ q ↔ i ≤ q := by omega
              simp only [this]
        · rw [if_neg cB]
          refine wp_it rfl (fin _ 1 (f9.wide (by simp)) ?_ ?_ ?_ (Or.inl ⟨rfl, hany⟩))
          · refine w9.congr (fun k hk => ?_)
            by_cases e1 : k = sA lf nk X i
            · rw [if_pos e1]
              unfold pJ
              rw [e1, if_pos ⟨by omega, (sM_at aX).mpr ⟨cA, hi, cA, Or.inl rfl⟩⟩]
              omega
            · rw [if_neg e1]
              unfold pJ
              by_cases cx : X k = i + 1
              · have hm : ¬ sM lf nk P X k = true := fun q => by
                  rcases ((sM_at cx).mp q).2.2.2 with z | z
                  · exact e1 z
                  · exact cB (by rw [← z]; exact hk)
                rw [if_neg (fun q => hm q.2), if_neg (fun q => hm q.2)]
              · have : i + 1 + 1 ≤ X k ↔ i + 1 ≤ X k := by omega
                simp only [this]
          · refine p9.congr (fun q k hq hk => ?_)
            unfold paJ
            by_cases cq : q = i
            · subst cq
              by_cases e1 : k = sA lf nk X q
              · rw [if_pos ⟨rfl, e1⟩, if_pos ⟨Nat.le_refl _, by rw [e1]; exact (sM_at aX).mpr ⟨cA, hi, cA, Or.inl rfl⟩, by rw [e1]; exact aX⟩]
              · rw [if_neg (fun z => e1 z.2), if_neg (fun z => absurd z.1 (by omega)), if_neg]
                intro z
                rcases ((sM_at z.2.2).mp z.2.1).2.2.2 with y | y
                · exact e1 y
                · exact cB (by rw [← y]; exact hk)
            · rw [if_neg (fun z => cq z.1)]
              have : i + 1 ≤ q ↔ i ≤ q := by omega
              simp only [this]
          · refine s9.congr (fun q k hq hk => ?_)
            unfold slJ
            by_cases cq : q = i
            · subst cq
              rw [if_neg (fun z => absurd z.1 (by omega))]
              by_cases e1 : k = sA lf nk X q
              · rw [if_pos ⟨Nat.le_refl _, by rw [e1]; exact (sM_at aX).mpr ⟨cA, hi, cA, Or.inl rfl⟩, by rw [e1]; exact aX⟩, h0 q k hk (by rw [e1, aX]; omega)]
                simp [e1]
              · rw [if_neg]
                intro z
                rcases ((sM_at z.2.2).mp z.2.1).2.2.2 with y | y
                · exact e1 y
                · exact cB (by rw [← y]; exact hk)
            · have : i + 1 ≤ q ↔ i ≤ q := by omega
              simp only [this]
      · rw [if_neg cA]
        have hm : ∀ k, X k = i + 1 → ¬ sM lf nk P X k = true := fun k e q => cA ((sM_at e).mp q).2.2.1
        refine wp_it rfl (fin σ x2 Fr.rf ?_ ?_ ?_ ?_)
        · refine hw.congr (fun k hk => ?_)
          unfold pJ
          by_cases cx : X k = i + 1
          · rw [if_neg (fun q => hm k cx q.2), if_neg (fun q => hm k cx q.2)]
          · have : i + 1 + 1 ≤ X k ↔ i + 1 ≤ X k := by omega
            simp only [this]
        · refine hp.congr (fun q k hq hk => ?_)
          unfold paJ
          by_cases cq : q = i
          · subst cq
            rw [if_neg (fun z => hm k z.2.2 z.2.1), if_neg (fun z => hm k z.2.2 z.2.1)]
          · have : i + 1 ≤ q ↔ i ≤ q := by omega
            simp only [this]
        · refine hs.congr (fun q k hq hk => ?_)
          unfold slJ
          by_cases cq : q = i
          · subst cq
            rw [if_neg (fun z => hm k z.2.2 z.2.1), if_neg (fun z => hm k z.2.2 z.2.1)]
          · have : i + 1 ≤ q ↔ i ≤ q := by omega
            simp only [this]
        · rcases hx with ⟨e, k, g1, g2, g3⟩ | ⟨e, g⟩
          · exact Or.inl ⟨e, k, g1, g2, by omega⟩
          · refine Or.inr ⟨e, fun k hk hM hle => ?_⟩
            by_cases cx : X k = i + 1
            · exact hm k cx hM
            · exact g k hk hM (by omega)
theorem slp_no {k p : Nat} : ∀ t, sX st t (sim lf nk P st t) k ≤ p + 1 → slp lf nk P st t p k = false := by
  intro t
  induction t with
  | zero => intro _; rfl
  | succ t ih =>
    intro h
    have key : sX st t (sim lf nk P st t) k ≤ p + 1 → ¬ (sM lf nk P (sX st t (sim lf nk P st t)) k = true ∧ sX st t (sim lf nk P st t) k = p + 1) → slp lf nk P st (t + 1) p k = false := fun a b => by
      show (if _ then _ else _) = false
      rw [if_neg b]
      exact ih a
    by_cases c : st k = t + 1
    · have h0 : sX st t (sim lf nk P st t) k = 0 := by
        unfold sX
        rw [if_neg (by omega), sim_before (by omega)]
      exact key (by omega) (fun q => by omega)
    · have e : sX st (t + 1) (sim lf nk P st (t + 1)) k = sim lf nk P st (t + 1) k := by
        unfold sX
        exact if_neg c
      rw [e] at h
      by_cases cm : sM lf nk P (sX st t (sim lf nk P st t)) k = true
      · rw [sim_mv cm] at h
        exact key (by omega) (fun q => by omega)
      · rw [sim_st cm] at h
        exact key h (fun q => cm q.1)
/-- a step of a voyage, behind the starts -/
theorem letGoOn_wp (ht : t < 100) (hV : Vin σ r lf nk P st) (hw : Vw σ r nk P (sX st t (sim lf nk P st t))) (hp : Vp σ r nk P (pas lf nk P st t)) (hs : Vs σ r nk P (slp lf nk P st t)) :
    wp (f_X8_letGoOn σ r (nI t)) (fun o => Fr [r + 3, r + 4, r + 5] σ o.2 ∧ Vw o.2 r nk P (sim lf nk P st (t + 1)) ∧ Vp o.2 r nk P (pas lf nk P st (t + 1)) ∧ Vs o.2 r nk P (slp lf nk P st (t + 1)) ∧ ((o.1 = 1 ∧ ∃ k, k < nk ∧ sM lf nk P (sX st t (sim lf nk P st t)) k = true) ∨ (o.1 = 0 ∧ ∀ k, k < nk → sM lf nk P (sX st t (sim lf nk P st t)) k = false))) := by
  unfold f_X8_letGoOn
  rw [hV.2.2.1]
  have hle : ∀ k, sM lf nk P (sX st t (sim lf nk P st t)) k = true → ¬ P + 1 ≤ sX st t (sim lf nk P st t) k := fun k q => by have := (sM_iff.mp q).2.2.1; omega
  refine wp_mono (go_loop (X := sX st t (sim lf nk P st t)) (pa := pas lf nk P st t) (sl := slp lf nk P st t) ht (fun p k _ h => slp_no t h) 300 P σ 0 (Nat.le_refl _) (by have := hV.1; omega) hV ?_ ?_ ?_ (Or.inr ⟨rfl, fun k _ q => hle k q⟩)) (fun o h => ?_)
  · refine hw.congr (fun k hk => ?_)
    unfold pJ
    rw [if_neg (fun q => hle k q.2 q.1)]
  · refine hp.congr (fun p k h1 h2 => ?_)
    unfold paJ
    rw [if_neg (fun q => by omega)]
  · refine hs.congr (fun p k h1 h2 => ?_)
    unfold slJ
    rw [if_neg (fun q => by omega)]
  · obtain ⟨a1, a2, a3, a4, a5⟩ := h
    refine ⟨a1, a2, a3.congr (fun p k h1 h2 => ?_), a4.congr (fun p k h1 h2 => ?_), a5⟩
    · unfold paJ
      show _ = (if _ then _ else _)
      by_cases c : sM lf nk P (sX st t (sim lf nk P st t)) k = true ∧ sX st t (sim lf nk P st t) k = p + 1
      · rw [if_pos c, if_pos ⟨Nat.zero_le _, c⟩]
      · rw [if_neg c, if_neg (fun q => c q.2)]
    · unfold slJ
      show _ = (if _ then _ else _)
      by_cases c : sM lf nk P (sX st t (sim lf nk P st t)) k = true ∧ sX st t (sim lf nk P st t) k = p + 1
      · rw [if_pos c, if_pos ⟨Nat.zero_le _, c⟩]
      · rw [if_neg c, if_neg (fun q => c q.2)]
theorem run_loop : ∀ (m t : Nat) (σ : Mem) (x1 : Int32), t ≤ 100 → 100 < t + m → Vin σ r lf nk P st → Vw σ r nk P (sim lf nk P st t) → Vp σ r nk P (pas lf nk P st t) → Vs σ r nk P (slp lf nk P st t) → (x1 = 0 → 0 < t → ∀ k, k < nk → sM lf nk P (sX st (t - 1) (sim lf nk P st (t - 1))) k = false) → (t = 0 → x1 = 1) →
    wp (f_X8_run_b29 m σ r x1 (nI t)) (fun τ => Fr [r + 3, r + 4, r + 5] σ τ ∧ Vw τ r nk P (sim lf nk P st 100) ∧ Vp τ r nk P (pas lf nk P st 100) ∧ Vs τ r nk P (slp lf nk P st 100)) := by
  intro m
  induction m with
  | zero => intro t σ x1 h1 h2; omega
  | succ m ih =>
    intro t σ x1 h1 h2 hV hw hp hs hx hx0
    obtain ⟨hP8, hn8, e5, e6, hst, hlf⟩ := id hV
    rw [f_X8_run_b29]
    refine wp_ite (fun c => ?_) (fun c => ?_)
    · rw [nI_lit 100, nI_leI (by omega) (by omega)] at c
      have e : t = 100 := by omega
      subst e
      exact wp_some.mpr ⟨Fr.rf, hw, hp, hs⟩
    · have ht : t < 100 := by
        rcases Nat.lt_or_ge t 100 with q | q
        · exact q
        · exact absurd ((nI_leI (by omega) (by omega)).mpr q) c
      have go : ∀ (σ' : Mem), Fr [r + 3] σ σ' → Vw σ' r nk P (sX st t (sim lf nk P st t)) → wp (f_X8_run_b56 (f_X8_run_b29 m) σ' r (nI t)) (fun τ => Fr [r + 3, r + 4, r + 5] σ τ ∧ Vw τ r nk P (sim lf nk P st 100) ∧ Vp τ r nk P (pas lf nk P st 100) ∧ Vs τ r nk P (slp lf nk P st 100)) := by
        intro σ' g1 g2
        unfold f_X8_run_b56
        refine wp_bi (wp_mono (letGoOn_wp ht (hV.fr g1 (by simp) (by simp) (by simp)) g2 (hp.fr g1 (by simp)) (hs.fr g1 (by simp))) (fun o h => ?_))
        obtain ⟨a1, a2, a3, a4, a5⟩ := h
        have f2 : Fr [r + 3, r + 4, r + 5] σ o.2 := (g1.wide (by simp)).tr a1
        rw [nI_1]
        refine wp_mono (ih (t + 1) o.2 o.1 (by omega) (by omega) (hV.fr f2 (by simp) (by simp) (by simp)) a2 a3 a4 (fun e0 _ => ?_) (fun q => by omega)) (fun τ h => ⟨f2.tr h.1, h.2⟩)
        have e1 : t + 1 - 1 = t := by omega
        rw [e1]
        rcases a5 with ⟨e, -⟩ | ⟨-, g⟩
        · rw [e] at e0
          exact absurd e0 (by decide)
        · exact g
      have start : wp (f_X8_run_b45 (f_X8_run_b29 m) σ r (nI t)) (fun τ => Fr [r + 3, r + 4, r + 5] σ τ ∧ Vw τ r nk P (sim lf nk P st 100) ∧ Vp τ r nk P (pas lf nk P st 100) ∧ Vs τ r nk P (slp lf nk P st 100)) := by
        unfold f_X8_run_b45
        refine wp_ite (fun c => ?_) (fun c => ?_)
        · rw [nI_lit 10, nI_leI (by omega) (by omega)] at c
          refine go σ Fr.rf (hw.congr (fun k hk => ?_))
          exact (sX_of (by have := (hst k hk).2; omega)).symm
        · refine wp_bv (wp_mono (letStart_wp ht hV hw (fun k hk e => sim_before (by omega))) (fun τ h => go τ h.1 h.2))
      refine wp_ite (fun c1 => ?_) (fun _ => start)
      refine wp_ite (fun c2 => ?_) (fun _ => start)
      rw [nI_lit 10, nI_leI (by omega) (by omega)] at c2
      obtain ⟨z1, z2, z3⟩ := sim_stop (lf := lf) (nk := nk) (P := P) (st := st) (t := t - 1) (u := 100) (fun j hj => by have := (hst j hj).2; omega) (hx c1 (by omega)) (by omega)
      have e1 : t - 1 + 1 = t := by omega
      rw [e1] at z1 z2 z3
      exact wp_some.mpr ⟨Fr.rf, hw.congr (fun k hk => (z1 k hk).symm), hp.congr (fun p k _ hk => (z2 p k hk).symm), hs.congr (fun p k _ hk => (z3 p k hk).symm)⟩
/-- run: all steps -/
theorem run_wp (hV : Vin σ r lf nk P st) : wp (f_X8_run σ r) (fun τ => Fr [r + 3, r + 4, r + 5] σ τ ∧ Vw τ r nk P (sim lf nk P st 100) ∧ Vp τ r nk P (pas lf nk P st 100) ∧ Vs τ r nk P (slp lf nk P st 100)) := by
  unfold f_X8_run
  refine wp_bv (wp_mono (fill_wp (by decide)) (fun σ2 h2 => ?_))
  refine wp_bv (wp_mono (fill_wp (by decide)) (fun σ4 h4 => ?_))
  refine wp_bv (wp_mono (fill_wp (by decide)) (fun σ6 h6 => ?_))
  have f : Fr [r + 3, r + 4, r + 5] σ σ6 := ((h2.1.wide (by simp)).tr (h4.1.wide (by simp))).tr (h6.1.wide (by simp))
  have hP := hV.1
  have hn := hV.2.1
  refine wp_mono (run_loop (lf := lf) (st := st) 300 0 σ6 1 (by omega) (by omega) (hV.fr f (by simp) (by simp) (by simp)) (fun p hp => ?_) (fun p k hp hk => ?_) (fun p hp => ?_) (fun _ q => by omega) (fun _ => rfl)) (fun τ h => ⟨f.tr h.1, h.2⟩)
  · rw [h6.1.1 _ (by simp), h4.1.1 _ (by simp), h2.2 p (by omega)]
    refine bt_congr bt_0 (fun k _ => ?_)
    show false = decide (k < nk ∧ 0 = p + 1)
    simp
  · rw [h6.1.1 _ (by simp), h4.2 _ (by omega)]
    rfl
  · rw [h6.2 p (by omega)]
    refine bt_congr bt_0 (fun k _ => ?_)
    show false = (decide (k < nk) && false)
    simp
end GO
