/-! 09b: the text of boats, read by both -/
def isM (b : Nat) : Bool := decide (97 ≤ b ∧ b ≤ 102)
def isD (b : Nat) : Bool := decide (48 ≤ b ∧ b ≤ 57)
def mkc (n : Nat) (t : Nat → Nat) (pl : Nat) : Nat := lst (fun i => !(decide (pl + i < n) && isM (t (pl + i)))) 6
def bcnt (t : Nat → Nat) (pl c m : Nat) : Nat := smn (fun i => if t (pl + i) = 97 + m then 1 else 0) c
def bps (n : Nat) (t : Nat → Nat) : Nat → Nat
  | 0 => 0
  | j + 1 => bps n t j + mkc n t (bps n t j) + 2
def bpr (n : Nat) (t : Nat → Nat) : Nat → Nat → Nat → Int32 × Nat
  | 0, pl, _ => (nI pl, 0)
  | f + 1, pl, j => if pl + mkc n t pl < n ∧ isD (t (pl + mkc n t pl)) = true then (if pl + mkc n t pl + 1 = n then ((-1 : Int32), j + 1) else if t (pl + mkc n t pl + 1) = 59 then bpr n t f (pl + mkc n t pl + 2) (j + 1) else (nI (pl + mkc n t pl + 1), 0)) else (nI (pl + mkc n t pl), 0)
def pfK (n : Nat) (t : Nat → Nat) : Int32 := if n = 0 then (-1 : Int32) else (bpr n t 8 0 0).1
def nkK (n : Nat) (t : Nat → Nat) : Nat := if n = 0 then 0 else (bpr n t 8 0 0).2
def maK (n : Nat) (t : Nat → Nat) (k m : Nat) : Nat := bcnt t (bps n t k) (mkc n t (bps n t k)) m
def bsK (n : Nat) (t : Nat → Nat) (k : Nat) : Nat := t (bps n t k + mkc n t (bps n t k)) - 48
section PK
variable {σ τ : Mem} {n n0 pl : Nat} {t t0 : Nat → Nat}
theorem mkc_le : mkc n t pl ≤ 6 := lst_le _ _
theorem mkc_yes {i : Nat} (h : i < mkc n t pl) : pl + i < n ∧ isM (t (pl + i)) = true := by
  have := lst_no h
  rw [Bool.not_eq_false', Bool.and_eq_true, decide_eq_true_iff] at this
  exact this
theorem mkc_no (h : mkc n t pl < 6) : ¬ (pl + mkc n t pl < n ∧ isM (t (pl + mkc n t pl)) = true) := by
  have := lst_yes h
  rw [Bool.not_eq_true'] at this
  have this : (decide (pl + mkc n t pl < n) && isM (t (pl + mkc n t pl))) = false := this
  intro q
  rw [decide_eq_true q.1, q.2] at this
  cases this
theorem mkc_is {c : Nat} (hc : c ≤ 6) (h : ∀ i, i < c → pl + i < n ∧ isM (t (pl + i)) = true) (hn : c < 6 → ¬ (pl + c < n ∧ isM (t (pl + c)) = true)) : mkc n t pl = c := by
  by_cases e : c < 6
  · refine lst_eq e ?_ (fun k hk => ?_)
    · have := hn e
      rw [Bool.not_eq_true']
      rcases hq : (decide (pl + c < n) && isM (t (pl + c))) with _ | _
      · rfl
      · rw [Bool.and_eq_true, decide_eq_true_iff] at hq
        exact absurd hq this
    · obtain ⟨a, b⟩ := h k hk
      rw [decide_eq_true a, b]
      rfl
  · have e6 : c = 6 := by omega
    subst e6
    refine lst_none (fun k hk => ?_)
    obtain ⟨a, b⟩ := h k hk
    rw [decide_eq_true a, b]
    rfl
theorem bcnt_le {c m : Nat} : bcnt t pl c m ≤ c := by
  have := smn_le (f := fun i => if t (pl + i) = 97 + m then 1 else 0) (c := 1) (n := c) (fun i _ => by
    show (if _ then 1 else 0) ≤ 1
    split <;> omega)
  unfold bcnt
  omega
theorem bcnt_succ {c m : Nat} : bcnt t pl (c + 1) m = bcnt t pl c m + if t (pl + c) = 97 + m then 1 else 0 := rfl
theorem marks_loop {r : Nat} (hpl : pl ≤ 100) (hr : r ≠ 4 ∧ r ≠ 5) : ∀ (q c : Nat) (σ : Mem), c ≤ 6 → 6 < c + q → Ctx σ 4 n t → (∀ i, i < c → pl + i < n ∧ isM (t (pl + i)) = true) → (∀ m, m < 6 → σ.1 r m = nI (bcnt t pl c m)) →
    wp (f_X1_parseMarks_b7 q σ 4 (nI pl) r (nI c)) (fun o => o.1 = nI (mkc n t pl) ∧ Fr [r] σ o.2 ∧ ∀ m, m < 6 → o.2.1 r m = nI (bcnt t pl (mkc n t pl) m)) := by
  intro q
  induction q with
  | zero => intro c σ h1 h2; omega
  | succ q ih =>
    intro c σ h1 h2 hT hm hrow
    rw [f_X1_parseMarks_b7, show (6 : Int32) = nI 6 from rfl]
    refine wp_ite (fun c6 => ?_) (fun c6 => ?_)
    · rw [nI_leI (by omega) (by omega)] at c6
      have e : mkc n t pl = c := mkc_is h1 hm (fun w => by omega)
      refine wp_some.mpr ⟨by rw [e, show c = 6 by omega], Fr.rf, fun m h6 => by rw [e]; exact hrow m h6⟩
    · have hc := nI_not_le c6 (by omega) (by omega)
      rw [nI_add]
      refine wp_bpE (from_eq hT (by omega)) (wp_bpE (within_eq (by omega)) ?_)
      by_cases k : pl + c < n ∧ isM (t (pl + c)) = true
      · have hv := (hT.2.2.2 _ k.1).2
        have ho := k.2
        unfold isM at ho
        rw [decide_eq_true_iff] at ho
        have e97 : nI (t (pl + c)) - (97 : Int32) = nI (t (pl + c) - 97) := pk_sub (b := 97) (by omega)
        rw [if_pos k.1, e97, if_pos (show 0 ≤ (nI (t (pl + c) - 97)).toInt ∧ (nI (t (pl + c) - 97)).toInt < (6 : Nat) by rw [nI_toInt (by omega)]; omega)]
        refine wp_ie (by decide) (wp_ckN (by omega) (by omega) (wp_ckN (by omega) (by omega) (wp_lt ?_)))
        rw [nI_clamp (by omega), hrow _ (by omega), nI_1, nI_1]
        have f1 : Fr [r] σ (ms σ r (t (pl + c) - 97) (nI (bcnt t pl c (t (pl + c) - 97) + 1))) := Fr.rf.ms (by simp)
        refine wp_mono (ih (c + 1) _ (by omega) (by omega) (hT.fr f1 (by simp [Ne.symm hr.1]) (by simp [Ne.symm hr.2])) (fun i hi => ?_) (fun m h6 => ?_)) (fun o h => ⟨h.1, f1.tr h.2.1, h.2.2⟩)
        · by_cases e : i = c
          · rw [e]; exact k
          · exact hm i (by omega)
        · rw [ms_same, bcnt_succ]
          by_cases e : m = t (pl + c) - 97
          · rw [e, upd_s, if_pos (by omega)]
          · rw [upd_n e, if_neg (by omega), Nat.add_zero]
            exact hrow m h6
      · have e : mkc n t pl = c := mkc_is h1 hm (fun _ => k)
        have hw : ¬ (0 ≤ (if pl + c < n then nI (t (pl + c)) - (97 : Int32) else (-257 : Int32)).toInt ∧ (if pl + c < n then nI (t (pl + c)) - (97 : Int32) else (-257 : Int32)).toInt < (6 : Nat)) := by
          by_cases c2 : pl + c < n
          · have hv := (hT.2.2.2 _ c2).2
            have hno : ¬ (97 ≤ t (pl + c) ∧ t (pl + c) ≤ 102) := fun w => k ⟨c2, decide_eq_true w⟩
            have i0 : (nI (t (pl + c)) - (97 : Int32)).toInt = (t (pl + c) : Int) - (97 : Nat) := subI (c := 97) (by omega) (by omega)
            rw [if_pos c2, i0]
            omega
          · rw [if_neg c2]
            decide
        rw [if_neg hw]
        exact wp_it rfl (wp_some.mpr ⟨by rw [e], Fr.rf, fun m h6 => by rw [e]; exact hrow m h6⟩)
theorem marks_wp {r : Nat} (hpl : pl ≤ 100) (hr : r ≠ 4 ∧ r ≠ 5) (hT : Ctx σ 4 n t) : wp (f_X1_parseMarks σ 4 (nI pl) r) (fun o => o.1 = nI (mkc n t pl) ∧ Fr [r] σ o.2 ∧ ∀ m, m < 6 → o.2.1 r m = nI (bcnt t pl (mkc n t pl) m)) := by
  unfold f_X1_parseMarks
  refine wp_bv (wp_mono (fill_wp (by decide)) (fun τ h => ?_))
  exact wp_mono (marks_loop hpl hr 300 0 τ (by omega) (by omega) (hT.fr h.1 (by simp [Ne.symm hr.1]) (by simp [Ne.symm hr.2])) (fun i hi => by omega) (fun m h6 => h.2 m h6)) (fun o g => ⟨g.1, h.1.tr g.2.1, g.2.2⟩)
/-- where a boat's bytes begin while all goes well -/
theorem parseK_loop (hn : n ≤ 63) : ∀ (f m j pl : Nat) (σ : Mem), f + j = 8 → f < m → pl = bps n t j → pl ≤ n → Ctx σ 4 n t → (∀ k, k < j → (∀ i, i < 6 → σ.1 (13 + k) i = nI (maK n t k i)) ∧ σ.1 12 k = nI (bsK n t k) ∧ bsK n t k < 10) →
    wp (f_X1_parseAll_b4 m σ 4 (nI pl) (nI j)) (fun o => Fr [10, 12, 13, 14, 15, 16, 17, 18, 19, 20] σ o.2 ∧ o.2.1 10 3 = σ.1 10 3 ∧ o.1 = (bpr n t f pl j).1 ∧ (¬ (bpr n t f pl j).1 = (-1 : Int32) → (bpr n t f pl j).2 = 0) ∧ ((bpr n t f pl j).1 = (-1 : Int32) → o.2.1 10 2 = nI (bpr n t f pl j).2 ∧ (bpr n t f pl j).2 ≤ 8 ∧ ∀ k, k < (bpr n t f pl j).2 → (∀ i, i < 6 → o.2.1 (13 + k) i = nI (maK n t k i)) ∧ o.2.1 12 k = nI (bsK n t k) ∧ bsK n t k < 10)) := by
  intro f
  induction f with
  | zero =>
    intro m j pl σ h1 h2 hpl hle hT hrow
    obtain ⟨m, rfl⟩ : ∃ z, m = z + 1 := ⟨m - 1, by omega⟩
    rw [f_X1_parseAll_b4, show j = 8 by omega]
    refine wp_it (by decide) (wp_some.mpr ⟨Fr.rf, rfl, rfl, fun _ => rfl, fun q => (nI_neg1 (j := pl) (by omega) q).elim⟩)
  | succ f ih =>
    intro m j pl σ h1 h2 hpl hle hT hrow
    obtain ⟨m, rfl⟩ : ∃ z, m = z + 1 := ⟨m - 1, by omega⟩
    have hj : j < 8 := by omega
    have hmk := mkc_le (n := n) (t := t) (pl := pl)
    have hin : 13 + j ∈ [10, 12, 13, 14, 15, 16, 17, 18, 19, 20] := by simp only [List.mem_cons, List.not_mem_nil, or_false]; omega
    have hr4 : 13 + j ≠ 4 ∧ 13 + j ≠ 5 := ⟨by omega, by omega⟩
    rw [f_X1_parseAll_b4, bpr, show (8 : Int32) = nI 8 from rfl]
    refine wp_ie (fun q => by have := (nI_leI (by omega) (by omega)).mp q; omega) (wp_ckN (by omega) (by omega) ?_)
    rw [nI_clamp (by omega)]
    refine wp_bi (wp_mono (marks_wp (by omega) hr4 hT) (fun o h => ?_))
    obtain ⟨g1, g2, g3⟩ := h
    rw [g1, nI_add]
    have f4 : Fr [10, 12, 13, 14, 15, 16, 17, 18, 19, 20] σ o.2 := g2.wide (fun r hr => by rw [List.mem_singleton.mp hr]; exact hin)
    have hT4 := hT.fr f4 (by decide) (by decide)
    generalize hs : pl + mkc n t pl = s at *
    refine wp_bpE (from_eq hT4 (by omega)) (wp_ckN (by omega) (by omega) (wp_lt (wp_ckN (by omega) (by omega) ?_)))
    rw [ms_same, upd_s]
    have f9 : ∀ x, Fr [10, 12, 13, 14, 15, 16, 17, 18, 19, 20] σ (ms o.2 12 j x) := fun x => f4.ms (by simp)
    have g9 : ∀ x, (ms o.2 12 j x).1 10 3 = σ.1 10 3 := fun x => by rw [ms_ne (by decide), g2.1 10 (by simp only [List.mem_singleton]; omega)]
    rw [show (10 : Int32) = nI 10 from rfl]
    refine wp_bpE (within_eq (by omega)) ?_
    by_cases k : s < n ∧ isD (t s) = true
    · have hv := (hT.2.2.2 _ k.1).2
      have ho := k.2
      unfold isD at ho
      rw [decide_eq_true_iff] at ho
      have e48 : nI (t s) - (48 : Int32) = nI (t s - 48) := pk_sub (b := 48) (by omega)
      rw [if_pos k.1, e48, if_pos (show 0 ≤ (nI (t s - 48)).toInt ∧ (nI (t s - 48)).toInt < (10 : Nat) by rw [nI_toInt (by omega)]; omega), if_pos k]
      refine wp_ie (by decide) (wp_lt ?_)
      have f15 : ∀ x y, Fr [10, 12, 13, 14, 15, 16, 17, 18, 19, 20] σ (ms (ms o.2 12 j x) 10 2 y) := fun x y => (f9 x).ms (by simp)
      have g15 : ∀ x y, (ms (ms o.2 12 j x) 10 2 y).1 10 3 = σ.1 10 3 := fun x y => by rw [ms_same, upd_n (by decide), g9]
      have hT15 := hT.fr (f15 (nI (t s - 48)) (nI j + 1)) (by decide) (by decide)
      have ebs : bsK n t j = t s - 48 := by unfold bsK; rw [← hpl, hs]
      have ema : ∀ i, maK n t j i = bcnt t pl (mkc n t pl) i := fun i => by unfold maK; rw [← hpl]
      have hrow2 : ∀ k, k < j + 1 → (∀ i, i < 6 → (ms (ms o.2 12 j (nI (t s - 48))) 10 2 (nI j + 1)).1 (13 + k) i = nI (maK n t k i)) ∧ (ms (ms o.2 12 j (nI (t s - 48))) 10 2 (nI j + 1)).1 12 k = nI (bsK n t k) ∧ bsK n t k < 10 := by
        intro k hk
        rw [ms_ne (show 13 + k ≠ 10 by omega), ms_ne (show 13 + k ≠ 12 by omega), ms_ne (show (12 : Nat) ≠ 10 by decide), ms_same]
        by_cases e : k = j
        · subst e
          refine ⟨fun i hi => by rw [ema]; exact g3 i hi, by rw [upd_s, ebs], by rw [ebs]; omega⟩
        · rw [upd_n e, g2.1 (13 + k) (by simp only [List.mem_singleton]; omega), g2.1 12 (by simp only [List.mem_singleton]; omega)]
          exact hrow k (by omega)
      rw [nI_1, hT15.2.1]
      rw [nI_1] at hrow2
      refine wp_ite (fun c => ?_) (fun c => ?_)
      · have c' : s + 1 = n := (nI_eq (by omega) (by omega)).mp c
        rw [if_pos c']
        refine wp_some.mpr ⟨f15 _ _, g15 _ _, rfl, fun q => absurd rfl q, fun _ => ⟨by rw [ms_same, upd_s, nI_1], by show j + 1 ≤ 8; omega, fun k hk => by rw [nI_1]; exact hrow2 k hk⟩⟩
      · have c' : ¬ s + 1 = n := fun e => c (by rw [e])
        have hlt : s + 1 < n := by omega
        have hv1 := (hT.2.2.2 _ hlt).2
        rw [if_neg c']
        refine wp_bpE (from_eq hT15 (by omega)) ?_
        rw [if_pos hlt]
        refine wp_ite (fun c3 => ?_) (fun c3 => ?_)
        · have c3' : t (s + 1) = 59 + 0 := (sub_eq (c := 59) (d := 0) (by omega) (by omega) (by omega)).mp c3
          rw [if_pos (show t (s + 1) = 59 by omega), nI_1, nI_1]
          refine wp_mono (ih m (j + 1) (s + 1 + 1) _ (by omega) (by omega) ?_ (by omega) (by rw [nI_1] at hT15; exact hT15) hrow2) (fun o2 h => ⟨?_, ?_, h.2.2⟩)
          · show s + 1 + 1 = bps n t j + mkc n t (bps n t j) + 2
            rw [← hpl, hs]
          · exact (f15 _ _).tr h.1
          · exact h.2.1.trans (g15 _ _)
        · have c3' : ¬ t (s + 1) = 59 := fun e => c3 ((sub_eq (c := 59) (d := 0) (by omega) (by omega) (by omega)).mpr (by omega))
          rw [if_neg c3']
          exact wp_some.mpr ⟨f15 _ _, g15 _ _, rfl, fun _ => rfl, fun q => (nI_neg1 (j := s + 1) (by omega) q).elim⟩
    · have hw : ¬ (0 ≤ (if s < n then nI (t s) - (48 : Int32) else (-257 : Int32)).toInt ∧ (if s < n then nI (t s) - (48 : Int32) else (-257 : Int32)).toInt < (10 : Nat)) := by
        by_cases c2 : s < n
        · have hv := (hT.2.2.2 _ c2).2
          have hno : ¬ (48 ≤ t s ∧ t s ≤ 57) := fun w => k ⟨c2, decide_eq_true w⟩
          have i0 : (nI (t s) - (48 : Int32)).toInt = (t s : Int) - (48 : Nat) := subI (c := 48) (by omega) (by omega)
          rw [if_pos c2, i0]
          omega
        · rw [if_neg c2]
          decide
      rw [if_neg hw, if_neg k]
      exact wp_it rfl (wp_some.mpr ⟨f9 _, g9 _, rfl, fun _ => rfl, fun q => (nI_neg1 (j := s) (by omega) q).elim⟩)
theorem parseK_wp (h : Ctx σ 4 n t) : wp (f_X1_parse σ 4) (fun τ => Fr [10, 12, 13, 14, 15, 16, 17, 18, 19, 20] σ τ ∧ τ.1 10 3 = pfK n t ∧ Ck τ (nkK n t) (maK n t) (bsK n t)) := by
  have hn : n ≤ 63 := h.2.2.1
  unfold f_X1_parse
  refine wp_lt ?_
  have f0 : Fr [10, 12, 13, 14, 15, 16, 17, 18, 19, 20] σ (ms σ 10 2 0) := Fr.rf.ms (by simp)
  have h1 := h.fr f0 (by decide) (by decide)
  rw [h1.2.1]
  have hma : ∀ k i, maK n t k i < 100 := fun k i => by
    have h1 := bcnt_le (t := t) (pl := bps n t k) (c := mkc n t (bps n t k)) (m := i)
    have h2 := mkc_le (n := n) (t := t) (pl := bps n t k)
    unfold maK
    omega
  have tail : ∀ (σ5 : Mem) (v : Int32), Fr [10, 12, 13, 14, 15, 16, 17, 18, 19, 20] σ σ5 → v = pfK n t → (¬ pfK n t = (-1 : Int32) → nkK n t = 0) → (pfK n t = (-1 : Int32) → σ5.1 10 2 = nI (nkK n t) ∧ nkK n t ≤ 8 ∧ ∀ k, k < nkK n t → (∀ i, i < 6 → σ5.1 (13 + k) i = nI (maK n t k i)) ∧ σ5.1 12 k = nI (bsK n t k) ∧ bsK n t k < 10) → wp (f_X1_parse_b22 σ5 v) (fun τ => Fr [10, 12, 13, 14, 15, 16, 17, 18, 19, 20] σ τ ∧ τ.1 10 3 = pfK n t ∧ Ck τ (nkK n t) (maK n t) (bsK n t)) := by
    intro σ5 v g1 g2 g3 g4
    unfold f_X1_parse_b22
    refine wp_lt ?_
    rw [ms_same, upd_s]
    refine wp_ite (fun c => ?_) (fun c => wp_lt ?_)
    · obtain ⟨g5, g6, g7⟩ := g4 (by rw [← g2]; exact c)
      refine wp_some.mpr ⟨g1.ms (by simp), by rw [ms_same, upd_s, g2], g6, by rw [ms_same, upd_n (by decide)]; exact g5, fun k hk => ?_⟩
      rw [ms_ne (show 13 + k ≠ 10 by omega), ms_ne (show (12 : Nat) ≠ 10 by decide)]
      obtain ⟨a1, a2⟩ := g7 k hk
      exact ⟨fun m hm => ⟨a1 m hm, hma k m⟩, a2⟩
    · have e0 : nkK n t = 0 := g3 (fun q => c (g2.trans q))
      refine wp_some.mpr ⟨(g1.ms (by simp)).ms (by simp), by rw [ms_same, upd_n (by decide), ms_same, upd_s, g2], by omega, by rw [ms_same, upd_s, e0]; rfl, fun k hk => by omega⟩
  refine wp_ite (fun c => ?_) (fun c => ?_)
  · have c' : n = 0 := (nI_eq (b := 0) (by omega) (by omega)).mp c
    have e1 : pfK n t = (-1 : Int32) := by unfold pfK; rw [if_pos c']
    have e2 : nkK n t = 0 := by unfold nkK; rw [if_pos c']
    refine tail _ _ f0 e1.symm (fun _ => e2) (fun _ => ⟨?_, by omega, fun k hk => by omega⟩)
    rw [ms_same, upd_s, e2]
    rfl
  · have c' : ¬ n = 0 := fun e => c (by rw [e]; rfl)
    have e1 : pfK n t = (bpr n t 8 0 0).1 := by unfold pfK; rw [if_neg c']
    have e2 : nkK n t = (bpr n t 8 0 0).2 := by unfold nkK; rw [if_neg c']
    unfold f_X1_parseAll
    refine wp_bi (wp_mono (parseK_loop hn 8 300 0 0 _ rfl (by omega) rfl (Nat.zero_le _) h1 (fun j hj => by omega)) (fun o g => ?_))
    rw [← e1, ← e2] at g
    exact tail o.2 o.1 (f0.tr g.1) g.2.2.1 g.2.2.2.1 g.2.2.2.2
end PK
