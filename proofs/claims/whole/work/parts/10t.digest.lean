/-! 10t: the digest -/
def cnv (n0 : Nat) (t0 : Nat → Nat) (n1 : Nat) (t1 : Nat → Nat) (ns : Nat) (sb sm : Nat → Nat) (ng j : Nat) : Int32 := if j = 0 then nI (nbB n0 t0) else if j = 1 then nI (nkK n1 t1) else if j = 2 then nI n0 else if j = 3 then nI n1 else if j = 4 then nI ns else if j = 5 then nI (pcb (fun k => decide (k < nkK n1 t1) && decide (sim (lfA t0 n1 t1 sb sm 255 ns) (nkK n1 t1) (nbB n0 t0) (bsK n1 t1) 100 k = nbB n0 t0 + 1))) else if j = 6 then nI (smn (wts (lfA t0 n1 t1 sb sm 255 ns) (nkK n1 t1) (nbB n0 t0) (bsK n1 t1) 100) (nkK n1 t1)) else nI ng
def dN (n0 : Nat) (t0 : Nat → Nat) (n1 : Nat) (t1 : Nat → Nat) (ns : Nat) (sb sm : Nat → Nat) (ng : Nat) : Nat → Int64
  | 0 => 17
  | j + 1 => (31 : Int64) * dN n0 t0 n1 t1 ns sb sm ng j + (cnv n0 t0 n1 t1 ns sb sm ng j).toInt64
def dBs (n0 : Nat) (t0 : Nat → Nat) (n1 : Nat) (t1 : Nat → Nat) (ns : Nat) (sb sm : Nat → Nat) (ng : Nat) (gt gk gb : Nat → Nat) (h : Int64) : Nat → Int64
  | 0 => h
  | j + 1 => dB (kdB t0) (mkB t0) (mnB t0) (nkK n1 t1) (maK n1 t1) (bsK n1 t1) (nbB n0 t0) ns sb sm ng gt gk gb j (dBs n0 t0 n1 t1 ns sb sm ng gt gk gb h j)
def dKs (n0 : Nat) (t0 : Nat → Nat) (n1 : Nat) (t1 : Nat → Nat) (ns : Nat) (sb sm : Nat → Nat) (ng : Nat) (gt gk gb : Nat → Nat) (h : Int64) : Nat → Int64
  | 0 => h
  | j + 1 => dK (kdB t0) (mkB t0) (mnB t0) (nkK n1 t1) (maK n1 t1) (bsK n1 t1) (nbB n0 t0) ns sb sm ng gt gk gb j (dKs n0 t0 n1 t1 ns sb sm ng gt gk gb h j)
def tbv (lf : Nat → Nat → Bool) (nk P : Nat) (st : Nat → Nat) (t : Nat) : Int32 := orb 0 (fun k => decide (k < nk) && decide (sim lf nk P st (t + 1) k = P + 1)) 8
def dE (n0 : Nat) (t0 : Nat → Nat) (n1 : Nat) (t1 : Nat → Nat) (ns : Nat) (sb sm : Nat → Nat) (h : Int64) : Int64 := (31 : Int64) * ((31 : Int64) * ((31 : Int64) * ((31 : Int64) * ((31 : Int64) * h + (tbv (lfA t0 n1 t1 sb sm 255 ns) (nkK n1 t1) (nbB n0 t0) (bsK n1 t1) 9).toInt64) + (fsv (lfA t0 n1 t1 sb sm 255 ns) (nkK n1 t1) (nbB n0 t0) (bsK n1 t1) 0).toInt64) + (fsv (lfA t0 n1 t1 sb sm 255 ns) (nkK n1 t1) (nbB n0 t0) (bsK n1 t1) 1).toInt64) + (awv (lfA t0 n1 t1 sb sm 255 ns) (nkK n1 t1) (nbB n0 t0) (bsK n1 t1) 0).toInt64) + (awv (lfA t0 n1 t1 sb sm 255 ns) (nkK n1 t1) (nbB n0 t0) (bsK n1 t1) 1).toInt64
section DIG2
variable {σ τ υ : Mem} {ns ng n0 n1 : Nat} {t0 t1 sb sm gt gk gb : Nat → Nat} {h : Int64}
theorem tbv_eq {x : Int32} {lf : Nat → Nat → Bool} {nk P t : Nat} {st : Nat → Nat} (hx : bt x (fun k => decide (k < nk) && decide (sim lf nk P st (t + 1) k = P + 1))) : x = tbv lf nk P st t := bt_inj hx (bt_congr (orb_bt 8 (by decide)) (fun k hk => by rw [decide_eq_true hk, Bool.true_and]))
theorem countC_eq {j : Nat} (hI : IN σ n0 t0 n1 t1 ns sb sm ng gt gk gb) (hj : j < 8) : f_X9_count σ (nI j) = some (cnv n0 t0 n1 t1 ns sb sm ng j) := by
  have C := hI.cw
  have T := hI.1
  unfold f_X9_count
  rcases (show j = 0 ∨ j = 1 ∨ j = 2 ∨ j = 3 ∨ j = 4 ∨ j = 5 ∨ j = 6 ∨ j = 7 by omega) with rfl | rfl | rfl | rfl | rfl | rfl | rfl | rfl
  · rw [if_pos (show nI 0 = (0 : Int32) from rfl), C.1.2.1]
    rfl
  · rw [if_neg (show ¬ nI 1 = (0 : Int32) by decide), if_pos (show nI 1 = (1 : Int32) from rfl), C.2.1.2.1]
    rfl
  · rw [if_neg (show ¬ nI 2 = (0 : Int32) by decide), if_neg (show ¬ nI 2 = (1 : Int32) by decide), if_pos (show nI 2 = (2 : Int32) from rfl)]
    show some (σ.1 2 1) = _
    rw [T.1.2.1]
    rfl
  · rw [if_neg (show ¬ nI 3 = (0 : Int32) by decide), if_neg (show ¬ nI 3 = (1 : Int32) by decide), if_neg (show ¬ nI 3 = (2 : Int32) by decide), if_pos (show nI 3 = (3 : Int32) from rfl)]
    show some (σ.1 4 1) = _
    rw [T.2.1.2.1]
    rfl
  · rw [if_neg (show ¬ nI 4 = (0 : Int32) by decide), if_neg (show ¬ nI 4 = (1 : Int32) by decide), if_neg (show ¬ nI 4 = (2 : Int32) by decide), if_neg (show ¬ nI 4 = (3 : Int32) by decide), if_pos (show nI 4 = (4 : Int32) from rfl), C.2.2.1.2.1]
    rfl
  · rw [if_neg (show ¬ nI 5 = (0 : Int32) by decide), if_neg (show ¬ nI 5 = (1 : Int32) by decide), if_neg (show ¬ nI 5 = (2 : Int32) by decide), if_neg (show ¬ nI 5 = (3 : Int32) by decide), if_neg (show ¬ nI 5 = (4 : Int32) by decide), if_pos (show nI 5 = (5 : Int32) from rfl), throughCount_eq C.V, bp_some, cnv, if_neg (by decide), if_neg (by decide), if_neg (by decide), if_neg (by decide), if_neg (by decide), if_pos rfl]
  · rw [if_neg (show ¬ nI 6 = (0 : Int32) by decide), if_neg (show ¬ nI 6 = (1 : Int32) by decide), if_neg (show ¬ nI 6 = (2 : Int32) by decide), if_neg (show ¬ nI 6 = (3 : Int32) by decide), if_neg (show ¬ nI 6 = (4 : Int32) by decide), if_neg (show ¬ nI 6 = (5 : Int32) by decide), if_pos (show nI 6 = (6 : Int32) from rfl), allWait_eq C.V, bp_some, cnv, if_neg (by decide), if_neg (by decide), if_neg (by decide), if_neg (by decide), if_neg (by decide), if_neg (by decide), if_pos rfl]
  · rw [if_neg (show ¬ nI 7 = (0 : Int32) by decide), if_neg (show ¬ nI 7 = (1 : Int32) by decide), if_neg (show ¬ nI 7 = (2 : Int32) by decide), if_neg (show ¬ nI 7 = (3 : Int32) by decide), if_neg (show ¬ nI 7 = (4 : Int32) by decide), if_neg (show ¬ nI 7 = (5 : Int32) by decide), if_neg (show ¬ nI 7 = (6 : Int32) by decide), if_pos (show nI 7 = (7 : Int32) from rfl), C.2.2.2.2.1.2.1, cnv, if_neg (by decide), if_neg (by decide), if_neg (by decide), if_neg (by decide), if_neg (by decide), if_neg (by decide), if_neg (by decide)]
theorem dC85 : ∀ (q j : Nat) (σ : Mem), IN σ n0 t0 n1 t1 ns sb sm ng gt gk gb → j ≤ nkK n1 t1 → nkK n1 t1 < j + q → wp (f_X9_digest_b85 q σ (dKs n0 t0 n1 t1 ns sb sm ng gt gk gb h j) (nI j)) (fun o => o.1 = dE n0 t0 n1 t1 ns sb sm (dKs n0 t0 n1 t1 ns sb sm ng gt gk gb h (nkK n1 t1)) ∧ IN o.2 n0 t0 n1 t1 ns sb sm ng gt gk gb) := by
  intro q
  induction q with
  | zero => intro j σ hI h1 h2; omega
  | succ q ih =>
    intro j σ hI h1 h2
    have C := hI.cw
    have k8 := C.2.1.1
    rw [f_X9_digest_b85, C.2.1.2.1]
    refine wp_ite (fun c => ?_) (fun c => ?_)
    · have c' := (nI_leI (by omega) (by omega)).mp c
      have e : j = nkK n1 t1 := by omega
      subst e
      have T9 : f_X9_through σ (9 : Int32) = some (tbv (lfA t0 n1 t1 sb sm 255 ns) (nkK n1 t1) (nbB n0 t0) (bsK n1 t1) 9) := by
        unfold f_X9_through
        obtain ⟨v, e, hv⟩ := throughBits_wp C.V (t := 9) (by decide)
        rw [show (100 : Int32) = nI 100 from rfl, show (9 : Int32) = nI 9 from rfl, within_eq (by decide), bp_some, if_pos (nI_rng (show 9 < 100 by decide) (by decide)), if_neg (by decide), e, bp_some, tbv_eq hv]
      refine wp_bpE T9 (wp_bpE (firstC_eq (w := 0) C (by decide)) (wp_bpE (firstC_eq (w := 1) C (by decide)) (wp_bv (wp_mono (planAway_wp C) (fun υ g => wp_some.mpr ⟨?_, hI.keep (g.1.sc (by decide))⟩)))))
      unfold dE awv
      rw [g.2.1, g.2.2, if_pos (show (0 : Nat) = 0 from rfl), if_neg (show ¬ (1 : Nat) = 0 by decide)]
    · have hj := nI_not_le c (by omega) (by omega)
      have K := dKC_loop (h := dKs n0 t0 n1 t1 ns sb sm ng gt gk gb h j) hj 300 0 σ hI (by omega) (by omega)
      refine wp_bi (wp_mono K (fun o g => ?_))
      rw [g.1, nI_1]
      exact ih (j + 1) o.2 g.2 (by omega) (by omega)
theorem dC59 : ∀ (q j : Nat) (σ : Mem), IN σ n0 t0 n1 t1 ns sb sm ng gt gk gb → j ≤ nbB n0 t0 → nbB n0 t0 < j + q → wp (f_X9_digest_b59 q σ (dBs n0 t0 n1 t1 ns sb sm ng gt gk gb h j) (nI j)) (fun o => o.1 = dE n0 t0 n1 t1 ns sb sm (dKs n0 t0 n1 t1 ns sb sm ng gt gk gb (dBs n0 t0 n1 t1 ns sb sm ng gt gk gb h (nbB n0 t0)) (nkK n1 t1)) ∧ IN o.2 n0 t0 n1 t1 ns sb sm ng gt gk gb) := by
  intro q
  induction q with
  | zero => intro j σ hI h1 h2; omega
  | succ q ih =>
    intro j σ hI h1 h2
    have C := hI.cw
    have b8 := C.1.1
    have k8 := C.2.1.1
    rw [f_X9_digest_b59, C.1.2.1]
    refine wp_ite (fun c => ?_) (fun c => ?_)
    · have c' := (nI_leI (by omega) (by omega)).mp c
      have e : j = nbB n0 t0 := by omega
      subst e
      exact dC85 (h := dBs n0 t0 n1 t1 ns sb sm ng gt gk gb h (nbB n0 t0)) 300 0 σ hI (by omega) (by omega)
    · have hj := nI_not_le c (by omega) (by omega)
      refine wp_bi (wp_mono (dBC_wp (h := dBs n0 t0 n1 t1 ns sb sm ng gt gk gb h j) hI hj) (fun o g => ?_))
      rw [g.1, nI_1]
      exact ih (j + 1) o.2 g.2 (by omega) (by omega)
def dV (n0 : Nat) (t0 : Nat → Nat) (n1 : Nat) (t1 : Nat → Nat) (ns : Nat) (sb sm : Nat → Nat) (ng : Nat) (gt gk gb : Nat → Nat) : Int64 := dE n0 t0 n1 t1 ns sb sm (dKs n0 t0 n1 t1 ns sb sm ng gt gk gb (dBs n0 t0 n1 t1 ns sb sm ng gt gk gb ((31 : Int64) * ((31 : Int64) * dN n0 t0 n1 t1 ns sb sm ng 8 + (pfB n0 t0).toInt64) + (pfK n1 t1).toInt64) (nbB n0 t0)) (nkK n1 t1))
theorem dC33 (hI : IN σ n0 t0 n1 t1 ns sb sm ng gt gk gb) : wp (f_X9_digest_b33 300 σ (dN n0 t0 n1 t1 ns sb sm ng 8) (0 : Int32)) (fun o => o.1 = dV n0 t0 n1 t1 ns sb sm ng gt gk gb ∧ IN o.2 n0 t0 n1 t1 ns sb sm ng gt gk gb) := by
  have b8 := hI.cw.1.1
  have f0 : f_X9_fault σ (0 : Int32) = some (pfB n0 t0) := by
    unfold f_X9_fault
    rw [show (2 : Int32) = nI 2 from rfl, within_eq (by decide), bp_some, if_pos (show 0 ≤ Int32.toInt 0 ∧ Int32.toInt 0 < ((2 : Nat) : Int) by decide), if_neg (show ¬ (1 : Int32) = 0 by decide), if_pos (show (0 : Int32) = 0 from rfl), hI.2.1.1]
  have f1 : f_X9_fault σ ((0 : Int32) + 1) = some (pfK n1 t1) := by
    unfold f_X9_fault
    rw [show (2 : Int32) = nI 2 from rfl, within_eq (by decide), bp_some, if_pos (show 0 ≤ Int32.toInt (0 + 1) ∧ Int32.toInt (0 + 1) < ((2 : Nat) : Int) by decide), if_neg (show ¬ (1 : Int32) = 0 by decide), if_neg (show ¬ (0 : Int32) + 1 = 0 by decide), hI.2.1.2.1]
  rw [show (300 : Nat) = 297 + 1 + 1 + 1 from rfl, f_X9_digest_b33]
  refine wp_ie (by decide) (wp_bpE f0 ?_)
  rw [f_X9_digest_b33]
  refine wp_ie (by decide) (wp_bpE f1 ?_)
  rw [f_X9_digest_b33]
  refine wp_it (by decide) ?_
  exact dC59 (h := (31 : Int64) * ((31 : Int64) * dN n0 t0 n1 t1 ns sb sm ng 8 + (pfB n0 t0).toInt64) + (pfK n1 t1).toInt64) 300 0 σ hI (by omega) (by omega)
theorem dC6 (hI : IN σ n0 t0 n1 t1 ns sb sm ng gt gk gb) : ∀ (q j : Nat), j ≤ 8 → 8 < j + q → wp (f_X9_digest_b6 q σ (dN n0 t0 n1 t1 ns sb sm ng j) (nI j)) (fun o => o.1 = dV n0 t0 n1 t1 ns sb sm ng gt gk gb ∧ IN o.2 n0 t0 n1 t1 ns sb sm ng gt gk gb) := by
  intro q
  induction q with
  | zero => intro j h1 h2; omega
  | succ q ih =>
    intro j h1 h2
    rw [f_X9_digest_b6, show (8 : Int32) = nI 8 from rfl]
    refine wp_ite (fun c => ?_) (fun c => ?_)
    · have c' := (nI_leI (by omega) (by omega)).mp c
      have e : j = 8 := by omega
      subst e
      exact dC33 hI
    · have hj := nI_not_le c (by omega) (by omega)
      refine wp_bpE (countC_eq hI hj) ?_
      rw [nI_1]
      exact ih (j + 1) (by omega) (by omega)
-- the reference
theorem dM80 : ∀ (q j : Nat) (τ : Mem), RI τ n0 t0 n1 t1 ns sb sm ng gt gk gb → j ≤ nkK n1 t1 → nkK n1 t1 < j + q → wp (f_X10_digest_b80 q τ (dKs n0 t0 n1 t1 ns sb sm ng gt gk gb h j) (nI j)) (fun o => o.1 = dE n0 t0 n1 t1 ns sb sm (dKs n0 t0 n1 t1 ns sb sm ng gt gk gb h (nkK n1 t1)) ∧ RI o.2 n0 t0 n1 t1 ns sb sm ng gt gk gb) := by
  intro q
  induction q with
  | zero => intro j τ R h1 h2; omega
  | succ q ih =>
    intro j τ R h1 h2
    have M := R.2
    have k8 := M.2.1.1
    rw [f_X10_digest_b80, M.2.1.2.1]
    refine wp_ite (fun c => ?_) (fun c => ?_)
    · have c' := (nI_leI (by omega) (by omega)).mp c
      have e : j = nkK n1 t1 := by omega
      subst e
      rw [show (9 : Int32) = nI 9 from rfl]
      refine wp_bi (wp_mono (throughOfS_wp M.ms (by decide)) (fun o1 g1 => ?_))
      have R1 := R.mf g1.2
      refine wp_bi (wp_mono (firstOf_wp (w := 0) R1.2 (by decide)) (fun o2 g2 => ?_))
      have R2 := R1.mf g2.2
      refine wp_bi (wp_mono (firstOf_wp (w := 1) R2.2 (by decide)) (fun o3 g3 => ?_))
      have R3 := R2.mf g3.2
      refine wp_bi (wp_mono (awayOf_wp (w := 0) R3.2 (by decide)) (fun o4 g4 => ?_))
      have R4 := R3.mf g4.2
      refine wp_bi (wp_mono (awayOf_wp (w := 1) R4.2 (by decide)) (fun o5 g5 => ?_))
      have R5 := R4.mf g5.2
      refine wp_some.mpr ⟨?_, R5⟩
      unfold dE
      rw [tbv_eq g1.1, g2.1, g3.1, g4.1, g5.1]
    · have hj := nI_not_le c (by omega) (by omega)
      have K := dKM_loop (h := dKs n0 t0 n1 t1 ns sb sm ng gt gk gb h j) hj 300 0 τ R (by omega) (by omega)
      refine wp_bi (wp_mono K (fun o g => ?_))
      rw [g.1, nI_1]
      exact ih (j + 1) o.2 g.2 (by omega) (by omega)
theorem dM57 : ∀ (q j : Nat) (τ : Mem), RI τ n0 t0 n1 t1 ns sb sm ng gt gk gb → j ≤ nbB n0 t0 → nbB n0 t0 < j + q → wp (f_X10_digest_b57 q τ (dBs n0 t0 n1 t1 ns sb sm ng gt gk gb h j) (nI j)) (fun o => o.1 = dE n0 t0 n1 t1 ns sb sm (dKs n0 t0 n1 t1 ns sb sm ng gt gk gb (dBs n0 t0 n1 t1 ns sb sm ng gt gk gb h (nbB n0 t0)) (nkK n1 t1)) ∧ RI o.2 n0 t0 n1 t1 ns sb sm ng gt gk gb) := by
  intro q
  induction q with
  | zero => intro j τ R h1 h2; omega
  | succ q ih =>
    intro j τ R h1 h2
    have M := R.2
    have b8 := M.1.1
    have k8 := M.2.1.1
    rw [f_X10_digest_b57, M.1.2.1]
    refine wp_ite (fun c => ?_) (fun c => ?_)
    · have c' := (nI_leI (by omega) (by omega)).mp c
      have e : j = nbB n0 t0 := by omega
      subst e
      exact dM80 (h := dBs n0 t0 n1 t1 ns sb sm ng gt gk gb h (nbB n0 t0)) 300 0 τ R (by omega) (by omega)
    · have hj := nI_not_le c (by omega) (by omega)
      refine wp_bi (wp_mono (dBM_wp (h := dBs n0 t0 n1 t1 ns sb sm ng gt gk gb h j) R hj) (fun o g => ?_))
      rw [g.1, nI_1]
      exact ih (j + 1) o.2 g.2 (by omega) (by omega)
theorem dM6 : ∀ (q j : Nat) (τ : Mem), IN τ n0 t0 n1 t1 ns sb sm ng gt gk gb → j ≤ 8 → 8 < j + q → wp (f_X10_digest_b6 q τ (dN n0 t0 n1 t1 ns sb sm ng j) (nI j)) (fun o => o.1 = dV n0 t0 n1 t1 ns sb sm ng gt gk gb ∧ INV o.2) := by
  intro q
  induction q with
  | zero => intro j τ hI h1 h2; omega
  | succ q ih =>
    intro j τ hI h1 h2
    rw [f_X10_digest_b6, show (8 : Int32) = nI 8 from rfl]
    refine wp_ite (fun c => ?_) (fun c => ?_)
    · have c' := (nI_leI (by omega) (by omega)).mp c
      have e : j = 8 := by omega
      subst e
      have b8 := hI.cw.1.1
      have T := hI.1.2.2
      refine wp_bi (wp_mono (readsB_wp T) (fun o1 g1 => ?_))
      refine wp_bi (wp_mono (readsK_wp (T.fr g1.2.1 (by decide) (by decide))) (fun o2 g2 => ?_))
      have X : MX [71, 72] [7, 9] τ o2.2 := (g1.2.1.wide (by simp) (by simp)).tr (g2.2.1.wide (by simp) (by simp))
      have R : RI o2.2 n0 t0 n1 t1 ns sb sm ng gt gk gb := by
        refine ⟨hI.keep (X.wide (by decide) (by decide)), g1.2.2.fx g2.2.1 (by decide) (by decide), g2.2.2, hI.2.2.1.2.1.fx X (by decide) (by decide), (hI.mo (nb := nbB n0 t0)).fx X (by decide) (by decide), hI.2.2.2.1.2.fx X (by decide) (by decide)⟩
      rw [g1.1, g2.1]
      exact wp_mono (dM57 (h := (31 : Int64) * ((31 : Int64) * dN n0 t0 n1 t1 ns sb sm ng 8 + (pfB n0 t0).toInt64) + (pfK n1 t1).toInt64) 300 0 o2.2 R (by omega) (by omega)) (fun o g => ⟨g.1, g.2.1.inv⟩)
    · have hj := nI_not_le c (by omega) (by omega)
      obtain ⟨v, e, hv⟩ := count_both hI (nI j)
      have ev : v = cnv n0 t0 n1 t1 ns sb sm ng j := Option.some.inj (e.symm.trans (countC_eq hI hj))
      refine wp_bi (wp_mono hv (fun o g => ?_))
      obtain ⟨g1, υ, g2, g3, g4⟩ := g
      rw [g1, ev, nI_1]
      exact ih (j + 1) o.2 (hI.keep ((g2.wide (by decide) (by decide)).tr (g4.toX.wide (by decide) (by decide)))) (by omega) (by omega)
theorem op_digest (h : INV σ) : wp (f_X9_digest σ) (fun o => wp (f_X10_digest o.2) (fun o2 => o2.1 = o.1 ∧ INV o2.2)) := by
  obtain ⟨n0, t0, n1, t1, ns, sb, sm, ng, gt, gk, gb, hI⟩ := h
  have hI : IN σ n0 t0 n1 t1 ns sb sm ng gt gk gb := hI
  unfold f_X9_digest f_X10_digest
  refine wp_mono (dC6 hI 300 0 (by omega) (by omega)) (fun o g => ?_)
  rw [g.1]
  exact dM6 300 0 o.2 g.2 (by omega) (by omega)
end DIG2
