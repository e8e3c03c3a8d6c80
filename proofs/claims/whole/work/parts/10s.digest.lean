/-! 10s: the digest: what both tell of a bridge, of a boat -/
section DIG
variable {σ τ υ : Mem} {nb nk ns ng b k n0 n1 : Nat} {t0 t1 kd mk mn bs sb sm gt gk gb : Nat → Nat} {ma : Nat → Nat → Nat} {h : Int64}
-- the class's answers, once more
theorem liftsC_eq (C : CW σ nb kd mk mn nk ma bs ns sb sm ng gt gk gb) (hb : b < nb) (hk : k < nk) : f_X9_lifts σ (nI b) (nI k) = some (if lfc kd mk mn ma (shc sb sm 255 ns) b k = true then 1 else 0) := by
  have b8 := C.1.1
  have k8 := C.2.1.1
  unfold f_X9_lifts
  rw [isBridgeC_eq C.1.2.1 (by omega), bp_some, if_pos (nI_rng hb (by omega)), if_neg (by decide), isBoatC_eq C.2.1.2.1 (by omega), bp_some, if_pos (nI_rng hk (by omega)), if_neg (by decide), isLifted_eq C.V hb hk, bp_some]
  cases lfc kd mk mn ma (shc sb sm 255 ns) b k <;> rfl
theorem passes0_eq (C : CW σ nb kd mk mn nk ma bs ns sb sm ng gt gk gb) (hb : b < nb) (hk : k < nk) : f_X9_passes σ (nI b) (nI k) (0 : Int32) = some (psv (lfc kd mk mn ma (shc sb sm 255 ns)) nk nb bs b k) := by
  have b8 := C.1.1
  have k8 := C.2.1.1
  unfold f_X9_passes psv
  rw [isBridgeC_eq C.1.2.1 (by omega), bp_some, if_pos (nI_rng hb (by omega)), if_neg (by decide), isBoatC_eq C.2.1.2.1 (by omega), bp_some, if_pos (nI_rng hk (by omega)), if_neg (by decide), show (2 : Int32) = nI 2 from rfl, within_eq (by decide), bp_some, if_pos (show 0 ≤ Int32.toInt 0 ∧ Int32.toInt 0 < ((2 : Nat) : Int) by decide), if_neg (show ¬ (1 : Int32) = 0 by decide), if_neg (show ¬ (0 : Int32) = 1 by decide), passStep_eq C.V hb hk, bp_some]
  have hp := pas_100 (lf := lfc kd mk mn ma (shc sb sm 255 ns)) (nk := nk) (P := nb) (st := bs) (p := b) (k := k)
  have h100 : nI (pas (lfc kd mk mn ma (shc sb sm 255 ns)) nk nb bs 100 b k) = (100 : Int32) ↔ pas (lfc kd mk mn ma (shc sb sm 255 ns)) nk nb bs 100 b k = 100 := by rw [show (100 : Int32) = nI 100 from rfl]; exact nI_eq (by omega) (by omega)
  by_cases c : pas (lfc kd mk mn ma (shc sb sm 255 ns)) nk nb bs 100 b k = 100
  · rw [if_pos (h100.mpr c), if_pos c]
  · rw [if_neg (fun z => c (h100.mp z)), if_neg c]
theorem passes1_eq (C : CW σ nb kd mk mn nk ma bs ns sb sm ng gt gk gb) (hb : b < nb) (hk : k < nk) : f_X9_passes σ (nI b) (nI k) (1 : Int32) = some (if slp (lfc kd mk mn ma (shc sb sm 255 ns)) nk nb bs 100 b k = true then 1 else 0) := by
  have b8 := C.1.1
  have k8 := C.2.1.1
  unfold f_X9_passes
  rw [isBridgeC_eq C.1.2.1 (by omega), bp_some, if_pos (nI_rng hb (by omega)), if_neg (by decide), isBoatC_eq C.2.1.2.1 (by omega), bp_some, if_pos (nI_rng hk (by omega)), if_neg (by decide), show (2 : Int32) = nI 2 from rfl, within_eq (by decide), bp_some, if_pos (show 0 ≤ Int32.toInt 1 ∧ Int32.toInt 1 < ((2 : Nat) : Int) by decide), if_neg (show ¬ (1 : Int32) = 0 by decide), if_pos (show (1 : Int32) = 1 from rfl), hasSlipped_eq C.V hb hk, bp_some]
  cases slp (lfc kd mk mn ma (shc sb sm 255 ns)) nk nb bs 100 b k <;> rfl
theorem atC_eq {t : Nat} (C : CW σ nb kd mk mn nk ma bs ns sb sm ng gt gk gb) (ht : t < 100) (hk : k < nk) : f_X9_at σ (nI t) (nI k) = some (nI (sim (lfc kd mk mn ma (shc sb sm 255 ns)) nk nb bs (t + 1) k) - 1) := by
  have k8 := C.2.1.1
  unfold f_X9_at
  rw [show (100 : Int32) = nI 100 from rfl, within_eq (by decide), bp_some, if_pos (nI_rng ht (by decide)), if_neg (by decide), isBoatC_eq C.2.1.2.1 (by omega), bp_some, if_pos (nI_rng hk (by omega)), if_neg (by decide), placeOf_eq C.V ht hk, bp_some]
theorem waitsC_eq (C : CW σ nb kd mk mn nk ma bs ns sb sm ng gt gk gb) (hk : k < nk) : f_X9_waits σ (nI k) = some (nI (wts (lfc kd mk mn ma (shc sb sm 255 ns)) nk nb bs 100 k)) := by
  have k8 := C.2.1.1
  unfold f_X9_waits
  rw [isBoatC_eq C.2.1.2.1 (by omega), bp_some, if_pos (nI_rng hk (by omega)), if_neg (by decide), waitOf_eq C.V hk, bp_some]
theorem boatC_eq {j : Nat} (C : CW σ nb kd mk mn nk ma bs ns sb sm ng gt gk gb) (hk : k < nk) (hj : j < 7) : f_X9_boat σ (nI k) (nI j) = some (nI (if j = 6 then bs k else ma k j)) := by
  have k8 := C.2.1.1
  obtain ⟨e13, e12, -⟩ := C.2.1.2.2 k hk
  unfold f_X9_boat
  rw [isBoatC_eq C.2.1.2.1 (by omega), bp_some, if_pos (nI_rng hk (by omega)), if_neg (by decide), show (7 : Int32) = nI 7 from rfl, within_eq (by decide), bp_some, if_pos (nI_rng hj (by decide)), if_neg (by decide), nI_clamp (show k < 2 ^ 31 by omega), nI_clamp (show j < 2 ^ 31 by omega)]
  by_cases c : j = 6
  · subst c
    rw [if_pos (show nI 6 = (6 : Int32) from rfl), if_pos rfl, ck_N (by omega) (by decide), e12]
  · rw [if_neg (show ¬ nI j = (6 : Int32) from fun z => c ((nI_eq (by omega) (by omega)).mp (show nI j = nI 6 from z))), if_neg c, ck_N (by omega) (by decide), ck_N (by omega) (by decide), (e13 j (by omega)).1]
theorem partC_eq {j : Nat} (C : CW σ nb kd mk mn nk ma bs ns sb sm ng gt gk gb) (hb : b < nb) : f_X2_part σ (nI b) (nI 0) = some (nI (kd b)) ∧ f_X2_part σ (nI b) (nI 1) = some (nI (mk b)) ∧ f_X2_part σ (nI b) (nI 2) = some (nI (mn b)) := by
  have b8 := C.1.1
  obtain ⟨e7, e8, e9, -⟩ := C.1.2.2 b hb
  unfold f_X2_part
  simp only [show (8 : Int32) = nI 8 from rfl, within_eq (show 8 < 2 ^ 31 by decide), bp_some, if_pos (nI_rng (show b < 8 by omega) (show 8 < 2 ^ 31 by decide)), nI_clamp (show b < 2 ^ 31 by omega), ck_N (show b < 8 by omega) (show 8 < 2 ^ 31 by decide), e7, e8, e9]
  exact ⟨rfl, rfl, rfl⟩
-- a bridge
def dB3 (lf : Nat → Nat → Bool) (nk P : Nat) (st : Nat → Nat) (b : Nat) (h : Int64) : Nat → Int64
  | 0 => h
  | j + 1 => (31 : Int64) * ((31 : Int64) * ((31 : Int64) * dB3 lf nk P st b h j + (if lf b j = true then (1 : Int32) else 0).toInt64) + (psv lf nk P st b j).toInt64) + (if slp lf nk P st 100 b j = true then (1 : Int32) else 0).toInt64
def dB (kd mk mn : Nat → Nat) (nk : Nat) (ma : Nat → Nat → Nat) (bs : Nat → Nat) (nb ns : Nat) (sb sm : Nat → Nat) (ng : Nat) (gt gk gb : Nat → Nat) (b : Nat) (h : Int64) : Int64 := dB3 (lfc kd mk mn ma (shc sb sm 255 ns)) nk nb bs b ((31 : Int64) * ((31 : Int64) * ((31 : Int64) * ((31 : Int64) * ((31 : Int64) * ((31 : Int64) * h + (nI (kd b)).toInt64) + (nI (mk b)).toInt64) + (nI (mn b)).toInt64) + (lkv kd mk mn nk ma bs nb ns sb sm ng gt gk gb b 0).toInt64) + (lkv kd mk mn nk ma bs nb ns sb sm ng gt gk gb b 1).toInt64) + (akv kd mk mn nk ma bs nb ns sb sm ng gt gk gb b 5).toInt64) nk
theorem dB3C_loop (C : CW σ nb kd mk mn nk ma bs ns sb sm ng gt gk gb) (hb : b < nb) : ∀ (q j : Nat), j ≤ nk → nk < j + q → f_X9_digestBridge_b87 q σ (nI b) (dB3 (lfc kd mk mn ma (shc sb sm 255 ns)) nk nb bs b h j) (nI j) = some (dB3 (lfc kd mk mn ma (shc sb sm 255 ns)) nk nb bs b h nk, σ) := by
  have k8 := C.2.1.1
  intro q
  induction q with
  | zero => intro j h1 h2; omega
  | succ q ih =>
    intro j h1 h2
    rw [f_X9_digestBridge_b87, C.2.1.2.1]
    by_cases c : nk ≤ j
    · have e : j = nk := by omega
      subst e
      rw [if_pos ((nI_leI (by omega) (by omega)).mpr (Nat.le_refl _))]
    · have hj : j < nk := by omega
      rw [if_neg (fun z => c ((nI_leI (by omega) (by omega)).mp z)), liftsC_eq C hb hj, bp_some, passes0_eq C hb hj, bp_some, passes1_eq C hb hj, bp_some, nI_1]
      exact ih (j + 1) (by omega) (by omega)
theorem dBC_wp (hI : IN σ n0 t0 n1 t1 ns sb sm ng gt gk gb) (hb : b < nbB n0 t0) : wp (f_X9_digestBridge σ h (nI b)) (fun o => o.1 = dB (kdB t0) (mkB t0) (mnB t0) (nkK n1 t1) (maK n1 t1) (bsK n1 t1) (nbB n0 t0) ns sb sm ng gt gk gb b h ∧ IN o.2 n0 t0 n1 t1 ns sb sm ng gt gk gb) := by
  have C := hI.cw
  have k8 := C.2.1.1
  obtain ⟨p0, p1, p2⟩ := partC_eq (j := 0) C hb
  unfold f_X9_digestBridge
  rw [show (300 : Nat) = 296 + 1 + 1 + 1 + 1 from rfl, f_X9_digestBridge_b6]
  refine wp_ie (by decide) (wp_bpE p0 ?_)
  rw [f_X9_digestBridge_b6]
  refine wp_ie (by decide) (wp_bpE p1 ?_)
  rw [f_X9_digestBridge_b6]
  refine wp_ie (by decide) (wp_bpE p2 ?_)
  rw [f_X9_digestBridge_b6]
  refine wp_it (by decide) (wp_bi (wp_mono (likedMarks_wp C hb) (fun o1 h1 => ?_)))
  have I1 := hI.keep (h1.2.sc (by decide))
  refine wp_bi (wp_mono (likedManies_wp I1.cw hb) (fun o2 h2 => ?_))
  have I2 := I1.keep (h2.2.sc (by decide))
  rw [show (5 : Int32) = nI 5 from rfl]
  refine wp_bi (wp_mono (askC_wp I2.cw hb (by decide)) (fun o3 h3 => ?_))
  have I3 := I2.keep (h3.2.sc (by decide))
  refine ⟨_, dB3C_loop I3.cw hb 300 0 (by omega) (by omega), ?_, I3⟩
  unfold dB lkv
  rw [h1.1, h2.1, h3.1, if_pos (show (0 : Nat) = 0 from rfl), if_neg (show ¬ (1 : Nat) = 0 by decide)]
/-- the reference, once it has read -/
def RI (τ : Mem) (n0 : Nat) (t0 : Nat → Nat) (n1 : Nat) (t1 : Nat → Nat) (ns : Nat) (sb sm : Nat → Nat) (ng : Nat) (gt gk gb : Nat → Nat) : Prop := IN τ n0 t0 n1 t1 ns sb sm ng gt gk gb ∧ MW τ (nbB n0 t0) (kdB t0) (mkB t0) (mnB t0) (nkK n1 t1) (maK n1 t1) (bsK n1 t1) ns sb sm ng gt gk gb
theorem RI.mf (h : RI σ n0 t0 n1 t1 ns sb sm ng gt gk gb) (f : MF σ τ) : RI τ n0 t0 n1 t1 ns sb sm ng gt gk gb := ⟨h.1.keep (f.toX.wide (by decide) (by decide)), h.2.mf f⟩
theorem dB3M_loop (hb : b < nbB n0 t0) : ∀ (q j : Nat) (τ : Mem), RI τ n0 t0 n1 t1 ns sb sm ng gt gk gb → j ≤ nkK n1 t1 → nkK n1 t1 < j + q → wp (f_X10_tellsBridge_b90 q τ (nI b) (dB3 (lfc (kdB t0) (mkB t0) (mnB t0) (maK n1 t1) (shc sb sm 255 ns)) (nkK n1 t1) (nbB n0 t0) (bsK n1 t1) b h j) (nI j)) (fun o => o.1 = dB3 (lfc (kdB t0) (mkB t0) (mnB t0) (maK n1 t1) (shc sb sm 255 ns)) (nkK n1 t1) (nbB n0 t0) (bsK n1 t1) b h (nkK n1 t1) ∧ RI o.2 n0 t0 n1 t1 ns sb sm ng gt gk gb) := by
  intro q
  induction q with
  | zero => intro j τ R h1 h2; omega
  | succ q ih =>
    intro j τ R h1 h2
    have M := R.2
    have k8 := M.2.1.1
    rw [f_X10_tellsBridge_b90, M.2.1.2.1]
    refine wp_ite (fun c => ?_) (fun c => ?_)
    · have c' := (nI_leI (by omega) (by omega)).mp c
      have e : j = nkK n1 t1 := by omega
      subst e
      exact wp_some.mpr ⟨rfl, R⟩
    · have hj := nI_not_le c (by omega) (by omega)
      have L : f_X10_isLifted τ (nI b) (nI j) = some (if lfc (kdB t0) (mkB t0) (mnB t0) (maK n1 t1) (shc sb sm 255 ns) b j = true then 1 else 0) := lift_eq M.1 M.2.1 M.2.2.1 M.2.2.2.1 hb hj
      refine wp_bpE L ?_
      have go : wp (f_X10_tellsBridge_b120 (f_X10_tellsBridge_b90 q) τ (nI b) (nI j) (if lfc (kdB t0) (mkB t0) (mnB t0) (maK n1 t1) (shc sb sm 255 ns) b j = true then 1 else 0) ((31 : Int64) * dB3 (lfc (kdB t0) (mkB t0) (mnB t0) (maK n1 t1) (shc sb sm 255 ns)) (nkK n1 t1) (nbB n0 t0) (bsK n1 t1) b h j)) (fun o => o.1 = dB3 (lfc (kdB t0) (mkB t0) (mnB t0) (maK n1 t1) (shc sb sm 255 ns)) (nkK n1 t1) (nbB n0 t0) (bsK n1 t1) b h (nkK n1 t1) ∧ RI o.2 n0 t0 n1 t1 ns sb sm ng gt gk gb) := by
        unfold f_X10_tellsBridge_b120
        rw [nI_1]
        refine wp_bi (wp_mono (passesOf_wp (w := 0) M hb hj (by decide)) (fun o1 g1 => ?_))
        have R1 := R.mf g1.2
        refine wp_bi (wp_mono (passesOf_wp (w := 1) R1.2 hb hj (by decide)) (fun o2 g2 => ?_))
        have R2 := R1.mf g2.2
        have I := ih (j + 1) o2.2 R2 (by omega) (by omega)
        have e1 := g1.1
        have e2 := g2.1
        rw [if_pos (show (0 : Nat) = 0 from rfl)] at e1
        rw [if_neg (show ¬ (1 : Nat) = 0 by decide)] at e2
        rw [dB3] at I
        rw [e1, e2]
        exact I
      cases hv : lfc (kdB t0) (mkB t0) (mnB t0) (maK n1 t1) (shc sb sm 255 ns) b j with
      | true =>
        rw [hv] at go
        exact wp_ie (by decide) go
      | false =>
        rw [hv] at go
        exact wp_it (by decide) go
theorem dBM_wp (R : RI σ n0 t0 n1 t1 ns sb sm ng gt gk gb) (hb : b < nbB n0 t0) : wp (f_X10_tellsBridge σ h (nI b)) (fun o => o.1 = dB (kdB t0) (mkB t0) (mnB t0) (nkK n1 t1) (maK n1 t1) (bsK n1 t1) (nbB n0 t0) ns sb sm ng gt gk gb b h ∧ RI o.2 n0 t0 n1 t1 ns sb sm ng gt gk gb) := by
  have M := R.2
  have b8 := M.1.1
  have k8 := M.2.1.1
  have hg := R.1.cw.2.2.2.2.1.ok
  obtain ⟨e0, e1, e2, -⟩ := M.1.2.2 b hb
  have x0 : (3 : Int32) * nI b + (0 : Int32) = nI (3 * b) := by rw [nI_lit 3, pk_mul, Int32.add_zero]
  have x1 : (3 : Int32) * nI b + ((0 : Int32) + 1) = nI (3 * b + 1) := by rw [nI_lit 3, pk_mul, show (0 : Int32) + 1 = nI 1 from rfl, nI_add]
  have x2 : (3 : Int32) * nI b + ((0 : Int32) + 1 + 1) = nI (3 * b + 2) := by rw [nI_lit 3, pk_mul, show (0 : Int32) + 1 + 1 = nI 2 from rfl, nI_add]
  unfold f_X10_tellsBridge
  rw [show (300 : Nat) = 296 + 1 + 1 + 1 + 1 from rfl, f_X10_tellsBridge_b6, x0, nI_clamp (show 3 * b < 2 ^ 31 by omega), e0]
  refine wp_ie (by decide) (wp_ckN (by omega) (by decide) ?_)
  rw [f_X10_tellsBridge_b6, x1, nI_clamp (show 3 * b + 1 < 2 ^ 31 by omega), e1]
  refine wp_ie (by decide) (wp_ckN (by omega) (by decide) ?_)
  rw [f_X10_tellsBridge_b6, x2, nI_clamp (show 3 * b + 2 < 2 ^ 31 by omega), e2]
  refine wp_ie (by decide) (wp_ckN (by omega) (by decide) ?_)
  rw [f_X10_tellsBridge_b6]
  refine wp_it (by decide) (wp_bi (wp_mono (likedOf_wp (w := 0) M hg hb (by decide)) (fun o1 g1 => ?_)))
  have R1 := R.mf g1.2
  refine wp_bi (wp_mono (likedOf_wp (w := 1) R1.2 hg hb (by decide)) (fun o2 g2 => ?_))
  have R2 := R1.mf g2.2
  rw [show (5 : Int32) = nI 5 from rfl]
  refine wp_bi (wp_mono (askOf_wp R2.2 hg hb (by decide)) (fun o3 g3 => ?_))
  have R3 : RI o3.2 n0 t0 n1 t1 ns sb sm ng gt gk gb := ⟨R2.1.keep (g3.2.wide (by decide) (by decide)), R2.2.fx g3.2 (by decide) (by decide)⟩
  rw [g1.1, g2.1, g3.1]
  exact dB3M_loop hb 300 0 o3.2 R3 (by omega) (by omega)
-- a boat
def dK1 (ma : Nat → Nat → Nat) (bs : Nat → Nat) (k : Nat) (h : Int64) : Nat → Int64
  | 0 => h
  | j + 1 => (31 : Int64) * dK1 ma bs k h j + (nI (if j = 6 then bs k else ma k j)).toInt64
def dK (kd mk mn : Nat → Nat) (nk : Nat) (ma : Nat → Nat → Nat) (bs : Nat → Nat) (nb ns : Nat) (sb sm : Nat → Nat) (ng : Nat) (gt gk gb : Nat → Nat) (k : Nat) (h : Int64) : Int64 := (31 : Int64) * ((31 : Int64) * ((31 : Int64) * ((31 : Int64) * ((31 : Int64) * ((31 : Int64) * ((31 : Int64) * ((31 : Int64) * ((31 : Int64) * ((31 : Int64) * ((31 : Int64) * ((31 : Int64) * dK1 ma bs k h 7 + (nI (sim (lfc kd mk mn ma (shc sb sm 255 ns)) nk nb bs (5 + 1) k) - 1).toInt64) + (nI (sim (lfc kd mk mn ma (shc sb sm 255 ns)) nk nb bs (30 + 1) k) - 1).toInt64) + (nI (wts (lfc kd mk mn ma (shc sb sm 255 ns)) nk nb bs 100 k)).toInt64) + (cgv (lst (thr kd mk mn nk ma bs nb ns sb sm k) 28) (-1 : Int32)).toInt64) + (cgv (lst (thr kd mk mn nk ma bs nb ns sb sm k) 28) (0 : Int32)).toInt64) + (slv (lfc kd mk mn ma (shc sb sm 255 ns)) nk nb bs k 0).toInt64) + (slv (lfc kd mk mn ma (shc sb sm 255 ns)) nk nb bs k 1).toInt64) + (udv kd mk mn nk ma bs nb ns sb sm ng gt gk gb k).toInt64) + blv kd mk mn nk ma bs nb ns sb sm 5 k 20 0) + blv kd mk mn nk ma bs nb ns sb sm 5 k 20 1) + (ldv kd mk mn nk ma bs nb ns sb sm (7 : Int32) 4 k 0).toInt64) + (ldv kd mk mn nk ma bs nb ns sb sm (7 : Int32) 4 k 1).toInt64
theorem dKC_loop (hk : k < nkK n1 t1) : ∀ (q j : Nat) (σ : Mem), IN σ n0 t0 n1 t1 ns sb sm ng gt gk gb → j ≤ 7 → 7 < j + q → wp (f_X9_digestBoat_b6 q σ (nI k) (dK1 (maK n1 t1) (bsK n1 t1) k h j) (nI j)) (fun o => o.1 = dK (kdB t0) (mkB t0) (mnB t0) (nkK n1 t1) (maK n1 t1) (bsK n1 t1) (nbB n0 t0) ns sb sm ng gt gk gb k h ∧ IN o.2 n0 t0 n1 t1 ns sb sm ng gt gk gb) := by
  intro q
  induction q with
  | zero => intro j σ hI h1 h2; omega
  | succ q ih =>
    intro j σ hI h1 h2
    have C := hI.cw
    have k8 := C.2.1.1
    rw [f_X9_digestBoat_b6, show (6 : Int32) = nI 6 from rfl]
    refine wp_ite (fun c => ?_) (fun c => ?_)
    · have c' := (nI_ltI (by omega) (by omega)).mp c
      have e : j = 7 := by omega
      subst e
      rw [show (5 : Int32) = nI 5 from rfl, show (30 : Int32) = nI 30 from rfl, show (20 : Int32) = nI 20 from rfl, show (4 : Int32) = nI 4 from rfl]
      refine wp_bpE (atC_eq C (by decide) hk) (wp_bpE (atC_eq C (by decide) hk) (wp_bpE (waitsC_eq C hk) (wp_bv (wp_mono (planCargo_wp C hk maK_le) (fun τ1 g1 => ?_)))))
      have I1 := hI.keep (g1.1.sc (by decide))
      refine wp_bpE (g1.2 (-1 : Int32)) (wp_bpE (g1.2 (0 : Int32)) (wp_bv (wp_mono (planSail_wp I1.cw hk) (fun τ2 g2 => ?_))))
      have I2 := I1.keep (g2.1.sc (by decide))
      refine wp_bi (wp_mono (underC_wp I2.cw hk maK_le) (fun o3 g3 => ?_))
      have I3 := I2.keep (g3.2.sc (by decide))
      refine wp_bi (wp_mono (believedC_wp (c := 5) (w := 0) I3.cw I3.bb (by decide) hk (by decide) (by decide)) (fun o4 g4 => ?_))
      have I4 := I3.gr g4.2.1 g4.2.2.1 g4.2.2.2
      refine wp_bi (wp_mono (believedC_wp (c := 5) (w := 1) I4.cw I4.bb (by decide) hk (by decide) (by decide)) (fun o5 g5 => ?_))
      have I5 := I4.gr g5.2.1 g5.2.2.1 g5.2.2.2
      refine wp_bi (wp_mono (loadsC_wp (x := 7) (n := 4) (w := 0) I5.cw (by decide) hk (by decide)) (fun o6 g6 => ?_))
      have I6 := I5.keep (g6.2.sc (by decide))
      refine wp_bi (wp_mono (loadsC_wp (x := 7) (n := 4) (w := 1) I6.cw (by decide) hk (by decide)) (fun o7 g7 => ?_))
      have I7 := I6.keep (g7.2.sc (by decide))
      refine wp_some.mpr ⟨?_, I7⟩
      unfold dK slv
      rw [g2.2.1, g2.2.2, g3.1, g4.1, g5.1, g6.1, g7.1, if_pos (show (0 : Nat) = 0 from rfl), if_neg (show ¬ (1 : Nat) = 0 by decide)]
    · have hj : j < 7 := by
        rcases Nat.lt_or_ge j 7 with z | z
        · exact z
        · exact absurd ((nI_ltI (by omega) (by omega)).mpr (by omega)) c
      refine wp_bpE (boatC_eq C hk hj) ?_
      rw [nI_1]
      exact ih (j + 1) σ hI (by omega) (by omega)
theorem dKM_loop (hk : k < nkK n1 t1) : ∀ (q j : Nat) (τ : Mem), RI τ n0 t0 n1 t1 ns sb sm ng gt gk gb → j ≤ 7 → 7 < j + q → wp (f_X10_tellsBoat_b6 q τ (nI k) (dK1 (maK n1 t1) (bsK n1 t1) k h j) (nI j)) (fun o => o.1 = dK (kdB t0) (mkB t0) (mnB t0) (nkK n1 t1) (maK n1 t1) (bsK n1 t1) (nbB n0 t0) ns sb sm ng gt gk gb k h ∧ RI o.2 n0 t0 n1 t1 ns sb sm ng gt gk gb) := by
  intro q
  induction q with
  | zero => intro j τ R h1 h2; omega
  | succ q ih =>
    intro j τ R h1 h2
    have M := R.2
    have k8 := M.2.1.1
    have hg := R.1.cw.2.2.2.2.1.ok
    rw [f_X10_tellsBoat_b6]
    refine wp_ite (fun c => ?_) (fun c => ?_)
    · have c' := (nI_leI (by omega) (by omega)).mp (show nI 7 ≤ nI j from c)
      have e : j = 7 := by omega
      subst e
      rw [show (5 : Int32) = nI 5 from rfl, show (30 : Int32) = nI 30 from rfl, show (20 : Int32) = nI 20 from rfl, show (4 : Int32) = nI 4 from rfl]
      refine wp_bi (wp_mono (atOf_wp M (by decide) hk) (fun o1 g1 => ?_))
      have R1 := R.mf g1.2
      refine wp_bi (wp_mono (atOf_wp R1.2 (by decide) hk) (fun o2 g2 => ?_))
      have R2 := R1.mf g2.2
      refine wp_bi (wp_mono (waitsOf_wp R2.2 hk) (fun o3 g3 => ?_))
      have R3 := R2.mf g3.2
      refine wp_bi (wp_mono (cargoOf_wp (i := (-1 : Int32)) R3.2 hk maK_le) (fun o4 g4 => ?_))
      have R4 := R3.mf g4.2
      refine wp_bi (wp_mono (cargoOf_wp (i := (0 : Int32)) R4.2 hk maK_le) (fun o5 g5 => ?_))
      have R5 := R4.mf g5.2
      refine wp_bi (wp_mono (sailOf_wp (w := 0) R5.2 hk (by decide)) (fun o6 g6 => ?_))
      have R6 := R5.mf g6.2
      refine wp_bi (wp_mono (sailOf_wp (w := 1) R6.2 hk (by decide)) (fun o7 g7 => ?_))
      have R7 := R6.mf g7.2
      refine wp_bi (wp_mono (underOf_wp R7.2 hg hk maK_le) (fun o8 g8 => ?_))
      have R8 := R7.mf g8.2
      refine wp_bi (wp_mono (believedOf_wp (c := 5) (w := 0) R8.2 (by decide) hk (by decide) (by decide)) (fun o9 g9 => ?_))
      have R9 := R8.mf g9.2
      refine wp_bi (wp_mono (believedOf_wp (c := 5) (w := 1) R9.2 (by decide) hk (by decide) (by decide)) (fun oA gA => ?_))
      have RA := R9.mf gA.2
      refine wp_bi (wp_mono (loadsOf_wp (x := 7) (n := 4) (w := 0) RA.1.1.2.2 RA.2 hk (by decide) (by decide)) (fun oB gB => ?_))
      have RB : RI oB.2 n0 t0 n1 t1 ns sb sm ng gt gk gb := ⟨RA.1.keep (gB.2.1.wide (by decide) (by decide)), gB.2.2⟩
      refine wp_bi (wp_mono (loadsOf_wp (x := 7) (n := 4) (w := 1) RB.1.1.2.2 RB.2 hk (by decide) (by decide)) (fun oC gC => ?_))
      have RC : RI oC.2 n0 t0 n1 t1 ns sb sm ng gt gk gb := ⟨RB.1.keep (gC.2.1.wide (by decide) (by decide)), gC.2.2⟩
      refine wp_some.mpr ⟨?_, RC⟩
      unfold dK
      rw [g1.1, g2.1, g3.1, g4.1, g5.1, g6.1, g7.1, g8.1, g9.1, gA.1, gB.1, gC.1]
    · have hj : j < 7 := nI_not_le (show ¬ nI 7 ≤ nI j from c) (by omega) (by omega)
      obtain ⟨hm72, hb72, -⟩ := M.2.1.2.2 k hk
      have ex : (7 : Int32) * nI k + nI j = nI (7 * k + j) := by rw [nI_lit 7, pk_mul, nI_add]
      have ev : τ.1 72 (7 * k + j) = nI (if j = 6 then bsK n1 t1 k else maK n1 t1 k j) := by
        by_cases z : j = 6
        · subst z; rw [if_pos rfl]; exact hb72
        · rw [if_neg z]; exact (hm72 j (by omega)).1
      rw [ex, nI_clamp (by omega), ev, nI_1]
      exact wp_ckN (by omega) (by decide) (ih (j + 1) τ R (by omega) (by omega))
end DIG
