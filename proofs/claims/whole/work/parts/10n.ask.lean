/-! 10n: ask -/
def mxn (f : Nat → Nat) : Nat → Nat
  | 0 => 0
  | n + 1 => if mxn f n < f n then f n else mxn f n
theorem mxn_le {f : Nat → Nat} {c : Nat} (h : ∀ i, f i ≤ c) : ∀ n, mxn f n ≤ c := by
  intro n
  induction n with
  | zero => exact Nat.zero_le _
  | succ n ih =>
    rw [mxn]
    split
    · exact h n
    · exact ih
def tlf (kd mk mn : Nat → Nat) (nk : Nat) (ma : Nat → Nat → Nat) (bs : Nat → Nat) (nb ns : Nat) (sb sm : Nat → Nat) (ng : Nat) (gt gk gb : Nat → Nat) (b s k p v : Nat) : Nat := if lkM kd mk mn nk ma bs nb ns sb sm ng gt gk gb b v = true ∧ sim (lfc kd (un mk b v) mn ma (shc sb sm 255 ns)) nk nb bs (s + 1) k = p then 1 else 0
def tly (kd mk mn : Nat → Nat) (nk : Nat) (ma : Nat → Nat → Nat) (bs : Nat → Nat) (nb ns : Nat) (sb sm : Nat → Nat) (ng : Nat) (gt gk gb : Nat → Nat) (b s j k p : Nat) : Nat := smn (tlf kd mk mn nk ma bs nb ns sb sm ng gt gk gb b s k p) j
def grt (kd mk mn : Nat → Nat) (nk : Nat) (ma : Nat → Nat → Nat) (bs : Nat → Nat) (nb ns : Nat) (sb sm : Nat → Nat) (ng : Nat) (gt gk gb : Nat → Nat) (b s k : Nat) : Nat := mxn (tly kd mk mn nk ma bs nb ns sb sm ng gt gk gb b s 6 k) 10
section ASK
variable {σ τ υ : Mem} {lf : Nat → Nat → Bool} {nb nk ns ng P bl aw n0 n1 b s : Nat} {st t0 t1 kd mk mn bs sb sm gt gk gb f : Nat → Nat} {ma sh : Nat → Nat → Nat} {T : Nat → Nat → Nat} {pos g : Nat → Nat}
theorem tlf_le {k p v : Nat} : tlf kd mk mn nk ma bs nb ns sb sm ng gt gk gb b s k p v ≤ 1 := by
  unfold tlf
  split <;> omega
theorem tly_le {j k p : Nat} : tly kd mk mn nk ma bs nb ns sb sm ng gt gk gb b s j k p ≤ j := by
  have := smn_le (f := tlf kd mk mn nk ma bs nb ns sb sm ng gt gk gb b s k p) (c := 1) (n := j) (fun v _ => tlf_le)
  unfold tly
  omega
theorem grt_le {k : Nat} : grt kd mk mn nk ma bs nb ns sb sm ng gt gk gb b s k ≤ 6 := mxn_le (fun _ => tly_le) 10
theorem tly_yes {j k p : Nat} (h : lkM kd mk mn nk ma bs nb ns sb sm ng gt gk gb b j = true) : tly kd mk mn nk ma bs nb ns sb sm ng gt gk gb b s (j + 1) k p = tly kd mk mn nk ma bs nb ns sb sm ng gt gk gb b s j k p + if sim (lfc kd (un mk b j) mn ma (shc sb sm 255 ns)) nk nb bs (s + 1) k = p then 1 else 0 := by
  show _ + tlf kd mk mn nk ma bs nb ns sb sm ng gt gk gb b s k p j = _
  unfold tlf
  by_cases c : sim (lfc kd (un mk b j) mn ma (shc sb sm 255 ns)) nk nb bs (s + 1) k = p
  · rw [if_pos ⟨h, c⟩, if_pos c]; rfl
  · rw [if_neg (fun q => c q.2), if_neg c]; rfl
theorem tly_no {j k p : Nat} (h : lkM kd mk mn nk ma bs nb ns sb sm ng gt gk gb b j = false) : tly kd mk mn nk ma bs nb ns sb sm ng gt gk gb b s (j + 1) k p = tly kd mk mn nk ma bs nb ns sb sm ng gt gk gb b s j k p := by
  show _ + tlf kd mk mn nk ma bs nb ns sb sm ng gt gk gb b s k p j = _
  unfold tlf
  rw [if_neg (fun q => by rw [h] at q; exact absurd q.1 (by decide))]
  rfl
/-- tallies in a row -/
def Tal (σ : Mem) (r nk : Nat) (T : Nat → Nat → Nat) : Prop := ∀ k, k < nk → ∀ p, p < 10 → σ.1 r (10 * k + p) = nI (T k p)
theorem Tal.congr {r : Nat} {T2 : Nat → Nat → Nat} (h : Tal σ r nk T) (e : ∀ k p, T k p = T2 k p) : Tal σ r nk T2 := fun k hk p hp => by rw [← e]; exact h k hk p hp
theorem Tal.add {r i : Nat} (h : Tal σ r nk (fun k p => T k p + if k < i ∧ pos k = p then 1 else 0)) (hi : i < nk) (hp : pos i < 10) : Tal (ms σ r (10 * i + pos i) (nI (T i (pos i) + 1))) r nk (fun k p => T k p + if k < i + 1 ∧ pos k = p then 1 else 0) := fun k hk p hp2 => by
  rw [ms_same]
  by_cases c : k = i ∧ p = pos i
  · obtain ⟨rfl, rfl⟩ := c
    rw [upd_s]
    dsimp only
    rw [if_pos (show k < k + 1 ∧ pos k = pos k from ⟨by omega, rfl⟩)]
  · rw [upd_n (by omega), h k hk p hp2]
    dsimp only
    by_cases c2 : k < i ∧ pos k = p
    · rw [if_pos c2, if_pos (show k < i + 1 ∧ pos k = p from ⟨by omega, c2.2⟩)]
    · rw [if_neg c2, if_neg (fun q => ?_)]
      obtain ⟨q1, q2⟩ := q
      by_cases c3 : k = i
      · subst c3
        exact c ⟨rfl, q2.symm⟩
      · exact c2 ⟨by omega, q2⟩
theorem tallyC_loop (hV : Vok σ 52 lf nk P st) (hs : s < 100) : ∀ (q i : Nat) (τ : Mem), τ.1 10 2 = nI nk → i ≤ nk → nk < i + q → Fr [63] σ τ → Tal τ 63 nk (fun k p => T k p + if k < i ∧ sim lf nk P st (s + 1) k = p then 1 else 0) → wp (f_X9_tallyPlaces_b2 q τ (nI s) (nI i)) (fun υ => Fr [63] σ υ ∧ Tal υ 63 nk (fun k p => T k p + if sim lf nk P st (s + 1) k = p then 1 else 0)) := by
  obtain ⟨p8, k8, -⟩ := hV.1
  intro q
  induction q with
  | zero => intro i τ e h1 h2; omega
  | succ q ih =>
    intro i τ e10 h1 h2 F hT
    rw [f_X9_tallyPlaces_b2, e10]
    refine wp_ite (fun c => ?_) (fun c => ?_)
    · have c' := (nI_leI (by omega) (by omega)).mp c
      have e : i = nk := by omega
      subst e
      refine wp_some.mpr ⟨F, fun k hk p hp => ?_⟩
      rw [hT k hk p hp]
      dsimp only
      by_cases z : sim lf i P st (s + 1) k = p
      · rw [if_pos (show k < i ∧ sim lf i P st (s + 1) k = p from ⟨hk, z⟩), if_pos z]
      · rw [if_neg (show ¬ (k < i ∧ sim lf i P st (s + 1) k = p) from fun q => z q.2), if_neg z]
    · have hi := nI_not_le c (by omega) (by omega)
      have V2 := hV.fr F (by decide) (by decide) (by decide) (by decide) (by decide)
      have h9 := sim_le9 (lf := lf) (nk := nk) (st := st) (t := s + 1) (k := i) p8
      refine wp_bpE (placeOf_eq V2 hs hi) ?_
      have ex : nI i * (10 : Int32) + (nI (sim lf nk P st (s + 1) i) - 1) + 1 = nI (10 * i + sim lf nk P st (s + 1) i) := by
        rw [Int32.add_assoc, Int32.sub_add_cancel, nI_lit 10, pk_mul, nI_add, Nat.mul_comm]
      have eT : τ.1 63 (10 * i + sim lf nk P st (s + 1) i) = nI (T i (sim lf nk P st (s + 1) i)) := by
        rw [hT i hi _ (by omega)]
        dsimp only
        rw [if_neg (show ¬ (i < i ∧ sim lf nk P st (s + 1) i = sim lf nk P st (s + 1) i) from fun q => Nat.lt_irrefl _ q.1)]
        rfl
      rw [ex, nI_clamp (by omega), eT, nI_1]
      refine wp_ckN (by omega) (by decide) (wp_ckN (by omega) (by decide) (wp_lt ?_))
      rw [nI_1]
      exact ih (i + 1) _ (by rw [ms_ne (by decide)]; exact e10) (by omega) (by omega) (F.ms (by simp)) (hT.add (pos := sim lf nk P st (s + 1)) hi (by omega))
theorem greatC_loop {k : Nat} (hT : Tal σ 63 nk T) (hk : k < nk) (k8 : nk ≤ 8) (hle : ∀ p, T k p ≤ 1000) : ∀ (q p : Nat), p ≤ 10 → 10 < p + q → f_X9_greatestTally_b4 σ q (nI k) (nI (mxn (T k) p)) (nI p) = some (nI (mxn (T k) 10)) := by
  intro q
  induction q with
  | zero => intro p h1 h2; omega
  | succ q ih =>
    intro p h1 h2
    rw [f_X9_greatestTally_b4, show (10 : Int32) = nI 10 from rfl]
    by_cases c : 10 ≤ p
    · have e : p = 10 := by omega
      subst e
      rw [if_pos ((nI_leI (by omega) (by omega)).mpr (Nat.le_refl _))]
    · have ex : nI k * nI 10 + nI p = nI (10 * k + p) := by rw [pk_mul, nI_add, Nat.mul_comm]
      have hm := mxn_le hle p
      have hl := hle p
      rw [if_neg (fun z => c ((nI_leI (by omega) (by omega)).mp z)), ex, ck_N (by omega) (by decide), nI_clamp (by omega), hT k hk p (by omega), nI_1]
      have I := ih (p + 1) (by omega) (by omega)
      rw [mxn] at I
      by_cases c2 : mxn (T k) p < T k p
      · rw [if_pos c2] at I
        rw [if_pos ((nI_ltI (by omega) (by omega)).mpr c2)]
        exact I
      · rw [if_neg c2] at I
        rw [if_neg (fun z => c2 ((nI_ltI (by omega) (by omega)).mp z))]
        exact I
theorem greatC_eq {k : Nat} (hT : Tal σ 63 nk T) (hk : k < nk) (k8 : nk ≤ 8) (hle : ∀ p, T k p ≤ 1000) : f_X9_greatestTally σ (nI k) = some (nI (mxn (T k) 10)) := greatC_loop hT hk k8 hle 300 0 (by omega) (by omega)
theorem bestC_loop (k8 : nk ≤ 8) (e10 : σ.1 10 2 = nI nk) (hT : Tal σ 63 nk T) (hle : ∀ k p, T k p ≤ 6) : ∀ (q j : Nat), j ≤ nk → nk < j + q → f_X9_ask_b74 q σ (amW (fun k => mxn (T k) 10) j) (if j = 0 then nI 7 else nI (mxn (T (am (fun k => mxn (T k) 10) j)) 10)) (nI j) = some (amW (fun k => mxn (T k) 10) nk, σ) := by
  intro q
  induction q with
  | zero => intro j h1 h2; omega
  | succ q ih =>
    intro j h1 h2
    rw [f_X9_ask_b74, e10]
    by_cases c : nk ≤ j
    · have e : j = nk := by omega
      subst e
      rw [if_pos ((nI_leI (by omega) (by omega)).mpr (Nat.le_refl _))]
    · have hj : j < nk := by omega
      rw [if_neg (fun z => c ((nI_leI (by omega) (by omega)).mp z)), greatC_eq hT hj k8 (fun p => by have := hle j p; omega), bp_some]
      have hm := mxn_le (hle j) 10
      have I := ih (j + 1) (by omega) (by omega)
      rw [amW, if_neg (show ¬ j + 1 = 0 by omega), if_neg (show ¬ j + 1 = 0 by omega), am] at I
      unfold f_X9_ask_b108
      rw [nI_1]
      by_cases c0 : j = 0
      · subst c0
        rw [if_pos (Or.inl rfl)] at I
        rw [if_pos rfl, if_neg (fun z => by have := (nI_leI (by omega) (by omega)).mp z; omega)]
        exact I
      · rw [if_neg c0, amW, if_neg c0]
        have hm2 := mxn_le (hle (am (fun k => mxn (T k) 10) j)) 10
        by_cases c2 : mxn (T j) 10 < mxn (T (am (fun k => mxn (T k) 10) j)) 10
        · rw [if_pos (Or.inr c2)] at I
          rw [if_neg (fun z => by have := (nI_leI (by omega) (by omega)).mp z; omega)]
          exact I
        · rw [if_neg (fun z => by rcases z with z | z; exact c0 z; exact c2 z)] at I
          rw [if_pos ((nI_leI (by omega) (by omega)).mpr (by omega))]
          exact I
theorem askC_loop (hb : b < nb) (hs : s < 100) : ∀ (q j : Nat) (σ : Mem), CW σ nb kd mk mn nk ma bs ns sb sm ng gt gk gb → j ≤ 6 → 6 < j + q → Tal σ 63 nk (tly kd mk mn nk ma bs nb ns sb sm ng gt gk gb b s j) → wp (f_X9_ask_b30 q σ (nI b) (nI s) (nI j)) (fun o => o.1 = amW (grt kd mk mn nk ma bs nb ns sb sm ng gt gk gb b s) nk ∧ Fr [52, 53, 54, 55, 56, 57, 63] σ o.2) := by
  intro q
  induction q with
  | zero => intro j σ C h1 h2; omega
  | succ q ih =>
    intro j σ C h1 h2 hT
    have b8 := C.1.1
    have k8 := C.2.1.1
    rw [f_X9_ask_b30, show (6 : Int32) = nI 6 from rfl]
    refine wp_ite (fun c => ?_) (fun c => ?_)
    · have c' := (nI_leI (by omega) (by omega)).mp c
      have e : j = 6 := by omega
      subst e
      have := bestC_loop k8 C.2.1.2.1 hT (fun k p => tly_le) 300 0 (by omega) (by omega)
      exact ⟨_, this, rfl, Fr.rf⟩
    · have hj := nI_not_le c (by omega) (by omega)
      obtain ⟨-, -, e9, -, -, l9⟩ := C.1.2.2 b hb
      rw [nI_clamp (by omega), e9]
      refine wp_ckN (by omega) (by decide) (wp_bi (wp_mono (could_wp C hb hj l9) (fun o h => ?_)))
      obtain ⟨h3, h4, h5⟩ := h
      rw [un_self] at h3 h5
      unfold f_X9_ask_b59
      rw [h3, nI_1]
      have C2 := C.fr h4 (by decide)
      have T2 : Tal o.2 63 nk (tly kd mk mn nk ma bs nb ns sb sm ng gt gk gb b s j) := fun k hk p hp => by rw [h4.1 63 (by decide)]; exact hT k hk p hp
      have eK : lkM kd mk mn nk ma bs nb ns sb sm ng gt gk gb b j = seesB (lfc kd (un mk b j) mn ma (shc sb sm 255 ns)) nk nb bs ng gt gk gb := rfl
      cases hv : seesB (lfc kd (un mk b j) mn ma (shc sb sm 255 ns)) nk nb bs ng gt gk gb with
      | true =>
        rw [hv] at eK
        refine wp_ie (by decide) (wp_bv ?_)
        unfold f_X9_tallyPlaces
        refine wp_mono (tallyC_loop (T := tly kd mk mn nk ma bs nb ns sb sm ng gt gk gb b s j) h5 hs 300 0 o.2 C2.2.1.2.1 (by omega) (by omega) Fr.rf (T2.congr (fun k p => by rw [if_neg (fun q => by omega)]; rfl))) (fun υ g => ?_)
        exact wp_mono (ih (j + 1) υ (C2.fr g.1 (by decide)) (by omega) (by omega) (g.2.congr (fun k p => (tly_yes eK).symm))) (fun o2 q => ⟨q.1, ((h4.wide (by decide)).tr (g.1.wide (by decide))).tr q.2⟩)
      | false =>
        rw [hv] at eK
        exact wp_it (by decide) (wp_mono (ih (j + 1) o.2 C2 (by omega) (by omega) (T2.congr (fun k p => (tly_no eK).symm))) (fun o2 q => ⟨q.1, (h4.wide (by decide)).tr q.2⟩))
def akv (kd mk mn : Nat → Nat) (nk : Nat) (ma : Nat → Nat → Nat) (bs : Nat → Nat) (nb ns : Nat) (sb sm : Nat → Nat) (ng : Nat) (gt gk gb : Nat → Nat) (b s : Nat) : Int32 := amW (grt kd mk mn nk ma bs nb ns sb sm ng gt gk gb b s) nk
theorem askC_wp (C : CW σ nb kd mk mn nk ma bs ns sb sm ng gt gk gb) (hb : b < nb) (hs : s < 100) : wp (f_X9_ask σ (nI b) (nI s)) (fun o => o.1 = akv kd mk mn nk ma bs nb ns sb sm ng gt gk gb b s ∧ Fr [52, 53, 54, 55, 56, 57, 63] σ o.2) := by
  have b8 := C.1.1
  have k8 := C.2.1.1
  unfold f_X9_ask
  rw [show (100 : Int32) = nI 100 from rfl]
  refine wp_bpE (isBridgeC_eq C.1.2.1 (by omega)) ?_
  rw [if_pos (nI_rng hb (by omega))]
  refine wp_ie (by decide) (wp_bpE (within_eq (by decide)) ?_)
  rw [if_pos (nI_rng hs (by decide))]
  refine wp_ie (by decide) (wp_bv (wp_mono (fill_wp (by decide)) (fun τ h => ?_)))
  exact wp_mono (askC_loop hb hs 300 0 τ (C.fr h.1 (by decide)) (by omega) (by omega) (fun k hk p hp => by rw [h.2 _ (by omega)]; rfl)) (fun o q => ⟨q.1, (h.1.wide (by decide)).tr q.2⟩)
-- the reference
theorem orb_bt {f : Nat → Bool} : ∀ n, n ≤ 8 → bt (orb 0 f n) (fun k => decide (k < n) && f k) := by
  intro n
  induction n with
  | zero => intro _; exact bt_congr bt_0 (fun k _ => by rw [decide_eq_false (by omega)]; rfl)
  | succ n ih =>
    intro hn
    have I := ih (by omega)
    rw [orb]
    cases hf : f n with
    | true =>
      rw [if_pos rfl]
      refine bt_congr (bt_set I (by omega)) (fun k _ => ?_)
      by_cases c : k = n
      · rw [c, decide_eq_false (show ¬ n < n by omega), decide_eq_true (show n = n from rfl), decide_eq_true (show n < n + 1 by omega), hf]
        rfl
      · rw [decide_eq_false c, Bool.or_false]
        by_cases c2 : k < n
        · rw [decide_eq_true c2, decide_eq_true (show k < n + 1 by omega)]
        · rw [decide_eq_false c2, decide_eq_false (show ¬ k < n + 1 by omega)]
    | false =>
      rw [if_neg (by decide)]
      refine bt_congr I (fun k _ => ?_)
      by_cases c : k = n
      · rw [c, hf, Bool.and_false, Bool.and_false]
      · by_cases c2 : k < n
        · rw [decide_eq_true c2, decide_eq_true (show k < n + 1 by omega)]
        · rw [decide_eq_false c2, decide_eq_false (show ¬ k < n + 1 by omega)]
/-- scratch with the row of alikes -/
abbrev MA (σ τ : Mem) : Prop := MX [71, 74, 75, 76, 77, 79] [19, 20, 21] σ τ
theorem MW.markA {v : Nat} (M : MW σ nb kd mk mn nk ma bs ns sb sm ng gt gk gb) (R : MA σ τ) (ho : ∀ i, (i < 3 * b + 1 ∨ 3 * b + 2 ≤ i) → τ.1 71 i = σ.1 71 i) (hv : v < 6) (ev : τ.1 71 (3 * b + 1) = nI v) : MS τ (lfc kd (un mk b v) mn ma (shc sb sm 255 ns)) nk nb bs := MS_no (Mb_mk M.1 (R.2.1 7 (by decide)) hv ev ho) (M.2.1.fx R (by decide) (by decide)) (M.2.2.1.fx R (by decide) (by decide)) (M.2.2.2.1.fx R (by decide) (by decide))
theorem alikeM_loop {x3 x4 x5 : Int32} {K : Mem → Int32 → Int32 → Int32 → Int32 → Int32 → Option (Int32 × Mem)} (p8 : P ≤ 8) (k8 : nk ≤ 8) (hpl : Mpl σ nk (sim lf nk P st (s + 1))) (e9 : σ.1 64 9 = nI nk) {Q : Int32 × Mem → Prop} (hk : ∀ υ, MX [79] [] σ υ → Tal υ 79 nk (fun k p => T k p + if sim lf nk P st (s + 1) k = p then 1 else 0) → wp (f_X10_askOf_b121 K υ (nI b) (nI s) x3 x4 x5) Q) : ∀ (q i : Nat) (τ : Mem), i ≤ nk → nk < i + q → MX [79] [] σ τ → Tal τ 79 nk (fun k p => T k p + if k < i ∧ sim lf nk P st (s + 1) k = p then 1 else 0) → wp (f_X10_askOf_b82 K q τ (nI b) (nI s) x3 x4 x5 (nI i)) Q := by
  intro q
  induction q with
  | zero => intro i τ h1 h2; omega
  | succ q ih =>
    intro i τ h1 h2 F hT
    rw [f_X10_askOf_b82, F.2.1 9 (by decide), e9]
    refine wp_ite (fun c => ?_) (fun c => ?_)
    · have c' := (nI_leI (by omega) (by omega)).mp c
      have e : i = nk := by omega
      subst e
      refine hk τ F (fun k hk p hp => ?_)
      rw [hT k hk p hp]
      dsimp only
      by_cases z : sim lf i P st (s + 1) k = p
      · rw [if_pos (show k < i ∧ sim lf i P st (s + 1) k = p from ⟨hk, z⟩), if_pos z]
      · rw [if_neg (show ¬ (k < i ∧ sim lf i P st (s + 1) k = p) from fun q => z q.2), if_neg z]
    · have hi := nI_not_le c (by omega) (by omega)
      have h9 := sim_le9 (lf := lf) (nk := nk) (st := st) (t := s + 1) (k := i) p8
      have ex : (10 : Int32) * nI i + (nI (sim lf nk P st (s + 1) i) - 1) + 1 = nI (10 * i + sim lf nk P st (s + 1) i) := by
        rw [Int32.add_assoc, Int32.sub_add_cancel, nI_lit 10, pk_mul, nI_add]
      have eT : τ.1 79 (10 * i + sim lf nk P st (s + 1) i) = nI (T i (sim lf nk P st (s + 1) i)) := by
        rw [hT i hi _ (by omega)]
        dsimp only
        rw [if_neg (show ¬ (i < i ∧ sim lf nk P st (s + 1) i = sim lf nk P st (s + 1) i) from fun q => Nat.lt_irrefl _ q.1)]
        rfl
      rw [nI_clamp (show i < 2 ^ 31 by omega), F.1 74 (by decide) (by decide), hpl i hi, ex, nI_clamp (by omega), eT, nI_1]
      refine wp_ckN (by omega) (by decide) (wp_ckN (by omega) (by decide) (wp_ckN (by omega) (by decide) (wp_lt ?_)))
      rw [nI_1]
      exact ih (i + 1) _ (by omega) (by omega) (F.row (by simp) (by decide)) (hT.add (pos := sim lf nk P st (s + 1)) hi (by omega))
theorem bestM_in {k : Nat} {x5 x6 : Int32} {K : Mem → Int32 → Int32 → Int32 → Option (Int32 × Mem)} (hT : Tal σ 79 nk T) (hk : k < nk) (k8 : nk ≤ 8) (hle : ∀ p, T k p ≤ 6) : ∀ (q p : Nat), p ≤ 10 → 10 < p + q → f_X10_askOf_b163 K q σ x5 x6 (nI k) (nI (mxn (T k) p)) (nI p) = (if x5 = (-1 : Int32) ∨ ¬ x6 ≤ nI (mxn (T k) 10) then K σ (nI k) (nI (mxn (T k) 10)) (nI (k + 1)) else K σ x5 x6 (nI (k + 1))) := by
  intro q
  induction q with
  | zero => intro p h1 h2; omega
  | succ q ih =>
    intro p h1 h2
    rw [f_X10_askOf_b163, show (10 : Int32) = nI 10 from rfl]
    by_cases c : 10 ≤ p
    · have e : p = 10 := by omega
      subst e
      unfold f_X10_askOf_b227 f_X10_askOf_b232 f_X10_askOf_b246 f_X10_askOf_b260
      rw [if_pos ((nI_leI (by omega) (by omega)).mpr (Nat.le_refl _)), nI_1]
      by_cases c1 : x5 = (-1 : Int32)
      · simp only [if_pos c1, if_pos (show x5 = (-1 : Int32) ∨ ¬ x6 ≤ nI (mxn (T k) 10) from Or.inl c1)]
        rfl
      · by_cases c2 : x6 ≤ nI (mxn (T k) 10)
        · simp only [if_neg c1, if_pos c2, if_neg (show ¬ (x5 = (-1 : Int32) ∨ ¬ x6 ≤ nI (mxn (T k) 10)) from fun z => by rcases z with z | z; exact c1 z; exact z c2)]
          rfl
        · simp only [if_neg c1, if_neg c2, if_pos (show x5 = (-1 : Int32) ∨ ¬ x6 ≤ nI (mxn (T k) 10) from Or.inr c2)]
          rfl
    · have ex : nI 10 * nI k + nI p = nI (10 * k + p) := by rw [pk_mul, nI_add]
      have hm := mxn_le hle p
      have hl := hle p
      rw [if_neg (fun z => c ((nI_leI (by omega) (by omega)).mp z)), ex, ck_N (by omega) (by decide), nI_clamp (by omega), hT k hk p (by omega), ck_N (by omega) (by decide)]
      unfold f_X10_askOf_b206
      rw [nI_1]
      have I := ih (p + 1) (by omega) (by omega)
      rw [mxn] at I
      by_cases c2 : mxn (T k) p < T k p
      · rw [if_pos c2] at I
        rw [if_neg (fun z => by have := (nI_leI (by omega) (by omega)).mp z; omega)]
        exact I
      · rw [if_neg c2] at I
        rw [if_pos ((nI_leI (by omega) (by omega)).mpr (by omega))]
        exact I
theorem bestM_loop (k8 : nk ≤ 8) (e9 : σ.1 64 9 = nI nk) (hT : Tal σ 79 nk T) (hle : ∀ k p, T k p ≤ 6) : ∀ (q j : Nat), j ≤ nk → nk < j + q → f_X10_askOf_b148 q σ (amW (fun k => mxn (T k) 10) j) (if j = 0 then nI 0 else nI (mxn (T (am (fun k => mxn (T k) 10) j)) 10)) (nI j) = some (amW (fun k => mxn (T k) 10) nk, σ) := by
  intro q
  induction q with
  | zero => intro j h1 h2; omega
  | succ q ih =>
    intro j h1 h2
    rw [f_X10_askOf_b148, e9]
    by_cases c : nk ≤ j
    · have e : j = nk := by omega
      subst e
      rw [if_pos ((nI_leI (by omega) (by omega)).mpr (Nat.le_refl _))]
    · have hj : j < nk := by omega
      have B := fun x5 x6 => bestM_in (x5 := x5) (x6 := x6) (K := f_X10_askOf_b148 q) hT hj k8 (hle j) 300 0 (by omega) (by omega)
      rw [if_neg (fun z => c ((nI_leI (by omega) (by omega)).mp z))]
      refine (B _ _).trans ?_
      have hm := mxn_le (hle j) 10
      have I := ih (j + 1) (by omega) (by omega)
      rw [amW, if_neg (show ¬ j + 1 = 0 by omega), if_neg (show ¬ j + 1 = 0 by omega), am] at I
      by_cases c0 : j = 0
      · subst c0
        rw [if_pos (Or.inl rfl)] at I
        rw [show amW (fun k => mxn (T k) 10) 0 = (-1 : Int32) from rfl, if_pos (Or.inl rfl)]
        exact I
      · rw [if_neg c0, amW, if_neg c0]
        have hm2 := mxn_le (hle (am (fun k => mxn (T k) 10) j)) 10
        have hl := am_lt (f := fun k => mxn (T k) 10) (show 0 < j by omega)
        by_cases c2 : mxn (T j) 10 < mxn (T (am (fun k => mxn (T k) 10) j)) 10
        · rw [if_pos (Or.inr c2)] at I
          rw [if_pos (Or.inr (fun z => by have := (nI_leI (by omega) (by omega)).mp z; omega))]
          exact I
        · rw [if_neg (fun z => by rcases z with z | z; exact c0 z; exact c2 z)] at I
          rw [if_neg (fun z => by rcases z with z | z; exact nI_neg1 (by omega) z; exact z ((nI_leI (by omega) (by omega)).mpr (by omega)))]
          exact I
theorem askM_loop (M : MW σ nb kd mk mn nk ma bs ns sb sm ng gt gk gb) (hb : b < nb) (hs : s < 100) : ∀ (q j : Nat) (τ : Mem), j ≤ 6 → 6 < j + q → MA σ τ → (∀ i, (i < 3 * b + 1 ∨ 3 * b + 2 ≤ i) → τ.1 71 i = σ.1 71 i) → Tal τ 79 nk (tly kd mk mn nk ma bs nb ns sb sm ng gt gk gb b s j) → wp (f_X10_askOf_b46 q τ (nI b) (nI s) (orb 0 (lkM kd mk mn nk ma bs nb ns sb sm ng gt gk gb b) 6) (nI (mk b)) (nI j)) (fun o => o.1 = akv kd mk mn nk ma bs nb ns sb sm ng gt gk gb b s ∧ MX [74, 75, 76, 77, 79] [19, 20, 21] σ o.2) := by
  have b8 := M.1.1
  have k8 := M.2.1.1
  have hbt := orb_bt (f := lkM kd mk mn nk ma bs nb ns sb sm ng gt gk gb b) 6 (by decide)
  intro q
  induction q with
  | zero => intro j τ h1 h2; omega
  | succ q ih =>
    intro j τ h1 h2 X ho hT
    have ex : (3 : Int32) * nI b + 1 = nI (3 * b + 1) := by rw [nI_lit 3, pk_mul, nI_1]
    rw [f_X10_askOf_b46, show (6 : Int32) = nI 6 from rfl, ex, nI_clamp (show 3 * b + 1 < 2 ^ 31 by omega)]
    refine wp_ite (fun c => ?_) (fun c => ?_)
    · have c' := (nI_leI (by omega) (by omega)).mp c
      have e : j = 6 := by omega
      subst e
      refine wp_ckN (by omega) (by decide) (wp_lt ?_)
      have T2 : Tal (ms τ 71 (3 * b + 1) (nI (mk b))) 79 nk (tly kd mk mn nk ma bs nb ns sb sm ng gt gk gb b s 6) := fun k hk p hp => by rw [ms_ne (by decide)]; exact hT k hk p hp
      have := bestM_loop k8 (by rw [ms_ne (by decide), X.2.1 9 (by decide)]; exact M.2.1.2.1) T2 (fun k p => tly_le) 300 0 (by omega) (by omega)
      refine ⟨_, this, rfl, fun r h64 hr => ?_, fun i hi => by rw [ms_ne (by decide)]; exact X.2.1 i hi, X.2.2⟩
      by_cases c : r = 71
      · subst c
        rw [ms_same]
        funext i
        by_cases z : i = 3 * b + 1
        · rw [z, upd_s, (M.1.2.2 b hb).2.1]
        · rw [upd_n z]
          exact ho i (by omega)
      · rw [ms_ne c]
        exact X.1 r h64 (fun z => by rcases List.mem_cons.mp z with z | z; exact c z; exact hr z)
    · have hj := nI_not_le c (by omega) (by omega)
      refine wp_bpE (isIn_eq hbt (show j < 8 by omega)) ?_
      unfold f_X10_askOf_b121
      rw [decide_eq_true hj, Bool.true_and]
      cases hv : lkM kd mk mn nk ma bs nb ns sb sm ng gt gk gb b j with
      | false =>
        refine wp_it (by decide) ?_
        rw [nI_1]
        exact ih (j + 1) τ (by omega) (by omega) X ho (hT.congr (fun k p => (tly_no hv).symm))
      | true =>
        have X2 : MA σ (ms τ 71 (3 * b + 1) (nI j)) := X.row (by simp) (by decide)
        have ho2 : ∀ i, (i < 3 * b + 1 ∨ 3 * b + 2 ≤ i) → (ms τ 71 (3 * b + 1) (nI j)).1 71 i = σ.1 71 i := fun i hi => by rw [ms_same, upd_n (by omega)]; exact ho i hi
        have S := M.markA X2 ho2 hj (by rw [ms_same, upd_s])
        refine wp_ie (by decide) (wp_ckN (by omega) (by decide) (wp_lt (wp_bv (wp_mono (lives_wp hs S) (fun υ g => ?_)))))
        have X3 : MA σ υ := X2.tr (g.1.toX.wide (by simp) (by simp))
        have T3 : Tal υ 79 nk (tly kd mk mn nk ma bs nb ns sb sm ng gt gk gb b s j) := fun k hk p hp => by rw [g.1.1 79 (by decide), ms_ne (by decide)]; exact hT k hk p hp
        refine alikeM_loop (T := tly kd mk mn nk ma bs nb ns sb sm ng gt gk gb b s j) b8 k8 g.2.1 (by rw [X3.2.1 9 (by decide)]; exact M.2.1.2.1) (fun υ2 F2 T4 => ?_) 300 0 υ (by omega) (by omega) MX.rf (T3.congr (fun k p => by rw [if_neg (fun q => by omega)]; rfl))
        unfold f_X10_askOf_b121
        rw [nI_1]
        refine ih (j + 1) υ2 (by omega) (by omega) (X3.tr (F2.wide (by simp) (by simp))) (fun i hi => ?_) (T4.congr (fun k p => (tly_yes hv).symm))
        rw [F2.1 71 (by decide) (by decide), g.1.1 71 (by decide)]
        exact ho2 i hi
theorem askM_fill {x3 x4 : Int32} {Q : Int32 × Mem → Prop} (hk : ∀ υ, MX [79] [] σ υ → (∀ i, i < 80 → υ.1 79 i = 0) → wp (f_X10_askOf_b46 300 υ (nI b) (nI s) x3 x4 (0 : Int32)) Q) : ∀ (q j : Nat) (τ : Mem), j ≤ 80 → 80 < j + q → MX [79] [] σ τ → (∀ i, i < j → τ.1 79 i = 0) → wp (f_X10_askOf_b22 q τ (nI b) (nI s) x3 x4 (nI j)) Q := by
  intro q
  induction q with
  | zero => intro j τ h1 h2; omega
  | succ q ih =>
    intro j τ h1 h2 X hz
    rw [f_X10_askOf_b22, show (80 : Int32) = nI 80 from rfl]
    refine wp_ite (fun c => ?_) (fun c => ?_)
    · have c' := (nI_leI (by omega) (by omega)).mp c
      exact hk τ X (fun i hi => hz i (by omega))
    · have hj := nI_not_le c (by omega) (by omega)
      rw [nI_clamp (by omega), nI_1]
      refine wp_ckN (by omega) (by decide) (wp_lt (ih (j + 1) _ (by omega) (by omega) (X.row (by simp) (by decide)) (fun i hi => ?_)))
      rw [ms_same]
      by_cases c : i = j
      · rw [c, upd_s]
      · rw [upd_n c]
        exact hz i (by omega)
theorem askOf_wp (M : MW σ nb kd mk mn nk ma bs ns sb sm ng gt gk gb) (hg : Gok ng gt gk gb) (hb : b < nb) (hs : s < 100) : wp (f_X10_askOf σ (nI b) (nI s)) (fun o => o.1 = akv kd mk mn nk ma bs nb ns sb sm ng gt gk gb b s ∧ MX [74, 75, 76, 77, 79] [19, 20, 21] σ o.2) := by
  have b8 := M.1.1
  have k8 := M.2.1.1
  unfold f_X10_askOf
  have ex : (3 : Int32) * nI b + 1 = nI (3 * b + 1) := by rw [nI_lit 3, pk_mul, nI_1]
  rw [ex, nI_clamp (show 3 * b + 1 < 2 ^ 31 by omega)]
  refine wp_bi (wp_mono (likedOf_wp (w := 0) M hg hb (by decide)) (fun o h => wp_ckN (by omega) (by decide) ?_))
  have e0 : o.1 = orb 0 (lkM kd mk mn nk ma bs nb ns sb sm ng gt gk gb b) 6 := by
    have := h.1
    unfold lkv at this
    rw [if_pos rfl] at this
    exact this
  have M2 := M.mf h.2
  rw [(M2.1.2.2 b hb).2.1, e0]
  refine askM_fill (σ := o.2) (fun υ X hz => ?_) 300 0 o.2 (by omega) (by omega) MX.rf (fun i hi => by omega)
  have X2 : MX [74, 75, 76, 77, 79] [19, 20, 21] σ υ := (h.2.toX.wide (by simp) (by simp)).tr (X.wide (by simp) (by simp))
  refine wp_mono (askM_loop (M2.fx X (by decide) (by decide)) hb hs 300 0 υ (by omega) (by omega) MX.rf (fun _ _ => rfl) (fun k hk p hp => by rw [hz _ (by omega)]; rfl)) (fun o2 q => ⟨q.1, X2.tr q.2⟩)
theorem op_ask (h : INV σ) (x y : Int32) : wp (f_X9_ask σ x y) (fun o => wp (f_X10_ask o.2 x y) (fun o2 => o2.1 = o.1 ∧ INV o2.2)) := by
  obtain ⟨n0, t0, n1, t1, ns, sb, sm, ng, gt, gk, gb, hI⟩ := h
  have hI : IN σ n0 t0 n1 t1 ns sb sm ng gt gk gb := hI
  have C := hI.cw
  have b8 := C.1.1
  by_cases c1 : 0 ≤ x.toInt ∧ x.toInt < nbB n0 t0
  · by_cases c2 : 0 ≤ y.toInt ∧ y.toInt < (100 : Nat)
    · obtain ⟨b, hb, rfl⟩ := inr c1
      obtain ⟨s, hs, rfl⟩ := inr c2
      refine wp_mono (askC_wp C hb hs) (fun o h => ?_)
      have hI2 := hI.keep (h.2.sc (by decide))
      unfold f_X10_ask
      refine hI2.fnd (fun υ f M => wp_bpE (isBridgeM_eq M.1.2.1 (by omega)) ?_)
      rw [if_pos c1]
      refine wp_ie (by decide) (wp_bpE isStep_eq ?_)
      rw [if_pos c2]
      exact wp_ie (by decide) (wp_bi (wp_mono (askOf_wp M C.2.2.2.2.1.ok hb hs) (fun o2 q => wp_some.mpr ⟨q.1.trans h.1.symm, (hI2.keep ((f.wide (by decide) (by decide)).tr (q.2.wide (by decide) (by decide)))).inv⟩)))
    · unfold f_X9_ask f_X10_ask
      rw [show (100 : Int32) = nI 100 from rfl]
      refine wp_bpE (isBridgeC_eq C.1.2.1 (by omega)) ?_
      rw [if_pos c1]
      refine wp_ie (by decide) (wp_bpE (within_eq (by decide)) ?_)
      rw [if_neg c2]
      refine wp_it rfl (wp_some.mpr (hI.fnd (fun τ f M => wp_bpE (isBridgeM_eq M.1.2.1 (by omega)) ?_)))
      rw [if_pos c1]
      refine wp_ie (by decide) (wp_bpE isStep_eq ?_)
      rw [if_neg c2]
      exact wp_it rfl (wp_some.mpr ⟨rfl, hI.end f⟩)
  · unfold f_X9_ask f_X10_ask
    refine wp_bpE (isBridgeC_eq C.1.2.1 (by omega)) ?_
    rw [if_neg c1]
    refine wp_it rfl (wp_some.mpr (hI.fnd (fun τ f M => wp_bpE (isBridgeM_eq M.1.2.1 (by omega)) ?_)))
    rw [if_neg c1]
    exact wp_it rfl (wp_some.mpr ⟨rfl, hI.end f⟩)
end ASK
