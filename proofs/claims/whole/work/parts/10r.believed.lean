/-! 10r: believed -/
abbrev pc (w : Nat) : Nat := pcb w.testBit
theorem pc_le : ∀ n, n ≤ 8 → ∀ w, w < 2 ^ n → pc w ≤ n ∧ pc w = smn (fun k => if w.testBit k = true then 1 else 0) n := by decide +kernel
def gw (c ns p : Nat) : Nat := c ^ p * (16 - c) ^ (ns - p)
def bz (T : Nat → Bool) (W i : Nat) : Nat := smn (fun w => if T w = true ∧ pc w = i then 1 else 0) W
def abv (T : Nat → Bool) (c ns W : Nat) : Nat := smn (fun w => if T w = true then gw c ns (pc w) else 0) W
theorem smn_add {f g : Nat → Nat} : ∀ n, smn (fun i => f i + g i) n = smn f n + smn g n := by
  intro n
  induction n with
  | zero => rfl
  | succ n ih =>
    show smn (fun i => f i + g i) n + (f n + g n) = smn f n + f n + (smn g n + g n)
    rw [ih]
    omega
theorem smn_delta {g : Nat → Nat} {p : Nat} : ∀ n, smn (fun i => (if p = i then 1 else 0) * g i) n = if p < n then g p else 0 := by
  intro n
  induction n with
  | zero => rfl
  | succ n ih =>
    show smn (fun i => (if p = i then 1 else 0) * g i) n + (if p = n then 1 else 0) * g n = _
    rw [ih]
    by_cases c : p = n
    · subst c
      rw [if_neg (Nat.lt_irrefl _), if_pos rfl, if_pos (by omega)]
      omega
    · rw [if_neg c]
      by_cases c2 : p < n
      · rw [if_pos c2, if_pos (by omega)]
        omega
      · rw [if_neg c2, if_neg (by omega)]
        omega
theorem smn_zero {f : Nat → Nat} : ∀ n, (∀ i, i < n → f i = 0) → smn f n = 0 := by
  intro n
  induction n with
  | zero => intro _; rfl
  | succ n ih =>
    intro h
    show smn f n + f n = 0
    rw [ih (fun i hi => h i (by omega)), h n (by omega)]
theorem regroup {T : Nat → Bool} {c ns : Nat} : ∀ W, (∀ w, w < W → pc w ≤ ns) → smn (fun i => bz T W i * gw c ns i) (ns + 1) = abv T c ns W := by
  intro W
  induction W with
  | zero =>
    intro _
    exact smn_zero _ (fun i _ => by show 0 * _ = 0; rw [Nat.zero_mul])
  | succ W ih =>
    intro h
    have I := ih (fun w hw => h w (by omega))
    show _ = abv T c ns W + (if T W = true then gw c ns (pc W) else 0)
    rw [← I]
    have e : ∀ i, bz T (W + 1) i * gw c ns i = bz T W i * gw c ns i + (if T W = true then (if pc W = i then 1 else 0) * gw c ns i else 0) := fun i => by
      show (bz T W i + (if T W = true ∧ pc W = i then 1 else 0)) * gw c ns i = _
      rw [Nat.add_mul]
      by_cases z : T W = true
      · rw [if_pos z]
        by_cases z2 : pc W = i
        · rw [if_pos ⟨z, z2⟩, if_pos z2]
        · rw [if_neg (fun q => z2 q.2), if_neg z2]
      · rw [if_neg z, if_neg (fun q => z q.1), Nat.zero_mul]
    rw [smn_congr (g := fun i => bz T W i * gw c ns i + (if T W = true then (if pc W = i then 1 else 0) * gw c ns i else 0)) (fun i _ => e i), smn_add]
    congr 1
    by_cases z : T W = true
    · rw [if_pos z]
      simp only [if_pos z]
      rw [smn_delta, if_pos (by have := h W (by omega); omega)]
    · rw [if_neg z]
      simp only [if_neg z]
      exact smn_zero _ (fun _ _ => rfl)
theorem gw_le {c ns p : Nat} (hc : c ≤ 16) (hp : p ≤ ns) : gw c ns p ≤ 16 ^ ns := by
  unfold gw
  calc c ^ p * (16 - c) ^ (ns - p) ≤ 16 ^ p * 16 ^ (ns - p) := Nat.mul_le_mul (Nat.pow_le_pow_left hc p) (Nat.pow_le_pow_left (by omega) _)
    _ = 16 ^ ns := by rw [← Nat.pow_add]; congr 1; omega
theorem abv_lt {T : Nat → Bool} {c ns : Nat} (hc : c ≤ 16) (h8 : ns ≤ 8) : abv T c ns (2 ^ ns) < 2 ^ 62 := by
  have h1 := smn_le (f := fun w => if T w = true then gw c ns (pc w) else 0) (c := 16 ^ ns) (n := 2 ^ ns) (fun w hw => by
    show (if T w = true then gw c ns (pc w) else 0) ≤ 16 ^ ns
    split
    · exact gw_le hc (pc_le ns h8 w hw).1
    · exact Nat.zero_le _)
  have h2 : 2 ^ ns ≤ 2 ^ 8 := Nat.pow_le_pow_right (by decide) h8
  have h3 : 16 ^ ns ≤ 16 ^ 8 := Nat.pow_le_pow_right (by decide) h8
  have h4 : 2 ^ ns * 16 ^ ns ≤ 2 ^ 8 * 16 ^ 8 := Nat.mul_le_mul h2 h3
  have h5 : abv T c ns (2 ^ ns) ≤ 2 ^ ns * 16 ^ ns := h1
  have h6 : 2 ^ 8 * 16 ^ 8 < 2 ^ 62 := by decide
  omega
section BLD
variable {σ τ υ : Mem} {lf : Nat → Nat → Bool} {nb nk ns ng P k s c w n0 n1 : Nat} {st t0 t1 kd mk mn bs sb sm gt gk gb : Nat → Nat} {ma sh : Nat → Nat → Nat} {T : Nat → Bool}
theorem power_loop {b n : Nat} (hb : b < 2 ^ 31) (hn : n ≤ 8) : ∀ (q i : Nat), i ≤ n → n < i + q → f_X0_power_b5 σ q (nI b) (nI n) (lN (b ^ i)) (nI i) = some (lN (b ^ n)) := by
  intro q
  induction q with
  | zero => intro i h1 h2; omega
  | succ q ih =>
    intro i h1 h2
    rw [f_X0_power_b5]
    by_cases c : n ≤ i
    · have e : i = n := by omega
      subst e
      rw [if_pos ((nI_leI (by omega) (by omega)).mpr (Nat.le_refl _))]
    · rw [if_neg (fun z => c ((nI_leI (by omega) (by omega)).mp z)), nI_l hb, lN_mul, nI_1, ← Nat.pow_succ]
      exact ih (i + 1) (by omega) (by omega)
theorem power_eq {b n : Nat} (hb : b < 2 ^ 31) (hn : n ≤ 8) : f_X0_power σ (nI b) (nI n) = some (lN (b ^ n)) := power_loop hb hn 300 0 (by omega) (by omega)
theorem bits_eq {x : Nat} (h : x < 256) : f_J6_bitCount_0f7a4 σ (nI x) = some (nI (pc x)) := bt_bits ⟨x, h, rfl, fun _ _ => rfl⟩
theorem count_loop {v : Nat → Nat} (h8 : ns ≤ 8) (e58 : σ.1 58 2 = nI ns) (hk : k < 8) (hs : s < 100) (hv : ∀ w, w < 2 ^ ns → (σ.2 w >>> ((nI (8 * k)).toInt64 &&& 63)) &&& 255 = lN (v w) ∧ v w ≤ 100) : ∀ (q w : Nat) (τ : Mem), w ≤ 2 ^ ns → 2 ^ ns < w + q → Fr [60] σ τ → (∀ i, i < 9 → τ.1 60 i = nI (bz (fun w => decide (v w ≤ s)) w i)) → wp (f_X0_countBySize_b10 q τ (nI k) (nI s) (nI w)) (fun υ => Fr [60] σ υ ∧ ∀ i, i < 9 → υ.1 60 i = nI (bz (fun w => decide (v w ≤ s)) (2 ^ ns) i)) := by
  have hp : 2 ^ ns ≤ 2 ^ 8 := Nat.pow_le_pow_right (by decide) h8
  intro q
  induction q with
  | zero => intro w τ h1 h2; omega
  | succ q ih =>
    intro w τ h1 h2 F hz
    rw [f_X0_countBySize_b10, F.1 58 (by decide), e58, two_pow32 ns h8]
    refine wp_ite (fun c => ?_) (fun c => ?_)
    · have c' := (nI_leI (by omega) (by omega)).mp c
      have e : w = 2 ^ ns := by omega
      subst e
      exact wp_some.mpr ⟨F, hz⟩
    · have hw := nI_not_le c (by omega) (by omega)
      obtain ⟨e1, l1⟩ := hv w hw
      rw [(sh8 k hk).2] at e1
      rw [nI_clamp (by omega), (sh8 k hk).1, F.2, e1, nI_l (show s < 2 ^ 31 by omega)]
      have hp9 : pc w < 9 := Nat.lt_of_le_of_lt pcb_le (by decide)
      have hc : ((0 : Int32) < lg_cmp (lN (v w)) (lN s)) ↔ ¬ v w ≤ s := by
        rw [lg_cmp_gt, lN_lt (by omega) (by omega)]
        omega
      unfold f_X0_countBySize_b54
      refine wp_ckN (by omega) (by decide) (wp_ite (fun c2 => ?_) (fun c2 => wp_bpE (bits_eq (show w < 256 by omega)) ?_))
      · have c3 := hc.mp c2
        rw [nI_1]
        refine ih (w + 1) τ (by omega) (by omega) F (fun i hi => ?_)
        rw [hz i hi]
        show _ = nI (bz _ w i + (if decide (v w ≤ s) = true ∧ pc w = i then 1 else 0))
        rw [if_neg (fun z => by rw [decide_eq_true_iff] at z; exact c3 z.1)]
        rfl
      · have c3 : v w ≤ s := Decidable.not_not.mp (fun z => c2 (hc.mpr z))
        rw [nI_clamp (show pc w < 2 ^ 31 by omega), hz _ hp9, nI_1, nI_1]
        refine wp_ckN hp9 (by decide) (wp_ckN hp9 (by decide) (wp_lt (ih (w + 1) _ (by omega) (by omega) (F.ms (by simp)) (fun i hi => ?_))))
        rw [ms_same]
        show _ = nI (bz _ w i + (if decide (v w ≤ s) = true ∧ pc w = i then 1 else 0))
        by_cases z : i = pc w
        · rw [z, upd_s, if_pos ⟨decide_eq_true c3, rfl⟩]
        · rw [upd_n z, hz i hi, if_neg (fun q => z q.2.symm)]
          rfl
theorem bz_le {W i : Nat} : bz T W i ≤ W := by
  have := smn_le (f := fun w => if T w = true ∧ pc w = i then 1 else 0) (c := 1) (n := W) (fun w _ => by
    show (if T w = true ∧ pc w = i then 1 else 0) ≤ 1
    split <;> omega)
  unfold bz
  omega
theorem above_loop (h8 : ns ≤ 8) (hc : c ≤ 16) (e58 : σ.1 58 2 = nI ns) (hz : ∀ i, i < 9 → σ.1 60 i = nI (bz T (2 ^ ns) i)) : ∀ (q j : Nat), j ≤ ns + 1 → ns + 1 < j + q → f_X0_above_b12 q σ (nI c) (lN (smn (fun i => bz T (2 ^ ns) i * gw c ns i) j)) (nI j) = some (lN (smn (fun i => bz T (2 ^ ns) i * gw c ns i) (ns + 1)), σ) := by
  have hp : 2 ^ ns ≤ 2 ^ 8 := Nat.pow_le_pow_right (by decide) h8
  intro q
  induction q with
  | zero => intro j h1 h2; omega
  | succ q ih =>
    intro j h1 h2
    rw [f_X0_above_b12, e58]
    by_cases z : ns < j
    · have e : j = ns + 1 := by omega
      subst e
      rw [if_pos ((nI_ltI (by omega) (by omega)).mpr (by omega))]
    · have hb := bz_le (T := T) (W := 2 ^ ns) (i := j)
      rw [if_neg (fun q => z ((nI_ltI (by omega) (by omega)).mp q)), ck_N (by omega) (by decide), power_eq (by omega) (by omega), bp_some, show (16 : Int32) = nI 16 from rfl, pk_sub hc, pk_sub (show j ≤ ns by omega), power_eq (by omega) (by omega), bp_some, nI_clamp (by omega), hz j (by omega), nI_l (by omega), lN_mul, lN_mul, lN_add, nI_1]
      have e : smn (fun i => bz T (2 ^ ns) i * gw c ns i) j + bz T (2 ^ ns) j * c ^ j * (16 - c) ^ (ns - j) = smn (fun i => bz T (2 ^ ns) i * gw c ns i) (j + 1) := by
        show _ = _ + bz T (2 ^ ns) j * gw c ns j
        rw [gw, Nat.mul_assoc]
      rw [e]
      exact ih (j + 1) (by omega) (by omega)
def blT (kd mk mn : Nat → Nat) (nk : Nat) (ma : Nat → Nat → Nat) (bs : Nat → Nat) (nb ns : Nat) (sb sm : Nat → Nat) (k s w : Nat) : Bool := decide (ths (lfc kd mk mn ma (shc sb sm w ns)) nk nb bs k ≤ s)
def blr (A B w : Nat) : Int64 := lN ((if w = 0 then A else B) / Nat.gcd A B)
def blv (kd mk mn : Nat → Nat) (nk : Nat) (ma : Nat → Nat → Nat) (bs : Nat → Nat) (nb ns : Nat) (sb sm : Nat → Nat) (c k s w : Nat) : Int64 := blr (abv (blT kd mk mn nk ma bs nb ns sb sm k s) c ns (2 ^ ns)) (16 ^ ns) w
def BB (σ : Mem) (kd mk mn : Nat → Nat) (nk : Nat) (ma : Nat → Nat → Nat) (bs : Nat → Nat) (nb ns : Nat) (sb sm : Nat → Nat) : Prop := σ.1 58 3 = 0 ∨ (σ.1 58 3 = 1 ∧ σ.1 58 2 = nI ns ∧ Blv σ kd mk mn nk ma bs nb ns sb sm (2 ^ ns))
theorem p16 (n : Nat) : 16 ^ n = 2 ^ (4 * n) := by rw [Nat.pow_mul]
theorem CW.gr (C : CW σ nb kd mk mn nk ma bs ns sb sm ng gt gk gb) (G : Gr FB σ τ) (hc : Cc τ (shc sb sm 255 ns)) : CW τ nb kd mk mn nk ma bs ns sb sm ng gt gk gb := by
  obtain ⟨a1, a2, a3, a4, a5, a6⟩ := C
  exact ⟨a1.fr (τ := (τ.1, σ.2)) G.fr (by decide) (by decide) (by decide) (by decide), a2.fr (τ := (τ.1, σ.2)) G.fr (by decide) (by decide) (fun k hk => by simp only [List.mem_cons, List.not_mem_nil, or_false]; omega), a3.fr (τ := (τ.1, σ.2)) G.fr (by decide) (by decide) (by decide), hc, a5.fr (τ := (τ.1, σ.2)) G.fr (by decide) (by decide) (by decide) (by decide), a6.fr (τ := (τ.1, σ.2)) G.fr (by decide) (by decide) (by decide) (by decide) (by decide)⟩
theorem believedC_wp (C : CW σ nb kd mk mn nk ma bs ns sb sm ng gt gk gb) (hB : BB σ kd mk mn nk ma bs nb ns sb sm) (hc : c ≤ 16) (hk : k < nk) (hs : s < 100) (hw : w < 2) : wp (f_X9_believed σ (nI c) (nI k) (nI s) (nI w)) (fun o => o.1 = blv kd mk mn nk ma bs nb ns sb sm c k s w ∧ Gr FB σ o.2 ∧ CW o.2 nb kd mk mn nk ma bs ns sb sm ng gt gk gb ∧ BB o.2 kd mk mn nk ma bs nb ns sb sm) := by
  have k8 := C.2.1.1
  have s8 := C.2.2.1.1
  have hst : ∀ i, i < nk → bs i < 10 := fun i hi => (C.2.1.2.2 i hi).2.2
  unfold f_X9_believed
  rw [show (17 : Int32) = nI 17 from rfl, show (100 : Int32) = nI 100 from rfl, show (2 : Int32) = nI 2 from rfl]
  refine wp_bpE (within_eq (by decide)) ?_
  rw [if_pos (nI_rng (show c < 17 by omega) (by decide))]
  refine wp_ie (by decide) (wp_bpE (isBoatC_eq C.2.1.2.1 (by omega)) ?_)
  rw [if_pos (nI_rng hk (by omega))]
  refine wp_ie (by decide) (wp_bpE (within_eq (by decide)) ?_)
  rw [if_pos (nI_rng hs (by decide))]
  refine wp_ie (by decide) (wp_bpE (within_eq (by decide)) ?_)
  rw [if_pos (nI_rng hw (by decide))]
  refine wp_ie (by decide) (wp_bv (wp_mono (fill_wp2 C hB) (fun υ h => ?_)))
  obtain ⟨G, hcc, e2, e3, B⟩ := h
  unfold f_X0_above f_X0_countBySize f_X0_below
  refine wp_bi (wp_bv (wp_bv (wp_mono (fill_wp (by decide)) (fun υ1 g1 => ?_))))
  have hp : 2 ^ ns ≤ 2 ^ 8 := Nat.pow_le_pow_right (by decide) s8
  refine wp_mono (count_loop (v := fun w => ths (lfc kd mk mn ma (shc sb sm w ns)) nk nb bs k) s8 (by rw [g1.1.1 58 (by decide)]; exact e2) (show k < 8 by omega) hs (fun u hu => ⟨by rw [g1.1.2]; exact B u hu k hk, ths_le (hst k hk)⟩) 300 0 υ1 (Nat.zero_le _) (by omega) Fr.rf (fun i hi => g1.2 i hi)) (fun υ2 g2 => ?_)
  have F2 : Fr [60] υ υ2 := g1.1.tr g2.1
  have e22 : υ2.1 58 2 = nI ns := by rw [F2.1 58 (by decide)]; exact e2
  have A := above_loop (T := blT kd mk mn nk ma bs nb ns sb sm k s) s8 hc e22 g2.2 300 0 (by omega) (by omega)
  refine ⟨_, A, ?_⟩
  rw [regroup _ (fun u hu => (pc_le ns s8 u hu).1)]
  dsimp only
  rw [show (16 : Int32) = nI 16 from rfl, e22]
  refine wp_bp (wp_bpE (power_eq (by decide) s8) (wp_some.mpr ?_))
  rw [p16, halve_eq hw 300 (4 * ns) _ (by omega) (abv_lt hc s8) (by omega)]
  have G2 : Gr FB σ υ2 := G.tr (F2.g.wide (by decide))
  refine wp_some.mpr ⟨?_, G2, C.gr G2 (hcc.fr F2 (fun k hk => by simp only [List.mem_singleton]; omega)), Or.inr ⟨by rw [F2.1 58 (by decide)]; exact e3, e22, fun u hu j hj => by rw [F2.2]; exact B u hu j hj⟩⟩
  unfold blv blr
  rw [p16]
-- the reference
theorem ths_iff {s : Nat} (hst : st k < 10) (hs : s < 100) : decide (sim lf nk P st (s + 1) k = P + 1) = decide (ths lf nk P st k ≤ s) := by
  have key : sim lf nk P st (s + 1) k = P + 1 ↔ ths lf nk P st k ≤ s := by
    unfold ths
    by_cases c : st k ≤ s
    · have hr := sim_rng (lf := lf) (nk := nk) (P := P) (st := st) (k := k) (t := s + 1) (by omega)
      by_cases z : P = 0
      · rw [if_pos z]
        omega
      · rw [if_neg z, pas_le c (by omega) (by omega)]
        omega
    · have h0 := sim_before (lf := lf) (nk := nk) (P := P) (st := st) (k := k) (t := s + 1) (by omega)
      rw [h0]
      by_cases z : P = 0
      · rw [if_pos z]
        omega
      · rw [if_neg z]
        have hr := pas_rng (lf := lf) (nk := nk) (P := P) (st := st) (k := k) (t := 100) (p := P - 1) (by omega) (by omega)
        have : s < pas lf nk P st 100 (P - 1) k := by
          rcases Nat.lt_or_ge (sim lf nk P st 100 k) (P - 1 + 2) with q | q
          · have := hr.2 (by omega)
            omega
          · have := (hr.1 q).1
            omega
        omega
  exact decide_eq_decide.mpr key
theorem weigh_loop {x5 : Int64} {K : Mem → Int32 → Int32 → Int32 → Int32 → Int64 → Int32 → Option (Int64 × Mem)} {u x2 x3 x4 : Nat} (e11 : σ.1 64 11 = nI ns) (h8 : ns ≤ 8) (hc : c ≤ 16) (hu : u < 256) {Q : Int64 × Mem → Prop} (hk : wp (K σ (nI c) (nI x2) (nI x3) (nI x4) (x5 + lN (gw c ns (smn (fun k => if u.testBit k = true then 1 else 0) ns))) (nI (u + 1))) Q) : ∀ (q i : Nat), i ≤ ns → ns < i + q → wp (f_X10_believedOf_b41 K q σ (nI c) (nI x2) (nI x3) (nI x4) x5 (nI u) (lN (gw c i (smn (fun k => if u.testBit k = true then 1 else 0) i))) (nI i)) Q := by
  intro q
  induction q with
  | zero => intro i h1 h2; omega
  | succ q ih =>
    intro i h1 h2
    rw [f_X10_believedOf_b41, e11]
    refine wp_ite (fun z => ?_) (fun z => ?_)
    · have z' := (nI_leI (by omega) (by omega)).mp z
      have e : i = ns := by omega
      subst e
      unfold f_X10_believedOf_b88
      rw [nI_1]
      exact hk
    · have hi := nI_not_le z (by omega) (by omega)
      refine wp_bpE (isIn_eq (bt_self hu) (show i < 8 by omega)) ?_
      unfold f_X10_believedOf_b72
      have hl : smn (fun k => if u.testBit k = true then 1 else 0) i ≤ i := by
        have := smn_le (f := fun k => if u.testBit k = true then 1 else 0) (c := 1) (n := i) (fun k _ => by
          show (if u.testBit k = true then 1 else 0) ≤ 1
          split <;> omega)
        omega
      have I := ih (i + 1) (by omega) (by omega)
      have es : smn (fun k => if u.testBit k = true then 1 else 0) (i + 1) = smn (fun k => if u.testBit k = true then 1 else 0) i + if u.testBit i = true then 1 else 0 := rfl
      rw [es] at I
      generalize smn (fun k => if u.testBit k = true then 1 else 0) i = p at hl I ⊢
      rw [nI_1, show (16 : Int32) = nI 16 from rfl, pk_sub hc, nI_l (show 16 - c < 2 ^ 31 by omega), nI_l (show c < 2 ^ 31 by omega), lN_mul, lN_mul]
      cases hb : u.testBit i with
      | false =>
        rw [hb, if_neg (by decide)] at I
        refine wp_it (by decide) ?_
        have e : gw c i p * (16 - c) = gw c (i + 1) (p + 0) := by
          unfold gw
          rw [Nat.mul_assoc, ← Nat.pow_succ]
          congr 2
          omega
        rw [e]
        exact I
      | true =>
        rw [hb, if_pos rfl] at I
        refine wp_ie (by decide) ?_
        have e : gw c i p * c = gw c (i + 1) (p + 1) := by
          unfold gw
          rw [Nat.mul_right_comm, ← Nat.pow_succ, show i + 1 - (p + 1) = i - p by omega]
        rw [e]
        exact I
theorem believedM_loop (M : MW σ nb kd mk mn nk ma bs ns sb sm ng gt gk gb) (hc : c ≤ 16) (hk : k < nk) (hs : s < 100) (hw : w < 2) : ∀ (q u : Nat) (τ : Mem), MX [74, 75, 76, 77] [13, 19, 20, 21] σ τ → u ≤ 2 ^ ns → 2 ^ ns < u + q → wp (f_X10_believedOf_b6 q τ (nI c) (nI k) (nI s) (nI w) (lN (abv (blT kd mk mn nk ma bs nb ns sb sm k s) c ns u)) (nI u)) (fun o => o.1 = blv kd mk mn nk ma bs nb ns sb sm c k s w ∧ MF σ o.2) := by
  have k8 := M.2.1.1
  have s8 := M.2.2.1.1
  have hp : 2 ^ ns ≤ 2 ^ 8 := Nat.pow_le_pow_right (by decide) s8
  have hst : bs k < 10 := (M.2.1.2.2 k hk).2.2
  intro q
  induction q with
  | zero => intro u τ X h1 h2; omega
  | succ q ih =>
    intro u τ X h1 h2
    rw [f_X10_believedOf_b6, X.2.1 11 (by decide), M.2.2.1.2.1, two_pow32 ns s8]
    refine wp_ite (fun z => ?_) (fun z => ?_)
    · have z' := (nI_leI (by omega) (by omega)).mp z
      have e : u = 2 ^ ns := by omega
      subst e
      have B : MF σ (ms τ 64 13 (255 : Int32)) := by
        refine ⟨fun r hr => ?_, fun i hi => ?_, X.2.2⟩
        · rw [ms_ne (fun e => hr (by rw [e]; simp))]
          exact X.1 r (fun e => hr (by rw [e]; simp)) (fun z => hr (List.mem_cons_of_mem _ z))
        · rw [ms_same]
          by_cases c : i = 13
          · rw [c, upd_s]
            exact M.2.2.2.1.1.symm
          · rw [upd_n c]
            exact X.2.1 i (fun z => by rcases List.mem_cons.mp z with z | z; exact c z; exact hi z)
      refine wp_lt ?_
      have e11 : (ms τ 64 13 (255 : Int32)).1 64 11 = nI ns := by rw [ms_same, upd_n (by decide), X.2.1 11 (by decide)]; exact M.2.2.1.2.1
      have h16 : 16 ^ ns ≤ 16 ^ 8 := Nat.pow_le_pow_right (by decide) s8
      rw [e11, two_pow64 ns s8, part_eq hw (abv_lt hc s8) (by omega) (Nat.pow_pos (by decide)), bp_some]
      exact wp_some.mpr ⟨rfl, B⟩
    · have hu := nI_not_le z (by omega) (by omega)
      have X2 : MX [74, 75, 76, 77] [13, 19, 20, 21] σ (ms τ 64 13 (nI u)) := X.fld (by simp)
      have O2 : Mo (ms τ 64 13 (nI u)) u nb nb := ⟨by rw [ms_same, upd_s], by omega, by rw [ms_same, upd_n (by decide), X.2.1 14 (by decide)]; exact M.2.2.2.1.2.2⟩
      have S := MS_no (M.1.fx X2 (by decide) (by decide)) (M.2.1.fx X2 (by decide) (by decide)) (M.2.2.1.fx X2 (by decide) (by decide)) O2
      refine wp_lt (wp_bi (wp_mono (throughOfS_wp S hs) (fun o h => wp_bpE (isIn_eq h.1 (show k < 8 by omega)) ?_)))
      have X3 : MX [74, 75, 76, 77] [13, 19, 20, 21] σ o.2 := X2.tr (h.2.toX.wide (by simp) (by simp))
      have I := ih (u + 1) o.2 X3 (by omega) (by omega)
      have eT : decide (sim (lfc kd mk mn ma (shc sb sm u ns)) nk nb bs (s + 1) k = nb + 1) = blT kd mk mn nk ma bs nb ns sb sm k s u := ths_iff hst hs
      have eA : abv (blT kd mk mn nk ma bs nb ns sb sm k s) c ns (u + 1) = abv (blT kd mk mn nk ma bs nb ns sb sm k s) c ns u + if blT kd mk mn nk ma bs nb ns sb sm k s u = true then gw c ns (pc u) else 0 := rfl
      rw [eA] at I
      rw [decide_eq_true hk, Bool.true_and, eT]
      cases hv : blT kd mk mn nk ma bs nb ns sb sm k s u with
      | false =>
        rw [hv, if_neg (by decide)] at I
        refine wp_it (by decide) ?_
        unfold f_X10_believedOf_b88
        rw [nI_1]
        exact I
      | true =>
        rw [hv, if_pos rfl, (pc_le ns s8 u hu).2, ← lN_add] at I
        refine wp_ie (by decide) (weigh_loop (u := u) (by rw [X3.2.1 11 (by decide)]; exact M.2.2.1.2.1) s8 hc (by omega) I 300 0 (by omega) (by omega))
theorem believedOf_wp (M : MW σ nb kd mk mn nk ma bs ns sb sm ng gt gk gb) (hc : c ≤ 16) (hk : k < nk) (hs : s < 100) (hw : w < 2) : wp (f_X10_believedOf σ (nI c) (nI k) (nI s) (nI w)) (fun o => o.1 = blv kd mk mn nk ma bs nb ns sb sm c k s w ∧ MF σ o.2) := by
  have s8 := M.2.2.1.1
  have hp : 2 ^ ns ≤ 2 ^ 8 := Nat.pow_le_pow_right (by decide) s8
  exact believedM_loop M hc hk hs hw 300 0 σ MX.rf (Nat.zero_le _) (by omega)
theorem IN.bb (h : IN σ n0 t0 n1 t1 ns sb sm ng gt gk gb) : BB σ (kdB t0) (mkB t0) (mnB t0) (nkK n1 t1) (maK n1 t1) (bsK n1 t1) (nbB n0 t0) ns sb sm := h.2.2.2.2.2.2
theorem IN.gr (h : IN σ n0 t0 n1 t1 ns sb sm ng gt gk gb) (G : Gr FB σ τ) (C : CW τ (nbB n0 t0) (kdB t0) (mkB t0) (mnB t0) (nkK n1 t1) (maK n1 t1) (bsK n1 t1) ns sb sm ng gt gk gb) (B : BB τ (kdB t0) (mkB t0) (mnB t0) (nkK n1 t1) (maK n1 t1) (bsK n1 t1) (nbB n0 t0) ns sb sm) : IN τ n0 t0 n1 t1 ns sb sm ng gt gk gb := by
  obtain ⟨a1, a2, a3, a4, a5, a6, a7⟩ := h
  have X : MX FB [] σ (τ.1, σ.2) := G.fr.toX (by decide)
  have b2 : PAR (τ.1, σ.2) n0 t0 n1 t1 := a2.fx X (by decide)
  have b3 : Ms (τ.1, σ.2) ns sb sm := a3.2.1.fx X (by decide) (by decide)
  have b4 : SEE (τ.1, σ.2) ng gt gk gb := a4.fx X (by decide) (by decide)
  have b5 : OTH (τ.1, σ.2) := a5.fx X (by decide) (by decide)
  have b1 : TXT (τ.1, σ.2) n0 t0 n1 t1 := a1.fx X (by decide)
  exact ⟨b1, b2, ⟨C.2.2.1, b3, C.2.2.2.1⟩, b4, b5, C.V, B⟩
theorem op_believed (h : INV σ) (x y z u : Int32) : wp (f_X9_believed σ x y z u) (fun o => wp (f_X10_believed o.2 x y z u) (fun o2 => o2.1 = o.1 ∧ INV o2.2)) := by
  obtain ⟨n0, t0, n1, t1, ns, sb, sm, ng, gt, gk, gb, hI⟩ := h
  have hI : IN σ n0 t0 n1 t1 ns sb sm ng gt gk gb := hI
  have C := hI.cw
  have k8 := C.2.1.1
  have no : ∀ υ, INV υ → wp (f_X10_believed_b51 υ) (fun o2 => o2.1 = (-9223372036854775806 : Int64) ∧ INV o2.2) := fun υ hυ => wp_some.mpr ⟨show (-9223372036854775808 : Int64) - (-2 : Int32).toInt64 = (-9223372036854775806 : Int64) by decide, hυ⟩
  by_cases c1 : 0 ≤ x.toInt ∧ x.toInt < (17 : Nat)
  · by_cases c2 : 0 ≤ y.toInt ∧ y.toInt < nkK n1 t1
    · by_cases c3 : 0 ≤ z.toInt ∧ z.toInt < (100 : Nat)
      · by_cases c4 : 0 ≤ u.toInt ∧ u.toInt < (2 : Nat)
        · obtain ⟨c, hc, rfl⟩ := inr c1
          obtain ⟨k, hk, rfl⟩ := inr c2
          obtain ⟨s, hs, rfl⟩ := inr c3
          obtain ⟨w, hw, rfl⟩ := inr c4
          refine wp_mono (believedC_wp C hI.bb (show c ≤ 16 by omega) hk hs hw) (fun o h => ?_)
          have hI2 := hI.gr h.2.1 h.2.2.1 h.2.2.2
          unfold f_X10_believed
          refine hI2.fnd (fun υ f M => wp_bpE (in0_eq (b := 16) (by decide)) ?_)
          rw [if_pos c1]
          refine wp_ie (by decide) (wp_bpE (isBoatM_eq M.2.1.2.1 (by omega)) ?_)
          rw [if_pos c2]
          refine wp_ie (by decide) (wp_bpE isStep_eq ?_)
          rw [if_pos c3]
          refine wp_ie (by decide) (wp_bpE isTwo_eq ?_)
          rw [if_pos c4]
          exact wp_ie (by decide) (wp_bi (wp_mono (believedOf_wp M (by omega) hk hs hw) (fun o2 q => wp_some.mpr ⟨q.1.trans h.1.symm, hI2.end2 f q.2⟩)))
        · unfold f_X9_believed f_X10_believed f_X9_believed_b35
          rw [show (17 : Int32) = nI 17 from rfl, show (100 : Int32) = nI 100 from rfl, show (2 : Int32) = nI 2 from rfl]
          refine wp_bpE (within_eq (by decide)) ?_
          rw [if_pos c1]
          refine wp_ie (by decide) (wp_bpE (isBoatC_eq C.2.1.2.1 (by omega)) ?_)
          rw [if_pos c2]
          refine wp_ie (by decide) (wp_bpE (within_eq (by decide)) ?_)
          rw [if_pos c3]
          refine wp_ie (by decide) (wp_bpE (within_eq (by decide)) ?_)
          rw [if_neg c4]
          refine wp_it rfl (wp_some.mpr (hI.fnd (fun τ f M => wp_bpE (in0_eq (b := 16) (by decide)) ?_)))
          rw [if_pos c1]
          refine wp_ie (by decide) (wp_bpE (isBoatM_eq M.2.1.2.1 (by omega)) ?_)
          rw [if_pos c2]
          refine wp_ie (by decide) (wp_bpE isStep_eq ?_)
          rw [if_pos c3]
          refine wp_ie (by decide) (wp_bpE isTwo_eq ?_)
          rw [if_neg c4]
          exact wp_it rfl (no _ (hI.end f))
      · unfold f_X9_believed f_X10_believed f_X9_believed_b35
        rw [show (17 : Int32) = nI 17 from rfl, show (100 : Int32) = nI 100 from rfl]
        refine wp_bpE (within_eq (by decide)) ?_
        rw [if_pos c1]
        refine wp_ie (by decide) (wp_bpE (isBoatC_eq C.2.1.2.1 (by omega)) ?_)
        rw [if_pos c2]
        refine wp_ie (by decide) (wp_bpE (within_eq (by decide)) ?_)
        rw [if_neg c3]
        refine wp_it rfl (wp_some.mpr (hI.fnd (fun τ f M => wp_bpE (in0_eq (b := 16) (by decide)) ?_)))
        rw [if_pos c1]
        refine wp_ie (by decide) (wp_bpE (isBoatM_eq M.2.1.2.1 (by omega)) ?_)
        rw [if_pos c2]
        refine wp_ie (by decide) (wp_bpE isStep_eq ?_)
        rw [if_neg c3]
        exact wp_it rfl (no _ (hI.end f))
    · unfold f_X9_believed f_X10_believed f_X9_believed_b35
      rw [show (17 : Int32) = nI 17 from rfl]
      refine wp_bpE (within_eq (by decide)) ?_
      rw [if_pos c1]
      refine wp_ie (by decide) (wp_bpE (isBoatC_eq C.2.1.2.1 (by omega)) ?_)
      rw [if_neg c2]
      refine wp_it rfl (wp_some.mpr (hI.fnd (fun τ f M => wp_bpE (in0_eq (b := 16) (by decide)) ?_)))
      rw [if_pos c1]
      refine wp_ie (by decide) (wp_bpE (isBoatM_eq M.2.1.2.1 (by omega)) ?_)
      rw [if_neg c2]
      exact wp_it rfl (no _ (hI.end f))
  · unfold f_X9_believed f_X10_believed f_X9_believed_b35
    rw [show (17 : Int32) = nI 17 from rfl]
    refine wp_bpE (within_eq (by decide)) ?_
    rw [if_neg c1]
    refine wp_it rfl (wp_some.mpr (hI.fnd (fun τ f M => wp_bpE (in0_eq (b := 16) (by decide)) ?_)))
    rw [if_neg c1]
    exact wp_it rfl (no _ (hI.end f))
end BLD
