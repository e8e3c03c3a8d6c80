/-! 10m: cargo -/
def pA (r : Nat) : Nat := ([0, 0, 0, 0, 0, 0, 1, 1, 1, 1, 1, 2, 2, 2, 2, 3, 3, 3, 4, 4, 5] : List Nat).getD (r - 7) 0
def pB (r : Nat) : Nat := ([0, 1, 2, 3, 4, 5, 1, 2, 3, 4, 5, 2, 3, 4, 5, 3, 4, 5, 4, 5, 5] : List Nat).getD (r - 7) 0
/-- the row of two marks -/
def pr (a b : Nat) : Nat := ([7, 12, 16, 19, 21, 22, 22] : List Nat).getD a 0 + b
theorem pr_ab : ∀ a, a < 6 → ∀ b, b < 6 → a ≤ b → pA (pr a b) = a ∧ pB (pr a b) = b ∧ 7 ≤ pr a b ∧ pr a b < 28 := by decide +kernel
theorem pr_on : ∀ a, a < 6 → pr a 6 = pr (a + 1) (a + 1) := by decide +kernel
theorem cgF_eq : ∀ r, r < 28 → cgF r = if r = 0 then (-1 : Int32) else if r < 7 then nI (r - 1) else nI (pA r) := by decide +kernel
theorem cgS_eq : ∀ r, r < 28 → cgS r = if r < 7 then (-1 : Int32) else nI (pB r) := by decide +kernel
theorem pAB_lt : ∀ r, r < 28 → pA r < 6 ∧ pB r < 6 := by decide +kernel
def ldr (f : Nat → Nat) (r : Nat) : Nat → Nat := if r = 0 then f else if r < 7 then more f (r - 1) else more (more f (pA r)) (pB r)
def cmn (r : Nat) : Nat := if r = 0 then 0 else if r < 7 then 1 else 2
section CAR
variable {σ τ υ : Mem} {lf : Nat → Nat → Bool} {nb nk ns ng P bl aw n0 n1 : Nat} {st t0 t1 kd mk mn bs sb sm gt gk gb f : Nat → Nat} {ma sh : Nat → Nat → Nat}
def thr (kd mk mn : Nat → Nat) (nk : Nat) (ma : Nat → Nat → Nat) (bs : Nat → Nat) (nb ns : Nat) (sb sm : Nat → Nat) (k r : Nat) : Bool := decide (sim (lfc kd mk mn (un ma k (ldr (ma k) r)) (shc sb sm 255 ns)) nk nb bs 100 k = nb + 1)
/-- the answer by the first row that comes through -/
def cgv (r : Nat) (i : Int32) : Int32 := if r < 28 then (if i = (-1 : Int32) then nI (cmn r) else if i = 0 then cgF r else cgS r) else (-1 : Int32)
theorem more_le {m b : Nat} (h : ∀ i, f i ≤ b) : ∀ i, more f m i ≤ b + 1 := fun i => by
  by_cases c : i = m
  · rw [c, more, un_s]; have := h m; omega
  · rw [more, un_n c]; have := h i; omega
theorem cargo_tail {k r q : Nat} (C : CW σ nb kd mk mn nk ma bs ns sb sm ng gt gk gb) (hk : k < nk) (hr : r < 28) (hL : rw6 σ 62 (ldr (ma k) r)) {Q : Mem → Prop} (hn : thr kd mk mn nk ma bs nb ns sb sm k r = false → ∀ υ, Fr [52, 53, 54, 55, 56, 57] σ υ → wp (f_X9_planCargo_b12 q υ (nI k) (nI (r + 1))) Q) (hy : thr kd mk mn nk ma bs nb ns sb sm k r = true → ∀ υ, Fr [52, 53, 54, 55, 56, 57, 61] σ υ → υ.1 61 0 = nI (cmn r) → υ.1 61 1 = cgF r → υ.1 61 2 = cgS r → Q υ) : wp (f_X9_planCargo_b77 (f_X9_planCargo_b12 q) σ (nI k) (nI r) (nI (cmn r))) Q := by
  have k8 := C.2.1.1
  unfold f_X9_planCargo_b77 f_X3_setCargo
  rw [show (99 : Int32) = nI 99 from rfl]
  refine wp_bv (wp_mono (try_wp C hk hL) (fun υ h => wp_bpE (isThrough_eq h.2 (by decide) hk) ?_))
  rw [nI_clamp (show r < 2 ^ 31 by omega), nI_1]
  by_cases c : sim (lfc kd mk mn (un ma k (ldr (ma k) r)) (shc sb sm 255 ns)) nk nb bs (99 + 1) k = nb + 1
  · rw [if_pos c]
    refine wp_ie (by decide) (wp_ckN hr (by decide) (wp_ckN hr (by decide) (wp_bv (wp_lt (wp_lt (wp_lt (wp_some.mpr (wp_some.mpr (hy (decide_eq_true c) _ ?_ ?_ ?_ ?_)))))))))
    · exact (((h.1.wide (by decide)).ms (by decide)).ms (by decide)).ms (by decide)
    · rw [ms_same, upd_n (by decide), ms_same, upd_n (by decide), ms_same, upd_s]
    · rw [ms_same, upd_n (by decide), ms_same, upd_s]
    · rw [ms_same, upd_s]
  · rw [if_neg c]
    exact wp_it rfl (hn (decide_eq_false c) υ h.1)
theorem cargoC_loop {k : Nat} (hk : k < nk) (hma : ∀ k m, ma k m ≤ 6) : ∀ (q r : Nat) (σ : Mem), CW σ nb kd mk mn nk ma bs ns sb sm ng gt gk gb → r ≤ 28 → 28 < r + q → (∀ i, i < r → thr kd mk mn nk ma bs nb ns sb sm k i = false) → σ.1 61 0 = (-1 : Int32) → σ.1 61 1 = (-1 : Int32) → σ.1 61 2 = (-1 : Int32) →
    wp (f_X9_planCargo_b12 q σ (nI k) (nI r)) (fun υ => Fr [52, 53, 54, 55, 56, 57, 61, 62] σ υ ∧ ∀ i : Int32, (i = (-1 : Int32) → υ.1 61 0 = cgv (lst (thr kd mk mn nk ma bs nb ns sb sm k) 28) i) ∧ (i = 0 → υ.1 61 1 = cgv (lst (thr kd mk mn nk ma bs nb ns sb sm k) 28) i) ∧ (¬ i = (-1 : Int32) → ¬ i = 0 → υ.1 61 2 = cgv (lst (thr kd mk mn nk ma bs nb ns sb sm k) 28) i)) := by
  intro q
  induction q with
  | zero => intro r σ C h1 h2; omega
  | succ q ih =>
    intro r σ C h1 h2 hno e0 e1 e2
    rw [f_X9_planCargo_b12, show (28 : Int32) = nI 28 from rfl]
    refine wp_ite (fun c => ?_) (fun c => ?_)
    · have c' := (nI_leI (by omega) (by omega)).mp c
      have e : r = 28 := by omega
      subst e
      rw [lst_none hno]
      exact wp_some.mpr ⟨Fr.rf, fun i => ⟨fun _ => e0, fun _ => e1, fun _ _ => e2⟩⟩
    · have hr := nI_not_le c (by omega) (by omega)
      refine wp_bv (wp_mono (loadAs_wp C hk) (fun τ h => ?_))
      rw [nI_clamp (show r < 2 ^ 31 by omega)]
      have hm6 : ∀ i, ma k i ≤ 6 := hma k
      -- how it goes on, once the load lies there
      have go : ∀ τ2, Fr [62] σ τ2 → rw6 τ2 62 (ldr (ma k) r) → wp (f_X9_planCargo_b77 (f_X9_planCargo_b12 q) τ2 (nI k) (nI r) (nI (cmn r))) (fun υ => Fr [52, 53, 54, 55, 56, 57, 61, 62] σ υ ∧ ∀ i : Int32, (i = (-1 : Int32) → υ.1 61 0 = cgv (lst (thr kd mk mn nk ma bs nb ns sb sm k) 28) i) ∧ (i = 0 → υ.1 61 1 = cgv (lst (thr kd mk mn nk ma bs nb ns sb sm k) 28) i) ∧ (¬ i = (-1 : Int32) → ¬ i = 0 → υ.1 61 2 = cgv (lst (thr kd mk mn nk ma bs nb ns sb sm k) 28) i)) := by
        intro τ2 F2 L2
        refine cargo_tail (C.fr F2 (by decide)) hk hr L2 (fun ht υ g => ?_) (fun ht υ g f0 f1 f2 => ?_)
        · have F3 : Fr [52, 53, 54, 55, 56, 57, 61, 62] σ υ := (F2.wide (by decide)).tr (g.wide (by decide))
          have e61 : υ.1 61 = σ.1 61 := by rw [g.1 61 (by decide), F2.1 61 (by decide)]
          exact wp_mono (ih (r + 1) υ (C.fr F3 (by decide)) (by omega) (by omega) (fun i hi => by
            by_cases z : i = r
            · rw [z]; exact ht
            · exact hno i (by omega)) (by rw [e61]; exact e0) (by rw [e61]; exact e1) (by rw [e61]; exact e2)) (fun υ2 p => ⟨F3.tr p.1, p.2⟩)
        · rw [lst_eq hr ht hno]
          refine ⟨(F2.wide (by decide)).tr (g.wide (by decide)), fun i => ⟨fun z => ?_, fun z => ?_, fun z1 z2 => ?_⟩⟩
          · rw [cgv, if_pos hr, if_pos z]; exact f0
          · rw [cgv, if_pos hr, if_neg (by rw [z]; decide), if_pos z]; exact f1
          · rw [cgv, if_pos hr, if_neg z1, if_neg z2]; exact f2
      refine wp_ckN hr (by decide) ?_
      rw [cgF_eq r hr]
      unfold f_X9_planCargo_b51
      rw [nI_clamp (show r < 2 ^ 31 by omega), cgS_eq r hr]
      obtain ⟨lA, lB⟩ := pAB_lt r hr
      rcases (show r = 0 ∨ (0 < r ∧ r < 7) ∨ 7 ≤ r by omega) with z | z | z
      · subst z
        rw [if_pos (show (0 : Nat) = 0 from rfl), if_pos (show (0 : Nat) < 7 by decide)]
        exact wp_it rfl (wp_ckN (by decide) (by decide) (wp_it rfl (go τ h.1 h.2)))
      · rw [if_neg (show ¬ r = 0 by omega), if_pos z.2, if_pos z.2]
        have L1 := h.2.mr (m := r - 1) (fun i => by have := hm6 i; omega)
        rw [nI_clamp (show r - 1 < 2 ^ 31 by omega), (h.2 (r - 1) (by omega)).1, nI_1]
        refine wp_ie (nI_neg1 (by omega)) (wp_ckN hr (by decide) (wp_ckN (by omega) (by decide) (wp_ckN (by omega) (by decide) (wp_lt (wp_ckN hr (by decide) (wp_it rfl ?_))))))
        have G := go _ (h.1.ms (r := 62) (i := r - 1) (x := nI (ma k (r - 1) + 1)) (by simp)) (by rw [ldr, if_neg (show ¬ r = 0 by omega), if_pos z.2]; exact L1)
        rw [show cmn r = 1 by rw [cmn, if_neg (show ¬ r = 0 by omega), if_pos z.2]] at G
        exact G
      · rw [if_neg (show ¬ r = 0 by omega), if_neg (show ¬ r < 7 by omega), if_neg (show ¬ r < 7 by omega)]
        have L1 := h.2.mr (m := pA r) (fun i => by have := hm6 i; omega)
        rw [nI_clamp (show pA r < 2 ^ 31 by omega), (h.2 (pA r) lA).1, nI_1]
        refine wp_ie (nI_neg1 (by omega)) (wp_ckN hr (by decide) (wp_ckN lA (by decide) (wp_ckN lA (by decide) (wp_lt (wp_ckN hr (by decide) (wp_ie (nI_neg1 (by omega)) (wp_ckN hr (by decide) (wp_ckN lB (by decide) (wp_ckN lB (by decide) (wp_lt ?_)))))))))) 
        have L2 := L1.mr (m := pB r) (fun i => by have := more_le (m := pA r) hm6 i; omega)
        rw [nI_clamp (show pB r < 2 ^ 31 by omega), (L1 (pB r) lB).1, nI_1]
        have G := go _ ((h.1.ms (r := 62) (i := pA r) (x := nI (ma k (pA r) + 1)) (by simp)).ms (r := 62) (i := pB r) (x := nI (more (ma k) (pA r) (pB r) + 1)) (by simp)) (by rw [ldr, if_neg (show ¬ r = 0 by omega), if_neg (show ¬ r < 7 by omega)]; exact L2)
        rw [show cmn r = 2 by rw [cmn, if_neg (show ¬ r = 0 by omega), if_neg (show ¬ r < 7 by omega)]] at G
        exact G
theorem cargoAns {i x : Int32} (h : ∀ i : Int32, (i = (-1 : Int32) → υ.1 61 0 = cgv bl i) ∧ (i = 0 → υ.1 61 1 = cgv bl i) ∧ (¬ i = (-1 : Int32) → ¬ i = 0 → υ.1 61 2 = cgv bl i)) : f_X3_cargoAnswer υ i = some (cgv bl i) := by
  unfold f_X3_cargoAnswer
  by_cases c : i = (-1 : Int32)
  · rw [if_pos c, (h i).1 c]
  · rw [if_neg c]
    by_cases c2 : i = 0
    · rw [if_pos c2, (h i).2.1 c2]
    · rw [if_neg c2, (h i).2.2 c c2]
theorem planCargo_wp {k : Nat} (C : CW σ nb kd mk mn nk ma bs ns sb sm ng gt gk gb) (hk : k < nk) (hma : ∀ k m, ma k m ≤ 6) : wp (f_X9_planCargo σ (nI k)) (fun υ => Fr [52, 53, 54, 55, 56, 57, 61, 62] σ υ ∧ ∀ i : Int32, f_X3_cargoAnswer υ i = some (cgv (lst (thr kd mk mn nk ma bs nb ns sb sm k) 28) i)) := by
  unfold f_X9_planCargo f_X3_setCargo
  refine wp_bv (wp_lt (wp_lt (wp_lt (wp_some.mpr ?_))))
  have F : Fr [61] σ (ms (ms (ms σ 61 0 (-1 : Int32)) 61 1 (-1 : Int32)) 61 2 (-1 : Int32)) := ((Fr.rf.ms (by simp)).ms (by simp)).ms (by simp)
  refine wp_mono (cargoC_loop hk hma 300 0 _ (C.fr F (by decide)) (by omega) (by omega) (fun i hi => by omega) ?_ ?_ ?_) (fun υ h => ⟨(F.wide (by decide)).tr h.1, fun i => cargoAns (x := 0) h.2⟩)
  · rw [ms_same, upd_n (by decide), ms_same, upd_n (by decide), ms_same, upd_s]
  · rw [ms_same, upd_n (by decide), ms_same, upd_s]
  · rw [ms_same, upd_s]
-- the reference
theorem isThroughS_wp {k : Nat} (S : MS σ lf nk P st) (hk : k < nk) : wp (f_X10_isThrough σ (nI k)) (fun o => o.1 = (if decide (sim lf nk P st 100 k = P + 1) = true then 1 else 0) ∧ MF σ o.2) := by
  have k8 := S.at.2.1
  unfold f_X10_isThrough
  rw [show (99 : Int32) = nI 99 from rfl]
  refine wp_bi (wp_mono (throughOfS_wp S (by decide)) (fun o h => wp_bpE (isIn_eq h.1 (show k < 8 by omega)) (wp_cb (by split <;> simp) (wp_some.mpr ⟨?_, h.2⟩))))
  rw [decide_eq_true hk, Bool.true_and]
/-- the boat k carries f, and nothing else is changed -/
def Bo (σ τ : Mem) (k s : Nat) (f : Nat → Nat) : Prop := MR 72 (7 * k) (7 * k + 7) σ τ ∧ (∀ m, m < 6 → τ.1 72 (7 * k + m) = nI (f m)) ∧ τ.1 72 (7 * k + 6) = nI s
theorem Bo.inc {k s a : Nat} (h : Bo σ τ k s f) (ha : a < 6) : Bo σ (ms τ 72 (7 * k + a) (nI (f a + 1))) k s (more f a) := by
  refine ⟨h.1.ms (by omega) (by omega) (by decide), fun m hm => ?_, by rw [ms_same, upd_n (by omega)]; exact h.2.2⟩
  rw [ms_same]
  by_cases c : m = a
  · rw [c, upd_s, more, un_s]
  · rw [upd_n (by omega), more, un_n c]
    exact h.2.1 m hm
theorem Bo.put {k s a v : Nat} (h : Bo σ τ k s f) (ha : a < 6) : Bo σ (ms τ 72 (7 * k + a) (nI v)) k s (un f a v) := by
  refine ⟨h.1.ms (by omega) (by omega) (by decide), fun m hm => ?_, by rw [ms_same, upd_n (by omega)]; exact h.2.2⟩
  rw [ms_same]
  by_cases c : m = a
  · rw [c, upd_s, un_s]
  · rw [upd_n (by omega), un_n c]
    exact h.2.1 m hm
theorem Bo.mf {k s : Nat} (h : Bo σ τ k s f) (g : MF τ υ) : Bo σ υ k s f := ⟨h.1.mf g (by decide), fun m hm => by rw [g.1 72 (by decide)]; exact h.2.1 m hm, by rw [g.1 72 (by decide)]; exact h.2.2⟩
theorem Bo.start {k : Nat} (M : Mk σ nk ma bs) (hk : k < nk) (h : MF σ τ) : Bo σ τ k (bs k) (ma k) := ⟨MR.start h (by decide), fun m hm => by rw [h.1 72 (by decide)]; exact ((M.2.2 k hk).1 m hm).1, by rw [h.1 72 (by decide)]; exact (M.2.2 k hk).2.1⟩
theorem Bo.back {k : Nat} (M : Mk σ nk ma bs) (hk : k < nk) (h : Bo σ τ k (bs k) f) (e : ∀ m, m < 6 → f m = ma k m) : MF σ τ := h.1.back (fun i h1 h2 => by
  by_cases c : i = 7 * k + 6
  · rw [c, h.2.2, (M.2.2 k hk).2.1]
  · rw [show i = 7 * k + (i - 7 * k) by omega, h.2.1 _ (by omega), ((M.2.2 k hk).1 _ (by omega)).1, e _ (by omega)])
theorem Bo.ms {k : Nat} (M : MW σ nb kd mk mn nk ma bs ns sb sm ng gt gk gb) (hk : k < nk) (h : Bo σ τ k (bs k) f) (hf : ∀ i, f i < 100) : MS τ (lfc kd mk mn (un ma k f) (shc sb sm 255 ns)) nk nb bs := by
  have := M.boat (f := f) (s := bs k) h.1 (fun m hm => ⟨h.2.1 m hm, hf m⟩) h.2.2 (M.2.1.2.2 k hk).2.2
  rw [un_self] at this
  exact this
theorem cargoM_pair {k r a : Nat} {i : Int32} {K : Mem → Int32 → Int32 → Int32 → Option (Int32 × Mem)} (M : MW σ nb kd mk mn nk ma bs ns sb sm ng gt gk gb) (hk : k < nk) (hma : ∀ k m, ma k m ≤ 6) (ha : a < 6) {Q : Int32 × Mem → Prop} (hy : ∀ b, a ≤ b → b < 6 → (∀ r, r < pr a b → thr kd mk mn nk ma bs nb ns sb sm k r = false) → thr kd mk mn nk ma bs nb ns sb sm k (pr a b) = true → ∀ υ, MF σ υ → Q (cgv (pr a b) i, υ)) (hn : (∀ r, r < pr a 6 → thr kd mk mn nk ma bs nb ns sb sm k r = false) → ∀ υ, MF σ υ → wp (K υ (nI k) i (nI (a + 1))) Q) : ∀ (q b : Nat) (τ : Mem), a ≤ b → b ≤ 6 → 6 < b + q → MF σ τ → (∀ r, r < pr a b → thr kd mk mn nk ma bs nb ns sb sm k r = false) → wp (f_X10_cargoOf_b105 K q τ (nI k) i (nI a) (nI b)) Q := by
  have k8 := M.2.1.1
  have hm6 : ∀ i, ma k i ≤ 6 := hma k
  intro q
  induction q with
  | zero => intro b τ h0 h1 h2; omega
  | succ q ih =>
    intro b τ h0 h1 h2 F hno
    rw [f_X10_cargoOf_b105, show (6 : Int32) = nI 6 from rfl]
    refine wp_ite (fun c => ?_) (fun c => ?_)
    · have c' := (nI_leI (by omega) (by omega)).mp c
      have e : b = 6 := by omega
      subst e
      rw [nI_1]
      exact hn hno τ F
    · have hb := nI_not_le c (by omega) (by omega)
      obtain ⟨eA, eB, l7, l28⟩ := pr_ab a ha b hb h0
      have xa : (7 : Int32) * nI k + nI a = nI (7 * k + a) := by rw [nI_lit 7, pk_mul, nI_add]
      have xb : (7 : Int32) * nI k + nI b = nI (7 * k + b) := by rw [nI_lit 7, pk_mul, nI_add]
      have B0 : Bo σ τ k (bs k) (ma k) := Bo.start M.2.1 hk F
      have B1 := B0.inc ha
      have B2 := B1.inc hb
      rw [xa, xb, nI_clamp (show 7 * k + a < 2 ^ 31 by omega), nI_clamp (show 7 * k + b < 2 ^ 31 by omega), B0.2.1 a ha, nI_1]
      refine wp_ckN (by omega) (by decide) (wp_ckN (by omega) (by decide) (wp_lt ?_))
      rw [B1.2.1 b hb, nI_1]
      have S := Bo.ms M hk B2 (fun i => by
        have := more_le (m := b) (more_le (m := a) hm6) i
        omega)
      refine wp_ckN (by omega) (by decide) (wp_ckN (by omega) (by decide) (wp_lt (wp_bi (wp_mono (isThroughS_wp S hk) (fun o h => ?_)))))
      have B3 := B2.mf h.2
      refine wp_ckN (by omega) (by decide) (wp_ckN (by omega) (by decide) (wp_lt ?_))
      have ga : more (more (ma k) a) b a = (if a = b then ma k a + 1 else ma k a) + 1 := by
        by_cases z : a = b
        · rw [← z, if_pos rfl, more, un_s, more, un_s]
        · rw [if_neg z, more, un_n z, more, un_s]
      rw [B3.2.1 a ha, ga, nI_dec]
      have B4 := B3.put (a := a) (v := if a = b then ma k a + 1 else ma k a) ha
      refine wp_ckN (by omega) (by decide) (wp_ckN (by omega) (by decide) (wp_lt ?_))
      have gb : un (more (more (ma k) a) b) a (if a = b then ma k a + 1 else ma k a) b = ma k b + 1 := by
        by_cases z : a = b
        · rw [← z, un_s, if_pos rfl]
        · rw [un_n (Ne.symm z), more, un_s, more, un_n (Ne.symm z)]
      rw [B4.2.1 b hb, gb, nI_dec]
      have B5 := B4.put (a := b) (v := ma k b) hb
      have F5 := Bo.back M.2.1 hk B5 (fun m hm => by
        by_cases z : m = b
        · rw [z, un_s]
        · rw [un_n z]
          by_cases z2 : m = a
          · rw [z2, un_s, if_neg (fun e => z (z2.trans e))]
          · rw [un_n z2, more, un_n z, more, un_n z2])
      have eT : decide (sim (lfc kd mk mn (un ma k (more (more (ma k) a) b)) (shc sb sm 255 ns)) nk nb bs 100 k = nb + 1) = thr kd mk mn nk ma bs nb ns sb sm k (pr a b) := by
        unfold thr ldr
        rw [if_neg (show ¬ pr a b = 0 by omega), if_neg (show ¬ pr a b < 7 by omega), eA, eB]
      rw [h.1, eT]
      cases hv : thr kd mk mn nk ma bs nb ns sb sm k (pr a b) with
      | false =>
        refine wp_it (by decide) ?_
        rw [nI_1]
        refine ih (b + 1) _ (by omega) (by omega) (by omega) F5 (fun r hr => ?_)
        have : pr a (b + 1) = pr a b + 1 := rfl
        by_cases z : r = pr a b
        · rw [z]; exact hv
        · exact hno r (by omega)
      | true =>
        have H := hy b h0 hb hno hv _ F5
        rw [cgv, if_pos l28, cgF_eq _ l28, cgS_eq _ l28, if_neg (show ¬ pr a b = 0 by omega), if_neg (show ¬ pr a b < 7 by omega), if_neg (show ¬ pr a b < 7 by omega), eA, eB, cmn, if_neg (show ¬ pr a b = 0 by omega), if_neg (show ¬ pr a b < 7 by omega)] at H
        refine wp_ie (by decide) (wp_ite (fun z => ?_) (fun z => wp_ite (fun z2 => ?_) (fun z2 => ?_)))
        · rw [if_pos z] at H
          exact wp_some.mpr H
        · rw [if_neg z, if_pos z2] at H
          exact wp_some.mpr H
        · rw [if_neg z, if_neg z2] at H
          exact wp_some.mpr H
theorem cargoM_pairs {k : Nat} {i : Int32} (M : MW σ nb kd mk mn nk ma bs ns sb sm ng gt gk gb) (hk : k < nk) (hma : ∀ k m, ma k m ≤ 6) : ∀ (q a : Nat) (τ : Mem), a ≤ 6 → 6 < a + q → MF σ τ → (∀ r, r < pr a a → thr kd mk mn nk ma bs nb ns sb sm k r = false) → wp (f_X10_cargoOf_b96 q τ (nI k) i (nI a)) (fun o => o.1 = cgv (lst (thr kd mk mn nk ma bs nb ns sb sm k) 28) i ∧ MF σ o.2) := by
  intro q
  induction q with
  | zero => intro a τ h1 h2; omega
  | succ q ih =>
    intro a τ h1 h2 F hno
    rw [f_X10_cargoOf_b96, show (6 : Int32) = nI 6 from rfl]
    refine wp_ite (fun c => ?_) (fun c => ?_)
    · have c' := (nI_leI (by omega) (by omega)).mp c
      have e : a = 6 := by omega
      subst e
      rw [lst_none (f := thr kd mk mn nk ma bs nb ns sb sm k) (n := 28) hno]
      exact wp_some.mpr ⟨rfl, F⟩
    · have ha := nI_not_le c (by omega) (by omega)
      refine cargoM_pair (r := 0) M hk hma ha (fun b hb0 hb1 hn ht υ g => ⟨by rw [lst_eq (pr_ab a ha b hb1 hb0).2.2.2 ht hn], g⟩) (fun hn υ g => ?_) 300 a τ (by omega) (by omega) (by omega) F hno
      rw [pr_on a ha] at hn
      exact ih (a + 1) υ (by omega) (by omega) g hn
theorem cargoM_ones {k : Nat} {i : Int32} (M : MW σ nb kd mk mn nk ma bs ns sb sm ng gt gk gb) (hk : k < nk) (hma : ∀ k m, ma k m ≤ 6) : ∀ (q a : Nat) (τ : Mem), a ≤ 6 → 6 < a + q → MF σ τ → (∀ r, r < a + 1 → thr kd mk mn nk ma bs nb ns sb sm k r = false) → wp (f_X10_cargoOf_b21 q τ (nI k) i (nI a)) (fun o => o.1 = cgv (lst (thr kd mk mn nk ma bs nb ns sb sm k) 28) i ∧ MF σ o.2) := by
  have k8 := M.2.1.1
  have hm6 : ∀ i, ma k i ≤ 6 := hma k
  intro q
  induction q with
  | zero => intro a τ h1 h2; omega
  | succ q ih =>
    intro a τ h1 h2 F hno
    rw [f_X10_cargoOf_b21, show (6 : Int32) = nI 6 from rfl]
    refine wp_ite (fun c => ?_) (fun c => ?_)
    · have c' := (nI_leI (by omega) (by omega)).mp c
      have e : a = 6 := by omega
      subst e
      exact cargoM_pairs M hk hma 300 0 τ (by omega) (by omega) F hno
    · have ha := nI_not_le c (by omega) (by omega)
      have xa : (7 : Int32) * nI k + nI a = nI (7 * k + a) := by rw [nI_lit 7, pk_mul, nI_add]
      have B0 : Bo σ τ k (bs k) (ma k) := Bo.start M.2.1 hk F
      have B1 := B0.inc ha
      rw [xa, nI_clamp (show 7 * k + a < 2 ^ 31 by omega), B0.2.1 a ha, nI_1]
      have S := Bo.ms M hk B1 (fun i => by
        have := more_le (m := a) hm6 i
        omega)
      refine wp_ckN (by omega) (by decide) (wp_ckN (by omega) (by decide) (wp_lt (wp_bi (wp_mono (isThroughS_wp S hk) (fun o h => ?_)))))
      have B3 := B1.mf h.2
      refine wp_ckN (by omega) (by decide) (wp_ckN (by omega) (by decide) (wp_lt ?_))
      rw [B3.2.1 a ha, more, un_s, nI_dec]
      have B4 := B3.put (a := a) (v := ma k a) ha
      have F5 := Bo.back M.2.1 hk B4 (fun m hm => by
        by_cases z : m = a
        · rw [z, un_s]
        · rw [un_n z, more, un_n z])
      have eT : decide (sim (lfc kd mk mn (un ma k (more (ma k) a)) (shc sb sm 255 ns)) nk nb bs 100 k = nb + 1) = thr kd mk mn nk ma bs nb ns sb sm k (a + 1) := by
        unfold thr ldr
        rw [if_neg (show ¬ a + 1 = 0 by omega), if_pos (show a + 1 < 7 by omega)]
        rfl
      rw [h.1, eT]
      cases hv : thr kd mk mn nk ma bs nb ns sb sm k (a + 1) with
      | false =>
        refine wp_it (by decide) ?_
        rw [nI_1]
        refine ih (a + 1) _ (by omega) (by omega) F5 (fun r hr => ?_)
        by_cases z : r = a + 1
        · rw [z]; exact hv
        · exact hno r (by omega)
      | true =>
        rw [lst_eq (show a + 1 < 28 by omega) hv hno, cgv, if_pos (show a + 1 < 28 by omega), cgF_eq _ (show a + 1 < 28 by omega), cgS_eq _ (show a + 1 < 28 by omega), if_neg (show ¬ a + 1 = 0 by omega), if_pos (show a + 1 < 7 by omega), if_pos (show a + 1 < 7 by omega), cmn, if_neg (show ¬ a + 1 = 0 by omega), if_pos (show a + 1 < 7 by omega)]
        refine wp_ie (by decide) (wp_ite (fun z => ?_) (fun z => wp_ite (fun z2 => ?_) (fun z2 => ?_)))
        · exact wp_some.mpr ⟨by rw [if_pos z]; rfl, F5⟩
        · exact wp_some.mpr ⟨by rw [if_neg z, if_pos z2]; rfl, F5⟩
        · exact wp_some.mpr ⟨by rw [if_neg z, if_neg z2], F5⟩
theorem cargoOf_wp {k : Nat} {i : Int32} (M : MW σ nb kd mk mn nk ma bs ns sb sm ng gt gk gb) (hk : k < nk) (hma : ∀ k m, ma k m ≤ 6) : wp (f_X10_cargoOf σ (nI k) i) (fun o => o.1 = cgv (lst (thr kd mk mn nk ma bs nb ns sb sm k) 28) i ∧ MF σ o.2) := by
  unfold f_X10_cargoOf
  refine wp_bi (wp_mono (isThroughS_wp M.ms hk) (fun o h => ?_))
  have eT : decide (sim (lfc kd mk mn ma (shc sb sm 255 ns)) nk nb bs 100 k = nb + 1) = thr kd mk mn nk ma bs nb ns sb sm k 0 := by
    unfold thr ldr
    rw [if_pos rfl, un_self]
  rw [h.1, eT]
  cases hv : thr kd mk mn nk ma bs nb ns sb sm k 0 with
  | false =>
    refine wp_it (by decide) (cargoM_ones M hk hma 300 0 o.2 (by omega) (by omega) h.2 (fun r hr => ?_))
    have : r = 0 := by omega
    rw [this]
    exact hv
  | true =>
    rw [lst_eq (f := thr kd mk mn nk ma bs nb ns sb sm k) (n := 28) (a := 0) (by decide) hv (fun r hr => by omega), cgv, if_pos (show (0 : Nat) < 28 by decide)]
    refine wp_ie (by decide) (wp_ite (fun z => ?_) (fun z => ?_))
    · exact wp_some.mpr ⟨by rw [if_pos z]; rfl, h.2⟩
    · refine wp_some.mpr ⟨?_, h.2⟩
      rw [if_neg z]
      by_cases z2 : i = 0
      · rw [if_pos z2]; rfl
      · rw [if_neg z2]; rfl
theorem op_cargo (h : INV σ) (x y : Int32) : wp (f_X9_cargo σ x y) (fun o => wp (f_X10_cargo o.2 x y) (fun o2 => o2.1 = o.1 ∧ INV o2.2)) := by
  obtain ⟨n0, t0, n1, t1, ns, sb, sm, ng, gt, gk, gb, hI⟩ := h
  have hI : IN σ n0 t0 n1 t1 ns sb sm ng gt gk gb := hI
  have C := hI.cw
  have k8 := C.2.1.1
  unfold f_X9_cargo
  refine wp_bpE (isBoatC_eq C.2.1.2.1 (by omega)) ?_
  have ein : ∀ τ : Mem, f_X10_in τ y.toInt64 (-1 : Int64) (1 : Int64) = some (if ¬ y < (-1 : Int32) ∧ y ≤ (1 : Int32) then 1 else 0) := by
    intro τ
    unfold f_X10_in
    have h1 : (lg_cmp y.toInt64 (-1 : Int64) < 0) ↔ y < (-1 : Int32) := by
      rw [lg_cmp_lt, Int64.lt_iff_toInt_lt, Int32.toInt_toInt64, Int32.lt_iff_toInt_lt]
      rfl
    have h2 : ((0 : Int32) < lg_cmp y.toInt64 (1 : Int64)) ↔ ¬ y ≤ (1 : Int32) := by
      rw [lg_cmp_gt, Int64.lt_iff_toInt_lt, Int32.toInt_toInt64, Int32.le_iff_toInt_le, Int.not_le]
      rfl
    by_cases c1 : y < (-1 : Int32)
    · rw [if_pos (h1.mpr c1), if_neg (show ¬ (¬ y < (-1 : Int32) ∧ y ≤ (1 : Int32)) from fun q => q.1 c1)]
    · rw [if_neg (fun q => c1 (h1.mp q))]
      by_cases c2 : y ≤ (1 : Int32)
      · rw [if_pos (show ¬ y < (-1 : Int32) ∧ y ≤ (1 : Int32) from ⟨c1, c2⟩), if_neg (show ¬ ((0 : Int32) < lg_cmp y.toInt64 (1 : Int64)) from fun q => h2.mp q c2)]
      · rw [if_neg (show ¬ (¬ y < (-1 : Int32) ∧ y ≤ (1 : Int32)) from fun q => c2 q.2), if_pos (h2.mpr c2)]
  by_cases c1 : 0 ≤ x.toInt ∧ x.toInt < nkK n1 t1
  · rw [if_pos c1]
    have bad : ¬ (¬ y < (-1 : Int32) ∧ y ≤ (1 : Int32)) → wp (f_X10_cargo σ x y) (fun o2 => o2.1 = (-2 : Int32) ∧ INV o2.2) := by
      intro hb
      unfold f_X10_cargo
      refine hI.fnd (fun τ f M => wp_bpE (isBoatM_eq M.2.1.2.1 (by omega)) ?_)
      rw [if_pos c1]
      refine wp_ie (by decide) (wp_bpE (ein τ) ?_)
      rw [if_neg hb]
      exact wp_it rfl (wp_some.mpr ⟨rfl, hI.end f⟩)
    refine wp_ie (by decide) (wp_ite (fun c2 => wp_some.mpr (bad (fun q => q.1 c2))) (fun c2 => wp_ite (fun c3 => ?_) (fun c3 => wp_some.mpr (bad (fun q => c3 q.2)))))
    obtain ⟨k, hk, rfl⟩ := inr c1
    have P := planCargo_wp C hk maK_le
    generalize hv : lst (thr (kdB t0) (mkB t0) (mnB t0) (nkK n1 t1) (maK n1 t1) (bsK n1 t1) (nbB n0 t0) ns sb sm k) 28 = v at P
    refine wp_bv (wp_mono P (fun υ h => wp_bpE (h.2 y) (wp_some.mpr ?_)))
    have hI2 := hI.keep (h.1.sc (by decide))
    unfold f_X10_cargo
    refine hI2.fnd (fun τ f M => wp_bpE (isBoatM_eq M.2.1.2.1 (by omega)) ?_)
    rw [if_pos c1]
    refine wp_ie (by decide) (wp_bpE (ein τ) ?_)
    rw [if_pos (show ¬ y < (-1 : Int32) ∧ y ≤ (1 : Int32) from ⟨c2, c3⟩)]
    have G := cargoOf_wp (i := y) M hk maK_le
    rw [hv] at G
    exact wp_ie (by decide) (wp_bi (wp_mono G (fun o2 q => wp_some.mpr ⟨q.1, hI2.end2 f q.2⟩)))
  · rw [if_neg c1]
    unfold f_X10_cargo
    refine wp_it rfl (wp_some.mpr (hI.fnd (fun τ f M => wp_bpE (isBoatM_eq M.2.1.2.1 (by omega)) ?_)))
    rw [if_neg c1]
    exact wp_it rfl (wp_some.mpr ⟨rfl, hI.end f⟩)
end CAR
