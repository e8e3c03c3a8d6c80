/-! 08a: the class's bridges, boats, shams; for whom bridges lift; the two voyages -/
def Cb (σ : Mem) (nb : Nat) (kd mk mn : Nat → Nat) : Prop := nb ≤ 8 ∧ σ.1 6 3 = nI nb ∧ ∀ b, b < nb → σ.1 7 b = nI (kd b) ∧ σ.1 8 b = nI (mk b) ∧ σ.1 9 b = nI (mn b) ∧ kd b < 3 ∧ mk b < 6 ∧ mn b < 10
def Ck (σ : Mem) (nk : Nat) (ma : Nat → Nat → Nat) (bs : Nat → Nat) : Prop := nk ≤ 8 ∧ σ.1 10 2 = nI nk ∧ ∀ k, k < nk → (∀ m, m < 6 → σ.1 (13 + k) m = nI (ma k m) ∧ ma k m < 100) ∧ σ.1 12 k = nI (bs k) ∧ bs k < 10
def Cs (σ : Mem) (ns : Nat) (sb sm : Nat → Nat) : Prop := ns ≤ 8 ∧ σ.1 21 3 = nI ns ∧ ∀ i, i < ns → σ.1 22 i = nI (sb i) ∧ σ.1 23 i = nI (sm i) ∧ sb i < 8 ∧ sm i < 6
def Cc (σ : Mem) (sh : Nat → Nat → Nat) : Prop := ∀ k, k < 8 → ∀ m, m < 6 → σ.1 (25 + k) m = nI (sh k m) ∧ sh k m ≤ 8
def Cg (σ : Mem) (ng : Nat) (gt gk gb : Nat → Nat) : Prop := ng ≤ 8 ∧ σ.1 33 3 = nI ng ∧ ∀ i, i < ng → σ.1 34 i = nI (gt i) ∧ σ.1 35 i = nI (gk i) ∧ σ.1 36 i = nI (gb i) ∧ gt i < 100 ∧ gk i < 8 ∧ gb i < 9
def rw6 (σ : Mem) (r : Nat) (f : Nat → Nat) : Prop := ∀ m, m < 6 → σ.1 r m = nI (f m) ∧ f m < 110
section CL
variable {σ τ : Mem} {nb nk ns ng P r : Nat} {kd mk mn bs sb sm gt gk gb st f g : Nat → Nat} {ma sh : Nat → Nat → Nat} {lf : Nat → Nat → Bool}
theorem Cb.fr {rs : List Nat} (h : Cb σ nb kd mk mn) (hf : Fr rs σ τ) (h0 : 6 ∉ rs) (h1 : 7 ∉ rs) (h2 : 8 ∉ rs) (h3 : 9 ∉ rs) : Cb τ nb kd mk mn := by
  unfold Cb at h ⊢
  rw [hf.1 6 h0, hf.1 7 h1, hf.1 8 h2, hf.1 9 h3]
  exact h
theorem Ck.fr {rs : List Nat} (h : Ck σ nk ma bs) (hf : Fr rs σ τ) (h0 : 10 ∉ rs) (h1 : 12 ∉ rs) (h2 : ∀ k, k < 8 → 13 + k ∉ rs) : Ck τ nk ma bs := by
  refine ⟨h.1, by rw [hf.1 10 h0]; exact h.2.1, fun k hk => ?_⟩
  rw [hf.1 12 h1, hf.1 _ (h2 k (by have := h.1; omega))]
  exact h.2.2 k hk
theorem Cs.fr {rs : List Nat} (h : Cs σ ns sb sm) (hf : Fr rs σ τ) (h0 : 21 ∉ rs) (h1 : 22 ∉ rs) (h2 : 23 ∉ rs) : Cs τ ns sb sm := by
  unfold Cs at h ⊢
  rw [hf.1 21 h0, hf.1 22 h1, hf.1 23 h2]
  exact h
theorem Cc.fr {rs : List Nat} (h : Cc σ sh) (hf : Fr rs σ τ) (h2 : ∀ k, k < 8 → 25 + k ∉ rs) : Cc τ sh := fun k hk m hm => by
  rw [hf.1 _ (h2 k hk)]
  exact h k hk m hm
theorem Cg.fr {rs : List Nat} (h : Cg σ ng gt gk gb) (hf : Fr rs σ τ) (h0 : 33 ∉ rs) (h1 : 34 ∉ rs) (h2 : 35 ∉ rs) (h3 : 36 ∉ rs) : Cg τ ng gt gk gb := by
  unfold Cg at h ⊢
  rw [hf.1 33 h0, hf.1 34 h1, hf.1 35 h2, hf.1 36 h3]
  exact h
theorem rw6.fr {rs : List Nat} (h : rw6 σ r f) (hf : Fr rs σ τ) (h0 : r ∉ rs) : rw6 τ r f := by
  unfold rw6 at h ⊢
  rw [hf.1 r h0]
  exact h
theorem worthOf_loop (h : rw6 σ r f) : ∀ (q i : Nat), i ≤ 6 → 6 < i + q → f_X2_worthOf_b4 σ q r (nI (smn (fun m => f m * (m + 1)) i)) (nI i) = some (nI (wth f)) := by
  intro q
  induction q with
  | zero => intro i h1 h2; omega
  | succ q ih =>
    intro i h1 h2
    rw [f_X2_worthOf_b4, show (6 : Int32) = nI 6 from rfl]
    by_cases c : 6 ≤ i
    · have e : i = 6 := by omega
      subst e
      rw [if_pos ((nI_leI (by omega) (by omega)).mpr (by omega))]
      rfl
    · obtain ⟨e, -⟩ := h i (by omega)
      rw [if_neg (fun z => c ((nI_leI (by omega) (by omega)).mp z)), ck_N (by omega) (by omega), nI_clamp (by omega), e, nI_1, pk_mul, nI_add]
      exact ih (i + 1) (by omega) (by omega)
theorem worthOf_eq (h : rw6 σ r f) : f_X2_worthOf σ r = some (nI (wth f)) := worthOf_loop h 300 0 (by omega) (by omega)
theorem wth_le (h : rw6 σ r f) : wth f ≤ 6 * 700 := smn_le (n := 6) (fun m hm => by
  have := (h m hm).2
  calc f m * (m + 1) ≤ 110 * 6 := Nat.mul_le_mul (by omega) (by omega)
    _ ≤ 700 := by decide)
theorem would_tail {b mk' mn' r4 r5 : Nat} (hb : Cb σ nb kd mk mn) (hb2 : b < nb) (hm : mk' < 6) (hn : mn' < 10) (h4 : rw6 σ r4 f) (h5 : rw6 σ r5 g) (ev : Bool) : f_X2_wouldLift_b11 σ (nI b) (nI mk') (nI mn') r4 r5 (if ev = true then 1 else 0) = some (if lrl (kd b) mk' mn' ev f g = true then 1 else 0) := by
  obtain ⟨h8, -, hx⟩ := hb
  obtain ⟨e7, -, -, l0, -, -⟩ := hx b hb2
  obtain ⟨e4, f4⟩ := h4 mk' hm
  obtain ⟨e5, f5⟩ := h5 mk' hm
  have key : f_X2_wouldLift_b11 σ (nI b) (nI mk') (nI mn') r4 r5 (if ev = true then 1 else 0) = f_X2_wouldLift_b30 σ (nI b) (nI mn') r4 r5 (if ev = true then 1 else 0) (nI (if ev = true then g mk' else 0)) (nI (f mk')) := by
    unfold f_X2_wouldLift_b11
    rw [ck_N (by omega) (by omega), nI_clamp (by omega), e4, e5, ck_N (by omega) (by omega)]
    cases ev with
    | true => rfl
    | false => rfl
  rw [key]
  unfold f_X2_wouldLift_b30
  rw [ck_N (by omega) (by omega), nI_clamp (by omega), e7, nI_add]
  have hC : f mk' + (if ev = true then g mk' else 0) < 1000 := by split <;> omega
  have hw4 := wth_le h4
  have hw5 := wth_le h5
  unfold lrl
  generalize f mk' + (if ev = true then g mk' else 0) = C at hC ⊢
  rcases (show kd b = 0 ∨ kd b = 1 ∨ kd b = 2 by omega) with c | c | c
  · rw [c, if_pos (show nI 0 = (0 : Int32) from rfl), if_pos (show (0 : Nat) = 0 from rfl)]
    by_cases c2 : C < mn'
    · rw [if_pos ((nI_ltI (by omega) (by omega)).mpr c2), decide_eq_false (show ¬ mn' ≤ C by omega)]
      rfl
    · rw [if_neg (fun z => c2 ((nI_ltI (by omega) (by omega)).mp z)), decide_eq_true (show mn' ≤ C by omega)]
      rfl
  · rw [c, if_neg (show ¬ nI 1 = (0 : Int32) by decide), if_neg (show ¬ (1 : Nat) = 0 by decide), if_pos (show (1 : Nat) = 1 from rfl), ck_N (by omega) (by omega), if_pos (show nI 1 = (1 : Int32) from rfl)]
    by_cases c2 : mn' ≤ C
    · rw [if_pos ((nI_leI (by omega) (by omega)).mpr c2), decide_eq_false (show ¬ C < mn' by omega)]
      rfl
    · rw [if_neg (fun z => c2 ((nI_leI (by omega) (by omega)).mp z)), decide_eq_true (show C < mn' by omega)]
      rfl
  · rw [c, if_neg (show ¬ nI 2 = (0 : Int32) by decide), if_neg (show ¬ (2 : Nat) = 0 by decide), if_neg (show ¬ (2 : Nat) = 1 by decide), ck_N (by omega) (by omega), if_neg (show ¬ nI 2 = (1 : Int32) by decide), worthOf_eq h4, bp_some]
    have b95 : ∀ z, z < 100000 → f_X2_wouldLift_b95 σ (nI mn') (nI C) (nI z) (nI (wth f)) = some (if (decide (3 * mn' ≤ wth f + z) && decide (0 < C)) = true then 1 else 0) := by
      intro z hz
      unfold f_X2_wouldLift_b95
      have e3 : (3 : Int32) * nI mn' = nI (3 * mn') := pk_mul 3 mn'
      rw [nI_add, e3]
      by_cases c1 : wth f + z < 3 * mn'
      · rw [if_pos ((nI_ltI (by omega) (by omega)).mpr c1), decide_eq_false (show ¬ 3 * mn' ≤ wth f + z by omega)]
        rfl
      · rw [if_neg (fun w => c1 ((nI_ltI (by omega) (by omega)).mp w)), decide_eq_true (show 3 * mn' ≤ wth f + z by omega)]
        by_cases c2 : C = 0
        · rw [if_pos (by rw [c2]; decide), decide_eq_false (show ¬ 0 < C by omega)]
          rfl
        · rw [if_neg (nI_nle (by omega) (by omega)), decide_eq_true (show 0 < C by omega)]
          rfl
    cases ev with
    | true =>
      rw [if_neg (show ¬ (if true = true then (1 : Int32) else 0) = 0 by decide), worthOf_eq h5, bp_some]
      exact b95 _ (by omega)
    | false =>
      rw [if_pos (show (if false = true then (1 : Int32) else 0) = 0 by decide)]
      exact b95 0 (by omega)
theorem wouldLift_eq {b mk' mn' r4 r5 : Nat} (hb : Cb σ nb kd mk mn) (hb2 : b < nb) (hm : mk' < 6) (hn : mn' < 10) (h4 : rw6 σ r4 f) (h5 : rw6 σ r5 g) : f_X2_wouldLift σ (nI b) (nI mk') (nI mn') r4 r5 = some (if lrl (kd b) mk' mn' (decide (b % 2 = 0)) f g = true then 1 else 0) := by
  unfold f_X2_wouldLift
  have h8 := hb.1
  have e2 : nI b - nI b / (2 : Int32) * (2 : Int32) = nI (b % 2) := pk_rem (d := 2) (by omega) (by omega) (by omega)
  rw [e2, ← would_tail hb hb2 hm hn h4 h5]
  by_cases c : b % 2 = 0
  · rw [c, if_pos (show nI 0 = (0 : Int32) from rfl)]
    rfl
  · rw [if_neg (nI_ne0 (by omega) (by omega)), decide_eq_false c]
    rfl
theorem liftBits_loop {b mk' mn' : Nat} (hb : Cb σ nb kd mk mn) (hk : Ck σ nk ma bs) (hc : Cc σ sh) (hb2 : b < nb) (hm : mk' < 6) (hn : mn' < 10) : ∀ (q j : Nat) (x : Int32), j ≤ nk → nk < j + q → bt x (fun k => decide (k < j) && lrl (kd b) mk' mn' (decide (b % 2 = 0)) (ma k) (sh k)) →
    wp (f_X9_liftBits_b6 σ q (nI b) (nI mk') (nI mn') x (nI j)) (fun v => bt v (fun k => decide (k < nk) && lrl (kd b) mk' mn' (decide (b % 2 = 0)) (ma k) (sh k))) := by
  intro q
  obtain ⟨h8, e10, hx⟩ := id hk
  induction q with
  | zero => intro j x h1 h2; omega
  | succ q ih =>
    intro j x h1 h2 hB
    rw [f_X9_liftBits_b6, e10]
    refine wp_ite (fun c => ?_) (fun c => ?_)
    · rw [nI_leI (by omega) (by omega)] at c
      have e : j = nk := by omega
      subst e
      exact wp_some.mpr hB
    · have hj := nI_not_le c (by omega) (by omega)
      refine wp_ckN (by omega) (by omega) (wp_ckN (by omega) (by omega) ?_)
      rw [nI_clamp (by omega)]
      have r4 : rw6 σ (13 + j) (ma j) := fun m hm => ⟨((hx j hj).1 m hm).1, by have := ((hx j hj).1 m hm).2; omega⟩
      have r5 : rw6 σ (25 + j) (sh j) := fun m hm => ⟨(hc j (by omega) m hm).1, by have := (hc j (by omega) m hm).2; omega⟩
      refine wp_bpE (wouldLift_eq hb hb2 hm hn r4 r5) ?_
      unfold f_X9_liftBits_b60
      rw [nI_1]
      cases hl : lrl (kd b) mk' mn' (decide (b % 2 = 0)) (ma j) (sh j) with
      | true =>
        refine wp_ie (by decide) (ih (j + 1) _ (by omega) (by omega) (bt_congr (bt_set hB (by omega)) (fun k _ => ?_)))
        by_cases e : k = j
        · subst e
          simp [hl]
        · have : k < j + 1 ↔ k < j := by omega
          simp [e, this]
      | false =>
        refine wp_it (by decide) (ih (j + 1) _ (by omega) (by omega) (bt_congr hB (fun k _ => ?_)))
        by_cases e : k = j
        · subst e
          simp [hl]
        · have : k < j + 1 ↔ k < j := by omega
          simp [this]
theorem liftBits_wp {b mk' mn' : Nat} (hb : Cb σ nb kd mk mn) (hk : Ck σ nk ma bs) (hc : Cc σ sh) (hb2 : b < nb) (hm : mk' < 6) (hn : mn' < 10) : wp (f_X9_liftBits σ (nI b) (nI mk') (nI mn')) (fun v => bt v (fun k => decide (k < nk) && lrl (kd b) mk' mn' (decide (b % 2 = 0)) (ma k) (sh k))) :=
  liftBits_loop hb hk hc hb2 hm hn 300 0 0 (Nat.zero_le _) (by have := hk.1; omega) (bt_congr bt_0 (fun k _ => by simp))
/-- for whom the class's bridges lift -/
def lfc (kd mk mn : Nat → Nat) (ma sh : Nat → Nat → Nat) (b k : Nat) : Bool := lrl (kd b) (mk b) (mn b) (decide (b % 2 = 0)) (ma k) (sh k)
theorem Vin_run {Q : Mem → Prop} (hV : Vin σ r lf nk P st) (hk : ∀ τ : Mem, Fr [r + 3, r + 4, r + 5] σ τ → Vok τ r lf nk P st → Q τ) : wp (f_X8_run σ r) Q := by
  refine wp_mono (run_wp hV) (fun τ h => hk τ h.1 ⟨hV.fr h.1 (by simp) (by simp) (by simp), h.2.2.1, h.2.2.2⟩)
theorem resail_loop (hb : Cb σ nb kd mk mn) (hk : Ck σ nk ma bs) (hc : Cc σ sh) : ∀ (q j : Nat) (τ : Mem), j ≤ nb → nb < j + q → Fr [46, 47, 48, 58] σ τ → τ.1 46 5 = nI nb → τ.1 46 6 = nI nk → (∀ k, k < nk → τ.1 48 k = nI (bs k)) → (∀ p, p < j → bt (τ.1 47 p) (fun k => decide (k < nk) && lfc kd mk mn ma sh p k)) →
    wp (f_X9_resail_b59 q τ (nI j)) (fun υ => Fr [46, 47, 48, 49, 50, 51, 58] σ υ ∧ υ.1 58 = τ.1 58 ∧ Vok υ 46 (lfc kd mk mn ma sh) nk nb bs) := by
  intro q
  have h8 := hb.1
  induction q with
  | zero => intro j τ h1 h2; omega
  | succ q ih =>
    intro j τ h1 h2 hF a5 a6 a7 a8
    have hbT : Cb τ nb kd mk mn := hb.fr hF (by decide) (by decide) (by decide) (by decide)
    have hkT : Ck τ nk ma bs := hk.fr hF (by decide) (by decide) (fun k hk => by simp only [List.mem_cons, List.not_mem_nil, or_false]; omega)
    have hcT : Cc τ sh := hc.fr hF (fun k hk => by simp only [List.mem_cons, List.not_mem_nil, or_false]; omega)
    rw [f_X9_resail_b59, hbT.2.1]
    refine wp_ite (fun c => ?_) (fun c => ?_)
    · rw [nI_leI (by omega) (by omega)] at c
      have e : j = nb := by omega
      subst e
      refine wp_bv (Vin_run (lf := lfc kd mk mn ma sh) (nk := nk) (P := j) (st := bs) ⟨h8, hk.1, a5, a6, fun k hk2 => ⟨a7 k hk2, (hk.2.2 k hk2).2.2⟩, a8⟩ (fun υ g1 g2 => wp_some.mpr ⟨(hF.wide (by simp)).tr (g1.wide (by simp)), g1.1 58 (by decide), g2⟩))
    · have hj := nI_not_le c (by omega) (by omega)
      obtain ⟨-, e8, e9, -, l1, l2⟩ := hbT.2.2 j hj
      refine wp_ckN (by omega) (by omega) (wp_ckN (by omega) (by omega) ?_)
      rw [nI_clamp (by omega), e8, e9, nI_1]
      refine wp_bp (wp_mono (liftBits_wp hbT hkT hcT hj l1 l2) (fun v hv => wp_ckN (by omega) (by omega) (wp_lt ?_)))
      have f2 : Fr [46, 47, 48, 58] τ (ms τ 47 j v) := Fr.rf.ms (by simp)
      refine wp_mono (ih (j + 1) (ms τ 47 j v) (by omega) (by omega) (hF.tr f2) (by rw [ms_ne (by decide)]; exact a5) (by rw [ms_ne (by decide)]; exact a6) (fun k hk => by rw [ms_ne (by decide)]; exact a7 k hk) (fun p hp => ?_)) (fun υ h => ⟨h.1, h.2.1.trans (ms_ne (by decide)), h.2.2⟩)
      rw [ms_same]
      by_cases e : p = j
      · subst e
        rw [upd_s]
        exact hv
      · rw [upd_n e]
        exact a8 p (by omega)
theorem cpy8 {a b : Nat → Int32} {n i : Nat} (h : i < n) : va_cpy a b 0 0 n i = a i := by
  unfold va_cpy
  rw [if_pos (by omega)]
  congr 1
  omega
theorem wp_cp0 {α : Type} {n n0 n1 : Nat} {k : Option α} {Q : α → Prop} (h0 : n ≤ n0) (h1 : n ≤ n1) (hn : n < 2 ^ 31) (hk : wp k Q) : wp (cp (0 : Int32) (0 : Int32) (nI n) n0 n1 k) Q := wp_cp (by decide) (by decide) (nI_pos hn) (by rw [nI_clamp hn, c0]; omega) (by rw [nI_clamp hn, c0]; omega) hk
/-- the actual voyage anew -/
theorem resail_wp (hb : Cb σ nb kd mk mn) (hk : Ck σ nk ma bs) (hc : Cc σ sh) : wp (f_X9_resail σ) (fun υ => Fr [46, 47, 48, 49, 50, 51, 58] σ υ ∧ υ.1 58 = upd (σ.1 58) 3 0 ∧ Vok υ 46 (lfc kd mk mn ma sh) nk nb bs) := by
  unfold f_X9_resail
  refine wp_lt (wp_lt (wp_lt (wp_cp0 (n := 8) (by omega) (by omega) (by omega) (wp_lt ?_))))
  have e8 : (8 : Int32).toNatClampNeg = 8 := by decide
  rw [c0, e8]
  have hbs := hk.2.2
  have h8 := hk.1
  refine wp_mono (resail_loop hb hk hc 300 0 _ (Nat.zero_le _) (by have := hb.1; omega) ((((Fr.rf.ms (by simp)).ms (by simp)).ms (by simp)).mw (by simp)) ?_ ?_ (fun k hk2 => ?_) (fun p hp => by omega)) (fun υ h => ⟨h.1, h.2.1.trans ?_, h.2.2⟩)
  · rw [mw_ne (by decide), ms_same, upd_n (by decide), ms_same, upd_s, ms_ne (by decide)]
    exact hb.2.1
  · rw [mw_ne (by decide), ms_same, upd_s, ms_ne (by decide), ms_ne (by decide)]
    exact hk.2.1
  · rw [mw_same, cpy8 (by omega), ms_ne (by decide), ms_ne (by decide), ms_ne (by decide)]
    exact (hbs k hk2).2.1
  · rw [mw_ne (by decide), ms_ne (by decide), ms_ne (by decide), ms_same]
/-- the trial voyage takes over what the actual one goes by -/
theorem takeOver_wp (hV : Vin σ 46 lf nk P st) : wp (f_X8_takeOver σ 52 46) (fun τ => Fr [52, 53, 54] σ τ ∧ Vin τ 52 lf nk P st) := by
  unfold f_X8_takeOver
  have e8 : (8 : Int32).toNatClampNeg = 8 := by decide
  refine wp_lt (wp_lt (wp_cp0 (n := 8) (by omega) (by omega) (by omega) (wp_lt (wp_cp0 (n := 8) (by omega) (by omega) (by omega) (wp_lt (wp_some.mpr ?_))))))
  rw [c0, e8]
  obtain ⟨hP, hn, a5, a6, a7, a8⟩ := hV
  refine ⟨(((Fr.rf.ms (by simp)).ms (by simp)).mw (by simp)).mw (by simp), hP, hn, ?_, ?_, fun k hk => ⟨?_, (a7 k hk).2⟩, fun p hp => ?_⟩
  · rw [mw_ne (by decide), mw_ne (by decide), ms_same, upd_n (by decide), ms_same, upd_s]
    exact a5
  · rw [mw_ne (by decide), mw_ne (by decide), ms_same, upd_s, ms_ne (by decide)]
    exact a6
  · rw [mw_same, cpy8 (by omega), mw_ne (by decide), ms_ne (by decide), ms_ne (by decide)]
    exact (a7 k hk).1
  · rw [mw_ne (by decide), mw_same, cpy8 (by omega), ms_ne (by decide), ms_ne (by decide)]
    exact a8 p hp
theorem setLifted_wp {p k : Nat} {v : Bool} (hV : Vin σ 52 lf nk P st) (hp : p < P) (hk : k < nk) : wp (f_X8_setLifted σ 52 (nI p) (nI k) (if v = true then 1 else 0)) (fun τ => Fr [53] σ τ ∧ Vin τ 52 (fun q j => if q = p ∧ j = k then v else lf q j) nk P st) := by
  obtain ⟨hP, hn, a5, a6, a7, a8⟩ := id hV
  have fin : ∀ x : Int32, bt x (fun j => decide (j < nk) && (if j = k then v else lf p j)) → wp (f_X8_setLifted_b37 σ x (nI p) 53) (fun τ => Fr [53] σ τ ∧ Vin τ 52 (fun q j => if q = p ∧ j = k then v else lf q j) nk P st) := by
    intro x hx
    unfold f_X8_setLifted_b37
    refine wp_ckN (by omega) (by omega) (wp_lt (wp_some.mpr ?_))
    rw [nI_clamp (by omega)]
    have hF : Fr [53] σ (ms σ 53 p x) := Fr.rf.ms (by simp)
    refine ⟨hF, hP, hn, by rw [hF.1 52 (by decide)]; exact a5, by rw [hF.1 52 (by decide)]; exact a6, fun j hj => by rw [hF.1 54 (by decide)]; exact a7 j hj, fun q hq => ?_⟩
    rw [ms_same]
    by_cases e : q = p
    · subst e
      rw [upd_s]
      exact bt_congr hx (fun j _ => by simp)
    · rw [upd_n e]
      exact bt_congr (a8 q hq) (fun j _ => by simp [e])
  unfold f_X8_setLifted
  rw [nI_clamp (by omega)]
  cases v with
  | true =>
    refine wp_ie (by decide) (wp_ckN (by omega) (by omega) (fin _ (bt_congr (bt_set (a8 p hp) (by omega)) (fun j _ => ?_))))
    by_cases e : j = k
    · subst e
      simp [hk]
    · simp [e]
  | false =>
    refine wp_it (by decide) (wp_ckN (by omega) (by omega) (fin _ (bt_congr (bt_clr (a8 p hp) (by omega)) (fun j _ => ?_))))
    by_cases e : j = k
    · subst e
      simp
    · simp [e]
theorem tryLoad_loop {k : Nat} (hb : Cb σ nb kd mk mn) (hk : k < nk) (hn8 : nk ≤ 8) (h4 : rw6 σ 62 f) (h5 : rw6 σ (25 + k) g) : ∀ (q j : Nat) (τ : Mem), j ≤ nb → nb < j + q → Fr [52, 53, 54] σ τ → Vin τ 52 (fun p i => if p < j ∧ i = k then lrl (kd p) (mk p) (mn p) (decide (p % 2 = 0)) f g else lf p i) nk nb st →
    wp (f_X9_tryLoad_b13 q τ (nI k) (nI j)) (fun υ => Fr [52, 53, 54, 55, 56, 57] σ υ ∧ Vok υ 52 (fun p i => if i = k then lrl (kd p) (mk p) (mn p) (decide (p % 2 = 0)) f g else lf p i) nk nb st) := by
  intro q
  have h8 := hb.1
  induction q with
  | zero => intro j τ h1 h2; omega
  | succ q ih =>
    intro j τ h1 h2 hF hV
    have hbT : Cb τ nb kd mk mn := hb.fr hF (by decide) (by decide) (by decide) (by decide)
    have h4T : rw6 τ 62 f := h4.fr hF (by decide)
    have h5T : rw6 τ (25 + k) g := h5.fr hF (by simp only [List.mem_cons, List.not_mem_nil, or_false]; omega)
    rw [f_X9_tryLoad_b13, hbT.2.1]
    refine wp_ite (fun c => ?_) (fun c => ?_)
    · rw [nI_leI (by omega) (by omega)] at c
      have hV2 : Vin τ 52 (fun p i => if i = k then lrl (kd p) (mk p) (mn p) (decide (p % 2 = 0)) f g else lf p i) nk nb st := by
        obtain ⟨b1, b2, b3, b4, b5, b6⟩ := hV
        refine ⟨b1, b2, b3, b4, b5, fun p hp => bt_congr (b6 p hp) (fun i _ => ?_)⟩
        have : p < j := by omega
        simp [this]
      refine wp_bv (Vin_run hV2 (fun υ g1 g2 => wp_some.mpr ⟨(hF.wide (by simp)).tr (g1.wide (by simp)), g2⟩))
    · have hj := nI_not_le c (by omega) (by omega)
      obtain ⟨-, e8, e9, -, l1, l2⟩ := hbT.2.2 j hj
      refine wp_ckN (by omega) (by omega) (wp_ckN (by omega) (by omega) (wp_ckN (by omega) (by omega) ?_))
      rw [nI_clamp (show j < 2 ^ 31 by omega), nI_clamp (show k < 2 ^ 31 by omega), e8, e9, nI_1]
      refine wp_bpE (wouldLift_eq hbT hj l1 l2 h4T h5T) (wp_bv (wp_mono (setLifted_wp hV hj hk) (fun υ h => ?_)))
      refine ih (j + 1) υ (by omega) (by omega) (hF.tr (h.1.wide (by simp))) ?_
      obtain ⟨b1, b2, b3, b4, b5, b6⟩ := h.2
      refine ⟨b1, b2, b3, b4, b5, fun p hp => bt_congr (b6 p hp) (fun i _ => ?_)⟩
      by_cases e1 : p = j
      · subst e1
        by_cases e2 : i = k
        · simp [e2]
        · simp [e2]
      · have : p < j + 1 ↔ p < j := by omega
        simp [e1, this]
/-- the trial voyage with another load of a boat -/
theorem tryLoad_wp {k : Nat} (hb : Cb σ nb kd mk mn) (hV : Vin σ 46 lf nk nb st) (hk : k < nk) (h4 : rw6 σ 62 f) (h5 : rw6 σ (25 + k) g) : wp (f_X9_tryLoad σ (nI k)) (fun υ => Fr [52, 53, 54, 55, 56, 57] σ υ ∧ Vok υ 52 (fun p i => if i = k then lrl (kd p) (mk p) (mn p) (decide (p % 2 = 0)) f g else lf p i) nk nb st) := by
  unfold f_X9_tryLoad
  refine wp_bv (wp_mono (takeOver_wp hV) (fun τ h => ?_))
  refine tryLoad_loop hb hk hV.2.1 h4 h5 300 0 τ (Nat.zero_le _) (by have := hb.1; omega) h.1 ?_
  obtain ⟨b1, b2, b3, b4, b5, b6⟩ := h.2
  exact ⟨b1, b2, b3, b4, b5, fun p hp => bt_congr (b6 p hp) (fun i _ => by simp)⟩
end CL
