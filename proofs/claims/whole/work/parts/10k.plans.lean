/-! 10k: sail, away -/
def am (f : Nat → Nat) : Nat → Nat
  | 0 => 0
  | n + 1 => if n = 0 ∨ f n < f (am f n) then n else am f n
theorem am_lt {f : Nat → Nat} : ∀ {n : Nat}, 0 < n → am f n < n := by
  intro n
  induction n with
  | zero => intro h; omega
  | succ n ih =>
    intro _
    rw [am]
    split
    · omega
    · rename_i c
      have := ih (by omega)
      omega
def amW (f : Nat → Nat) (n : Nat) : Int32 := if n = 0 then (-1 : Int32) else nI (am f n)
section PLA
variable {σ τ υ : Mem} {lf : Nat → Nat → Bool} {nb nk ns ng P bl aw n0 n1 r lo hi : Nat} {st t0 t1 kd mk mn bs sb sm gt gk gb f : Nat → Nat} {ma sh : Nat → Nat → Nat}
def swt (lf : Nat → Nat → Bool) (nk P : Nat) (bs : Nat → Nat) (k v : Nat) : Nat := smn (wts lf nk P (un bs k v) 100) nk
theorem swt_le {k v : Nat} (h8 : nk ≤ 8) (hb : ∀ i, i < nk → bs i < 10) (hv : v < 10) : swt lf nk P bs k v ≤ 800 := by
  have := smn_le (f := wts lf nk P (un bs k v) 100) (c := 100) (n := nk) (fun i hi => wts_100 (by
    by_cases c : i = k
    · rw [c, un_s]; exact hv
    · rw [un_n c]; exact hb i hi))
  unfold swt
  calc _ ≤ nk * 100 := this
    _ ≤ 8 * 100 := Nat.mul_le_mul_right _ h8
    _ ≤ 800 := by decide
theorem Vin_start {k v : Nat} (h : Vin σ 52 lf nk P st) (hs : ∀ i, i < nk → i ≠ k → st i = bs i) (hk : k < nk) (hv : v < 10) : Vin (ms σ 54 k (nI v)) 52 lf nk P (un bs k v) := by
  obtain ⟨p8, k8, e5, e6, hst, hl⟩ := h
  refine ⟨p8, k8, by rw [ms_ne (by decide)]; exact e5, by rw [ms_ne (by decide)]; exact e6, fun i hi => ?_, fun p hp => by rw [ms_ne (by decide)]; exact hl p hp⟩
  show (ms σ 54 k (nI v)).1 54 i = _ ∧ _
  rw [ms_same]
  by_cases c : i = k
  · rw [c, upd_s, un_s]
    exact ⟨rfl, hv⟩
  · rw [upd_n c, un_n c, ← hs i hi c]
    exact hst i hi
theorem sailC_loop {k : Nat} (hk : k < nk) (hb : ∀ i, i < nk → bs i < 10) : ∀ (q j : Nat) (σ : Mem) (st : Nat → Nat), Vin σ 52 lf nk P st → (∀ i, i < nk → i ≠ k → st i = bs i) → j ≤ 10 → 10 < j + q → σ.1 61 3 = amW (swt lf nk P bs k) j → (0 < j → σ.1 61 4 = nI (swt lf nk P bs k (am (swt lf nk P bs k) j))) →
    wp (f_X9_planSail_b22 q σ (nI k) (nI j)) (fun υ => Fr [52, 53, 54, 55, 56, 57, 61] σ υ ∧ υ.1 61 3 = nI (am (swt lf nk P bs k) 10) ∧ υ.1 61 4 = nI (swt lf nk P bs k (am (swt lf nk P bs k) 10))) := by
  intro q
  induction q with
  | zero => intro j σ st hV hs h1 h2; omega
  | succ q ih =>
    intro j σ st hV hs h1 h2 e3 e4
    have k8 := hV.2.1
    rw [f_X9_planSail_b22, show (10 : Int32) = nI 10 from rfl]
    refine wp_ite (fun c => ?_) (fun c => ?_)
    · have c' := (nI_leI (by omega) (by omega)).mp c
      have e : j = 10 := by omega
      subst e
      exact wp_some.mpr ⟨Fr.rf, e3, e4 (by omega)⟩
    · have hj := nI_not_le c (by omega) (by omega)
      rw [nI_clamp (by omega)]
      refine wp_ckN (by omega) (by decide) (wp_lt (wp_bv (Vin_run (Vin_start hV hs hk hj) (fun υ g hO => ?_))))
      have F1 : Fr [52, 53, 54, 55, 56, 57, 61] σ υ := (Fr.rf.ms (by simp)).tr (g.wide (by decide))
      have eW : f_X8_allWait υ 52 = some (nI (swt lf nk P bs k j)) := allWait_eq hO
      refine wp_bpE eW ?_
      rw [show υ.1 61 = σ.1 61 by rw [g.1 61 (by decide), ms_ne (by decide)], e3]
      have hle := swt_le (lf := lf) (P := P) (k := k) k8 hb hj
      -- the two ways on
      have keep : 0 < j → ¬ swt lf nk P bs k j < swt lf nk P bs k (am (swt lf nk P bs k) j) → wp (f_X9_planSail_b84 (f_X9_planSail_b22 q) υ (nI k) (nI j)) (fun υ => Fr [52, 53, 54, 55, 56, 57, 61] σ υ ∧ υ.1 61 3 = nI (am (swt lf nk P bs k) 10) ∧ υ.1 61 4 = nI (swt lf nk P bs k (am (swt lf nk P bs k) 10))) := by
        intro h0 hn
        unfold f_X9_planSail_b84
        rw [nI_1]
        have ea : am (swt lf nk P bs k) (j + 1) = am (swt lf nk P bs k) j := by rw [am, if_neg (by omega)]
        have e61 : υ.1 61 = σ.1 61 := by rw [g.1 61 (by decide), ms_ne (by decide)]
        refine wp_mono (ih (j + 1) υ (un bs k j) hO.1 (fun i _ hi => un_n hi) (by omega) (by omega) ?_ (fun _ => ?_)) (fun υ2 h => ⟨F1.tr h.1, h.2⟩)
        · rw [e61, e3, amW, amW, if_neg (by omega), if_neg (by omega), ea]
        · rw [e61, e4 h0, ea]
      have set : (0 < j → swt lf nk P bs k j < swt lf nk P bs k (am (swt lf nk P bs k) j)) → wp (f_X9_planSail_b75 (f_X9_planSail_b22 q) υ (nI k) (nI j) (nI (swt lf nk P bs k j))) (fun υ => Fr [52, 53, 54, 55, 56, 57, 61] σ υ ∧ υ.1 61 3 = nI (am (swt lf nk P bs k) 10) ∧ υ.1 61 4 = nI (swt lf nk P bs k (am (swt lf nk P bs k) 10))) := by
        intro h0
        unfold f_X9_planSail_b75 f_X9_planSail_b84 f_X3_setBest
        rw [nI_1]
        have ea : am (swt lf nk P bs k) (j + 1) = j := by rw [am, if_pos (by omega)]
        refine wp_bv (wp_lt (wp_lt (wp_some.mpr ?_)))
        have F2 : Fr [61] υ (ms (ms υ 61 3 (nI j)) 61 4 (nI (swt lf nk P bs k j))) := (Fr.rf.ms (by simp)).ms (by simp)
        refine wp_mono (ih (j + 1) _ (un bs k j) (hO.1.fr F2 (by decide) (by decide) (by decide)) (fun i _ hi => un_n hi) (by omega) (by omega) ?_ (fun _ => ?_)) (fun υ2 h => ⟨(F1.tr (F2.wide (by decide))).tr h.1, h.2⟩)
        · rw [ms_same, upd_n (by decide), ms_same, upd_s, amW, if_neg (by omega), ea]
        · rw [ms_same, upd_s, ea]
      by_cases c0 : j = 0
      · subst c0
        exact wp_it rfl (set (fun h => by omega))
      · have hl2 := swt_le (lf := lf) (P := P) (k := k) k8 hb (show am (swt lf nk P bs k) j < 10 by have := am_lt (f := swt lf nk P bs k) (show 0 < j by omega); omega)
        have hlj := am_lt (f := swt lf nk P bs k) (show 0 < j by omega)
        rw [amW, if_neg c0, e4 (by omega)]
        refine wp_ie (nI_neg1 (by omega)) (wp_ite (fun c => keep (by omega) ?_) (fun c => set (fun _ => ?_)))
        · have := (nI_leI (by omega) (by omega)).mp c
          omega
        · exact nI_not_le c (by omega) (by omega)
theorem planSail_wp {k : Nat} (C : CW σ nb kd mk mn nk ma bs ns sb sm ng gt gk gb) (hk : k < nk) : wp (f_X9_planSail σ (nI k)) (fun υ => Fr [52, 53, 54, 55, 56, 57, 61] σ υ ∧ υ.1 61 3 = nI (am (swt (lfc kd mk mn ma (shc sb sm 255 ns)) nk nb bs k) 10) ∧ υ.1 61 4 = nI (swt (lfc kd mk mn ma (shc sb sm 255 ns)) nk nb bs k (am (swt (lfc kd mk mn ma (shc sb sm 255 ns)) nk nb bs k) 10))) := by
  unfold f_X9_planSail f_X3_setBest
  refine wp_bv (wp_mono (takeOver_wp C.V.1) (fun τ h => wp_bv (wp_lt (wp_lt (wp_some.mpr ?_)))))
  have F : Fr [61] τ (ms (ms τ 61 3 (-1 : Int32)) 61 4 (-1 : Int32)) := (Fr.rf.ms (by simp)).ms (by simp)
  refine wp_mono (sailC_loop hk (fun i hi => (C.2.1.2.2 i hi).2.2) 300 0 _ bs (h.2.fr F (by decide) (by decide) (by decide)) (fun i _ _ => rfl) (by omega) (by omega) (by rw [ms_same, upd_n (by decide), ms_same, upd_s]; rfl) (fun h => by omega)) (fun υ q => ⟨((h.1.wide (by decide)).tr (F.wide (by decide))).tr q.1, q.2⟩)
theorem sailM_loop {k w : Nat} (M : MW σ nb kd mk mn nk ma bs ns sb sm ng gt gk gb) (hk : k < nk) (hw : w < 2) : ∀ (q j : Nat) (τ : Mem) (y : Int32), MR 72 (7 * k) (7 * k + 7) σ τ → (∀ m, m < 6 → τ.1 72 (7 * k + m) = σ.1 72 (7 * k + m)) → j ≤ 10 → 10 < j + q → (0 < j → y = nI (swt (lfc kd mk mn ma (shc sb sm 255 ns)) nk nb bs k (am (swt (lfc kd mk mn ma (shc sb sm 255 ns)) nk nb bs k) j))) →
    wp (f_X10_sailOf_b22 q τ (nI k) (nI w) (nI (bs k)) (amW (swt (lfc kd mk mn ma (shc sb sm 255 ns)) nk nb bs k) j) y (nI j)) (fun o => o.1 = (if w = 0 then nI (am (swt (lfc kd mk mn ma (shc sb sm 255 ns)) nk nb bs k) 10) else nI (swt (lfc kd mk mn ma (shc sb sm 255 ns)) nk nb bs k (am (swt (lfc kd mk mn ma (shc sb sm 255 ns)) nk nb bs k) 10))) ∧ MF σ o.2) := by
  have k8 := M.2.1.1
  obtain ⟨hm72, hb72, hb10⟩ := M.2.1.2.2 k hk
  have hb : ∀ i, i < nk → bs i < 10 := fun i hi => (M.2.1.2.2 i hi).2.2
  generalize hlf : lfc kd mk mn ma (shc sb sm 255 ns) = lf
  intro q
  induction q with
  | zero => intro j τ y R hs h1 h2; omega
  | succ q ih =>
    intro j τ y R hs h1 h2 ey
    have ex : (7 : Int32) * nI k + 6 = nI (7 * k + 6) := by rw [nI_lit 7, pk_mul, nI_lit 6, nI_add]
    rw [f_X10_sailOf_b22, show (10 : Int32) = nI 10 from rfl, ex, nI_clamp (show 7 * k + 6 < 2 ^ 31 by omega)]
    refine wp_ite (fun c => ?_) (fun c => ?_)
    · have c' := (nI_leI (by omega) (by omega)).mp c
      have e : j = 10 := by omega
      subst e
      have B : MF σ (ms τ 72 (7 * k + 6) (nI (bs k))) := (R.ms (by omega) (by omega) (by decide)).back (fun i h1 h2 => by
        rw [ms_same]
        by_cases c : i = 7 * k + 6
        · rw [c, upd_s, hb72]
        · rw [upd_n c, show i = 7 * k + (i - 7 * k) by omega]
          exact hs _ (by omega))
      refine wp_ckN (by omega) (by decide) (wp_lt ?_)
      rcases (show w = 0 ∨ w = 1 by omega) with rfl | rfl
      · exact wp_it rfl (wp_some.mpr ⟨by rw [if_pos rfl]; rfl, B⟩)
      · exact wp_ie (by decide) (wp_some.mpr ⟨by rw [if_neg (by decide)]; exact ey (by omega), B⟩)
    · have hj := nI_not_le c (by omega) (by omega)
      have R2 : MR 72 (7 * k) (7 * k + 7) σ (ms τ 72 (7 * k + 6) (nI j)) := R.ms (by omega) (by omega) (by decide)
      have hs2 : ∀ m, m < 6 → (ms τ 72 (7 * k + 6) (nI j)).1 72 (7 * k + m) = σ.1 72 (7 * k + m) := fun m hm => by
        rw [ms_same, upd_n (by omega)]
        exact hs m hm
      have S := M.boat (f := ma k) (s := j) R2 (fun m hm => by rw [hs2 m hm]; exact hm72 m hm) (by rw [ms_same, upd_s]) hj
      rw [un_self, hlf] at S
      rw [show (99 : Int32) = nI 99 from rfl]
      refine wp_ckN (by omega) (by decide) (wp_lt (wp_bv (wp_mono (lives_wp (by decide) S) (fun υ g => ?_))))
      have eW : f_X10_allWait υ = some (nI (swt lf nk nb bs k j)) := allWaitM_eq k8 (by rw [g.1.2.1 9 (by decide), R2.1.2.1 9 (by decide)]; exact M.2.1.2.1) g.2.2.2.2.1
      refine wp_bpE eW ?_
      have hle := swt_le (lf := lf) (P := nb) (k := k) k8 hb hj
      have R3 := R2.mf g.1 (by decide)
      have hs3 : ∀ m, m < 6 → υ.1 72 (7 * k + m) = σ.1 72 (7 * k + m) := fun m hm => by rw [g.1.1 72 (by decide)]; exact hs2 m hm
      unfold f_X10_sailOf_b68 f_X10_sailOf_b73 f_X10_sailOf_b87 f_X10_sailOf_b101
      rw [nI_1]
      have set : (0 < j → swt lf nk nb bs k j < swt lf nk nb bs k (am (swt lf nk nb bs k) j)) → wp (f_X10_sailOf_b22 q υ (nI k) (nI w) (nI (bs k)) (nI j) (nI (swt lf nk nb bs k j)) (nI (j + 1))) (fun o => o.1 = (if w = 0 then nI (am (swt lf nk nb bs k) 10) else nI (swt lf nk nb bs k (am (swt lf nk nb bs k) 10))) ∧ MF σ o.2) := by
        intro h0
        have ea : am (swt lf nk nb bs k) (j + 1) = j := by rw [am, if_pos (by omega)]
        have := ih (j + 1) υ (nI (swt lf nk nb bs k j)) R3 hs3 (by omega) (by omega) (fun _ => by rw [ea])
        rw [amW, if_neg (by omega), ea] at this
        exact this
      by_cases c0 : j = 0
      · subst c0
        exact wp_it rfl (wp_ie (by decide) (wp_ie (by decide) (set (fun h => by omega))))
      · have hlj := am_lt (f := swt lf nk nb bs k) (show 0 < j by omega)
        have hl2 := swt_le (lf := lf) (P := nb) (k := k) k8 hb (show am (swt lf nk nb bs k) j < 10 by omega)
        have ey := ey (by omega)
        rw [amW, if_neg c0, ey]
        refine wp_ie (nI_neg1 (by omega)) (wp_ite (fun c => wp_it rfl (wp_it rfl ?_)) (fun c => wp_ie (by decide) (wp_ie (by decide) (set (fun _ => nI_not_le c (by omega) (by omega))))))
        have hn := (nI_leI (by omega) (by omega)).mp c
        have ea : am (swt lf nk nb bs k) (j + 1) = am (swt lf nk nb bs k) j := by rw [am, if_neg (by omega)]
        have := ih (j + 1) υ y R3 hs3 (by omega) (by omega) (fun _ => by rw [ea]; exact ey)
        rw [amW, if_neg (by omega), ea, ey] at this
        exact this
def slv (lf : Nat → Nat → Bool) (nk P : Nat) (bs : Nat → Nat) (k w : Nat) : Int32 := if w = 0 then nI (am (swt lf nk P bs k) 10) else nI (swt lf nk P bs k (am (swt lf nk P bs k) 10))
theorem sailOf_wp {k w : Nat} (M : MW σ nb kd mk mn nk ma bs ns sb sm ng gt gk gb) (hk : k < nk) (hw : w < 2) : wp (f_X10_sailOf σ (nI k) (nI w)) (fun o => o.1 = slv (lfc kd mk mn ma (shc sb sm 255 ns)) nk nb bs k w ∧ MF σ o.2) := by
  have k8 := M.2.1.1
  unfold f_X10_sailOf
  have ex : (7 : Int32) * nI k + 6 = nI (7 * k + 6) := by rw [nI_lit 7, pk_mul, nI_lit 6, nI_add]
  rw [ex, nI_clamp (show 7 * k + 6 < 2 ^ 31 by omega), (M.2.1.2.2 k hk).2.1]
  exact wp_ckN (by omega) (by decide) (sailM_loop M hk hw 300 0 σ 0 (MR.start MF.rf (by decide)) (fun _ _ => rfl) (by omega) (by omega) (fun h => by omega))
theorem sailC_wp {k w : Nat} (C : CW σ nb kd mk mn nk ma bs ns sb sm ng gt gk gb) (hk : k < nk) (hw : w < 2) : wp (f_X9_sail σ (nI k) (nI w)) (fun o => o.1 = slv (lfc kd mk mn ma (shc sb sm 255 ns)) nk nb bs k w ∧ Fr [52, 53, 54, 55, 56, 57, 61] σ o.2) := by
  have k8 := C.2.1.1
  unfold f_X9_sail slv
  rw [show (2 : Int32) = nI 2 from rfl]
  refine wp_bpE (isBoatC_eq C.2.1.2.1 (by omega)) ?_
  rw [if_pos (nI_rng hk (by omega))]
  refine wp_ie (by decide) (wp_bpE (within_eq (by decide)) ?_)
  rw [if_pos (nI_rng hw (by decide))]
  refine wp_ie (by decide) (wp_bv (wp_mono (planSail_wp C hk) (fun υ h => ?_)))
  rcases (show w = 0 ∨ w = 1 by omega) with rfl | rfl
  · exact wp_it rfl (wp_some.mpr ⟨by rw [if_pos rfl]; exact h.2.1, h.1⟩)
  · exact wp_ie (by decide) (wp_some.mpr ⟨by rw [if_neg (by decide)]; exact h.2.2, h.1⟩)
theorem op_sail (h : INV σ) (x y : Int32) : wp (f_X9_sail σ x y) (fun o => wp (f_X10_sail o.2 x y) (fun o2 => o2.1 = o.1 ∧ INV o2.2)) := by
  obtain ⟨n0, t0, n1, t1, ns, sb, sm, ng, gt, gk, gb, hI⟩ := h
  have hI : IN σ n0 t0 n1 t1 ns sb sm ng gt gk gb := hI
  have C := hI.cw
  have k8 := C.2.1.1
  by_cases c1 : 0 ≤ x.toInt ∧ x.toInt < nkK n1 t1
  · by_cases c2 : 0 ≤ y.toInt ∧ y.toInt < (2 : Nat)
    · obtain ⟨k, hk, rfl⟩ := inr c1
      obtain ⟨w, hw, rfl⟩ := inr c2
      refine wp_mono (sailC_wp C hk hw) (fun o h => ?_)
      have hI2 := hI.keep (h.2.sc (by decide))
      unfold f_X10_sail
      refine hI2.fnd (fun υ f M => wp_bpE (isBoatM_eq M.2.1.2.1 (by omega)) ?_)
      rw [if_pos c1]
      refine wp_ie (by decide) (wp_bpE isTwo_eq ?_)
      rw [if_pos c2]
      exact wp_ie (by decide) (wp_bi (wp_mono (sailOf_wp M hk hw) (fun o2 q => wp_some.mpr ⟨q.1.trans h.1.symm, hI2.end2 f q.2⟩)))
    · unfold f_X9_sail f_X10_sail
      rw [show (2 : Int32) = nI 2 from rfl]
      refine wp_bpE (isBoatC_eq C.2.1.2.1 (by omega)) ?_
      rw [if_pos c1]
      refine wp_ie (by decide) (wp_bpE (within_eq (by decide)) ?_)
      rw [if_neg c2]
      refine wp_it rfl (wp_some.mpr (hI.fnd (fun τ f M => wp_bpE (isBoatM_eq M.2.1.2.1 (by omega)) ?_)))
      rw [if_pos c1]
      refine wp_ie (by decide) (wp_bpE isTwo_eq ?_)
      rw [if_neg c2]
      exact wp_it rfl (wp_some.mpr ⟨rfl, hI.end f⟩)
  · unfold f_X9_sail f_X10_sail
    refine wp_bpE (isBoatC_eq C.2.1.2.1 (by omega)) ?_
    rw [if_neg c1]
    refine wp_it rfl (wp_some.mpr (hI.fnd (fun τ f M => wp_bpE (isBoatM_eq M.2.1.2.1 (by omega)) ?_)))
    rw [if_neg c1]
    exact wp_it rfl (wp_some.mpr ⟨rfl, hI.end f⟩)
end PLA
