/-! 10f: contexts; lifts, at, passes, waits, through, first -/
/-- the p-th bridge that stands -/
def sd (nb aw p : Nat) : Nat := if aw < nb ∧ aw ≤ p then p + 1 else p
def npl (nb aw : Nat) : Nat := if aw < nb then nb - 1 else nb
def MW (σ : Mem) (nb : Nat) (kd mk mn : Nat → Nat) (nk : Nat) (ma : Nat → Nat → Nat) (bs : Nat → Nat) (ns : Nat) (sb sm : Nat → Nat) (ng : Nat) (gt gk gb : Nat → Nat) : Prop := Mb σ nb kd mk mn ∧ Mk σ nk ma bs ∧ Ms σ ns sb sm ∧ Mo σ 255 nb nb ∧ Mg σ ng gt gk gb
def CW (σ : Mem) (nb : Nat) (kd mk mn : Nat → Nat) (nk : Nat) (ma : Nat → Nat → Nat) (bs : Nat → Nat) (ns : Nat) (sb sm : Nat → Nat) (ng : Nat) (gt gk gb : Nat → Nat) : Prop := Cb σ nb kd mk mn ∧ Ck σ nk ma bs ∧ Cs σ ns sb sm ∧ Cc σ (shc sb sm 255 ns) ∧ Cg σ ng gt gk gb ∧ Vok σ 46 (lfc kd mk mn ma (shc sb sm 255 ns)) nk nb bs
def IN (σ : Mem) (n0 : Nat) (t0 : Nat → Nat) (n1 : Nat) (t1 : Nat → Nat) (ns : Nat) (sb sm : Nat → Nat) (ng : Nat) (gt gk gb : Nat → Nat) : Prop := TXT σ n0 t0 n1 t1 ∧ PAR σ n0 t0 n1 t1 ∧ SHA σ ns sb sm ∧ SEE σ ng gt gk gb ∧ OTH σ ∧ Vok σ 46 (lfA t0 n1 t1 sb sm 255 ns) (nkK n1 t1) (nbB n0 t0) (bsK n1 t1) ∧ BEL σ n0 t0 n1 t1 ns sb sm
theorem bt_inj {x y : Int32} {f : Nat → Bool} (h : bt x f) (h2 : bt y f) : x = y := by
  obtain ⟨m, a1, rfl, a3⟩ := h
  obtain ⟨n, b1, rfl, b3⟩ := h2
  have : m = n := by
    apply Nat.eq_of_testBit_eq
    intro i
    by_cases c : i < 8
    · rw [a3 i c, b3 i c]
    · have hp : 2 ^ 8 ≤ 2 ^ i := Nat.pow_le_pow_right (by decide) (by omega)
      rw [Nat.testBit_lt_two_pow (by omega), Nat.testBit_lt_two_pow (by omega)]
  rw [this]
section CTX
variable {σ τ : Mem} {nb nk ns ng bl aw n0 n1 : Nat} {t0 t1 kd mk mn bs sb sm gt gk gb : Nat → Nat} {ma : Nat → Nat → Nat}
theorem MS_of (hb : Mb σ nb kd mk mn) (hk : Mk σ nk ma bs) (hs : Ms σ ns sb sm) (ho : Mo σ bl nb aw) : MS σ (fun p k => lfc kd mk mn ma (shc sb sm bl ns) (sd nb aw p) k) nk (npl nb aw) bs := by
  intro τ f
  have hb := hb.fr f
  have hk := hk.fr f
  have hs := hs.fr f
  have ho := ho.fr f
  have h8 := hb.1
  refine ⟨by unfold npl; split <;> omega, hk.1, hk.2.1, ?_, fun p hp k hk2 => ?_, fun k hk2 => (hk.2.2 k hk2).2⟩
  · unfold f_X10_places f_X10_places_b17 npl
    rw [ho.2.2, hb.2.1]
    by_cases c : aw < nb
    · rw [if_pos c, if_neg (nI_neg1 (by omega)), if_pos c, show (1 : Int32) = nI 1 from rfl, pk_sub (by omega)]
    · rw [if_neg c, if_pos rfl, if_neg c, Int32.sub_zero]
  · unfold f_X10_standing npl at *
    rw [ho.2.2]
    have key : ∀ q, q < nb → sd nb aw p = q → f_X10_isLifted τ (nI q) (nI k) = some (if lfc kd mk mn ma (shc sb sm bl ns) (sd nb aw p) k = true then 1 else 0) := fun q hq e => by
      rw [e]
      exact lift_eq hb hk hs ho hq hk2
    by_cases c : aw < nb
    · rw [if_pos c] at hp ⊢
      rw [if_neg (nI_neg1 (by omega))]
      by_cases c2 : aw ≤ p
      · rw [if_neg (fun q => by have := (nI_ltI (by omega) (by omega)).mp q; omega), nI_1]
        exact ⟨_, rfl, key _ (by omega) (if_pos ⟨c, c2⟩)⟩
      · rw [if_pos ((nI_ltI (by omega) (by omega)).mpr (by omega))]
        exact ⟨_, rfl, key _ (by omega) (if_neg (fun q => c2 q.2))⟩
    · rw [if_neg c] at hp ⊢
      rw [if_pos rfl]
      exact ⟨_, rfl, key _ hp (if_neg (fun q => c q.1))⟩
theorem sd_no {p : Nat} : sd nb nb p = p := if_neg (fun q => Nat.lt_irrefl _ q.1)
theorem npl_no : npl nb nb = nb := if_neg (Nat.lt_irrefl _)
theorem MS_no (hb : Mb σ nb kd mk mn) (hk : Mk σ nk ma bs) (hs : Ms σ ns sb sm) (ho : Mo σ bl nb nb) : MS σ (lfc kd mk mn ma (shc sb sm bl ns)) nk nb bs := by
  have := MS_of hb hk hs ho
  simp only [sd_no, npl_no] at this
  exact this
theorem MW.ms (h : MW σ nb kd mk mn nk ma bs ns sb sm ng gt gk gb) : MS σ (lfc kd mk mn ma (shc sb sm 255 ns)) nk nb bs := MS_no h.1 h.2.1 h.2.2.1 h.2.2.2.1
theorem MW.fx {rs is : List Nat} (h : MW σ nb kd mk mn nk ma bs ns sb sm ng gt gk gb) (f : MX rs is σ τ) (h0 : ∀ r, r ∈ [71, 72, 73, 78] → r ∉ rs) (h1 : ∀ i, i ∈ [7, 9, 11, 13, 14, 22] → i ∉ is) : MW τ nb kd mk mn nk ma bs ns sb sm ng gt gk gb := by
  obtain ⟨a1, a2, a3, a4, a5⟩ := h
  refine ⟨a1.fx f (h0 71 (by simp)) (h1 7 (by simp)), a2.fx f (h0 72 (by simp)) (h1 9 (by simp)), a3.fx f (h0 73 (by simp)) (h1 11 (by simp)), ?_, a5.fx f (h0 78 (by simp)) (h1 22 (by simp))⟩
  unfold Mo at a4 ⊢
  rw [f.2.1 13 (h1 13 (by simp)), f.2.1 14 (h1 14 (by simp))]
  exact a4
theorem MW.mf (h : MW σ nb kd mk mn nk ma bs ns sb sm ng gt gk gb) (f : MF σ τ) : MW τ nb kd mk mn nk ma bs ns sb sm ng gt gk gb := h.fx f.toX (by decide) (by decide)
theorem IN.inv (h : IN σ n0 t0 n1 t1 ns sb sm ng gt gk gb) : INV σ := ⟨n0, t0, n1, t1, ns, sb, sm, ng, gt, gk, gb, h⟩
theorem IN.cw (h : IN σ n0 t0 n1 t1 ns sb sm ng gt gk gb) : CW σ (nbB n0 t0) (kdB t0) (mkB t0) (mnB t0) (nkK n1 t1) (maK n1 t1) (bsK n1 t1) ns sb sm ng gt gk gb := ⟨h.2.1.2.2.1, h.2.1.2.2.2, h.2.2.1.1, h.2.2.1.2.2, h.2.2.2.1.1, h.2.2.2.2.2.1⟩
theorem IN.mo (h : IN σ n0 t0 n1 t1 ns sb sm ng gt gk gb) : Mo σ 255 nb nb := ⟨h.2.2.2.2.1.2.2.1, by decide, by rw [if_neg (Nat.lt_irrefl _)]; exact h.2.2.2.2.1.2.2.2⟩
theorem IN.keep (h : IN σ n0 t0 n1 t1 ns sb sm ng gt gk gb) (f : MX SC SI σ τ) : IN τ n0 t0 n1 t1 ns sb sm ng gt gk gb := by
  obtain ⟨a1, a2, a3, a4, a5, a6, a7⟩ := h
  exact ⟨a1.fx f (by decide), a2.fx f (by decide), a3.fx f (by decide) (by decide), a4.fx f (by decide) (by decide), a5.fx f (by decide) (by decide), a6.fr f.toFr (by decide) (by decide) (by decide) (by decide) (by decide), a7.fx f (by decide)⟩
theorem IN.found (h : IN σ n0 t0 n1 t1 ns sb sm ng gt gk gb) : wp (f_X10_find σ) (fun τ => MX [71, 72] [7, 9] σ τ ∧ MW τ (nbB n0 t0) (kdB t0) (mkB t0) (mnB t0) (nkK n1 t1) (maK n1 t1) (bsK n1 t1) ns sb sm ng gt gk gb) := by
  refine wp_mono (find_wp h.1.2.2) (fun τ g => ⟨g.1, g.2.1, g.2.2, h.2.2.1.2.1.fx g.1 (by decide) (by decide), ?_, h.2.2.2.1.2.fx g.1 (by decide) (by decide)⟩)
  have := h.mo (nb := nbB n0 t0)
  unfold Mo at this ⊢
  rw [g.1.2.1 13 (by decide), g.1.2.1 14 (by decide)]
  exact this
theorem IN.fnd {α : Type} {k : Mem → Option α} {Q : α → Prop} (h : IN σ n0 t0 n1 t1 ns sb sm ng gt gk gb) (hk : ∀ τ, MX [71, 72] [7, 9] σ τ → MW τ (nbB n0 t0) (kdB t0) (mkB t0) (mnB t0) (nkK n1 t1) (maK n1 t1) (bsK n1 t1) ns sb sm ng gt gk gb → wp (k τ) Q) : wp (bv (f_X10_find σ) k) Q := wp_bv (wp_mono h.found (fun τ g => hk τ g.1 g.2))
theorem IN.end (h : IN σ n0 t0 n1 t1 ns sb sm ng gt gk gb) (f : MX [71, 72] [7, 9] σ τ) : INV τ := (h.keep (f.wide (by decide) (by decide))).inv
theorem IN.end2 {υ : Mem} (h : IN σ n0 t0 n1 t1 ns sb sm ng gt gk gb) (f : MX [71, 72] [7, 9] σ τ) (g : MF τ υ) : INV υ := (h.keep ((f.wide (by decide) (by decide)).tr (g.toX.wide (by decide) (by decide)))).inv
theorem op_lifts (h : INV σ) (x y : Int32) : wp (f_X9_lifts σ x y) (fun r => wp (f_X10_lifts σ x y) (fun o2 => o2.1 = r ∧ INV o2.2)) := by
  obtain ⟨n0, t0, n1, t1, ns, sb, sm, ng, gt, gk, gb, hI⟩ := h
  have hI : IN σ n0 t0 n1 t1 ns sb sm ng gt gk gb := hI
  have C := hI.cw
  have b8 := C.1.1
  have k8 := C.2.1.1
  unfold f_X9_lifts f_X10_lifts f_X10_lifts_b20
  refine wp_bpE (isBridgeC_eq C.1.2.1 (by omega)) ?_
  by_cases c1 : 0 ≤ x.toInt ∧ x.toInt < nbB n0 t0
  · rw [if_pos c1]
    refine wp_ie (by decide) (wp_bpE (isBoatC_eq C.2.1.2.1 (by omega)) ?_)
    by_cases c2 : 0 ≤ y.toInt ∧ y.toInt < nkK n1 t1
    · rw [if_pos c2]
      obtain ⟨b, hb, rfl⟩ := inr c1
      obtain ⟨k, hk, rfl⟩ := inr c2
      refine wp_ie (by decide) (wp_bpE (isLifted_eq C.2.2.2.2.2 hb hk) ?_)
      have fin : ∀ τ : Mem, MX [71, 72] [7, 9] σ τ → MW τ (nbB n0 t0) (kdB t0) (mkB t0) (mnB t0) (nkK n1 t1) (maK n1 t1) (bsK n1 t1) ns sb sm ng gt gk gb → f_X10_isLifted τ (nI b) (nI k) = some (if lfc (kdB t0) (mkB t0) (mnB t0) (maK n1 t1) (shc sb sm 255 ns) b k = true then 1 else 0) := fun τ _ M => lift_eq M.1 M.2.1 M.2.2.1 M.2.2.2.1 hb hk
      cases hv : lfc (kdB t0) (mkB t0) (mnB t0) (maK n1 t1) (shc sb sm 255 ns) b k with
      | true =>
        refine wp_ie (by decide) (wp_some.mpr (hI.fnd (fun τ f M => wp_bpE (isBridgeM_eq M.1.2.1 (by omega)) ?_)))
        rw [if_pos c1]
        refine wp_ie (by decide) (wp_bpE (isBoatM_eq M.2.1.2.1 (by omega)) ?_)
        rw [if_pos c2]
        refine wp_ie (by decide) (wp_bpE (fin τ f M) ?_)
        rw [hv]
        exact wp_ie (by decide) (wp_some.mpr ⟨rfl, hI.end f⟩)
      | false =>
        refine wp_it (by decide) (wp_some.mpr (hI.fnd (fun τ f M => wp_bpE (isBridgeM_eq M.1.2.1 (by omega)) ?_)))
        rw [if_pos c1]
        refine wp_ie (by decide) (wp_bpE (isBoatM_eq M.2.1.2.1 (by omega)) ?_)
        rw [if_pos c2]
        refine wp_ie (by decide) (wp_bpE (fin τ f M) ?_)
        rw [hv]
        exact wp_it (by decide) (wp_some.mpr ⟨rfl, hI.end f⟩)
    · rw [if_neg c2]
      refine wp_it rfl (wp_some.mpr (hI.fnd (fun τ f M => wp_bpE (isBridgeM_eq M.1.2.1 (by omega)) ?_)))
      rw [if_pos c1]
      refine wp_ie (by decide) (wp_bpE (isBoatM_eq M.2.1.2.1 (by omega)) ?_)
      rw [if_neg c2]
      exact wp_it rfl (wp_some.mpr ⟨rfl, hI.end f⟩)
  · rw [if_neg c1]
    refine wp_it rfl (wp_some.mpr (hI.fnd (fun τ f M => wp_bpE (isBridgeM_eq M.1.2.1 (by omega)) ?_)))
    rw [if_neg c1]
    exact wp_it rfl (wp_some.mpr ⟨rfl, hI.end f⟩)
-- inner answers of the reference
theorem atOf_wp {t k : Nat} (M : MW σ nb kd mk mn nk ma bs ns sb sm ng gt gk gb) (ht : t < 100) (hk : k < nk) : wp (f_X10_atOf σ (nI t) (nI k)) (fun o => o.1 = nI (sim (lfc kd mk mn ma (shc sb sm 255 ns)) nk nb bs (t + 1) k) - 1 ∧ MF σ o.2) := by
  have k8 := M.2.1.1
  unfold f_X10_atOf
  refine wp_bv (wp_mono (lives_wp ht M.ms) (fun τ g => wp_ckN (by omega) (by decide) (wp_some.mpr ⟨?_, g.1⟩)))
  rw [nI_clamp (by omega)]
  exact g.2.1 k hk
theorem op_at (h : INV σ) (x y : Int32) : wp (f_X9_at σ x y) (fun r => wp (f_X10_at σ x y) (fun o2 => o2.1 = r ∧ INV o2.2)) := by
  obtain ⟨n0, t0, n1, t1, ns, sb, sm, ng, gt, gk, gb, hI⟩ := h
  have hI : IN σ n0 t0 n1 t1 ns sb sm ng gt gk gb := hI
  have C := hI.cw
  have k8 := C.2.1.1
  unfold f_X9_at f_X10_at
  rw [show (100 : Int32) = nI 100 from rfl]
  refine wp_bpE (within_eq (by decide)) ?_
  by_cases c1 : 0 ≤ x.toInt ∧ x.toInt < (100 : Nat)
  · rw [if_pos c1]
    refine wp_ie (by decide) (wp_bpE (isBoatC_eq C.2.1.2.1 (by omega)) ?_)
    by_cases c2 : 0 ≤ y.toInt ∧ y.toInt < nkK n1 t1
    · rw [if_pos c2]
      obtain ⟨t, ht, rfl⟩ := inr c1
      obtain ⟨k, hk, rfl⟩ := inr c2
      refine wp_ie (by decide) (wp_bpE (placeOf_eq C.2.2.2.2.2 ht hk) (wp_some.mpr (hI.fnd (fun τ f M => wp_bpE isStep_eq ?_))))
      rw [if_pos c1]
      refine wp_ie (by decide) (wp_bpE (isBoatM_eq M.2.1.2.1 (by omega)) ?_)
      rw [if_pos c2]
      exact wp_ie (by decide) (wp_bi (wp_mono (atOf_wp M ht hk) (fun o q => wp_some.mpr ⟨q.1, hI.end2 f q.2⟩)))
    · rw [if_neg c2]
      refine wp_it rfl (wp_some.mpr (hI.fnd (fun τ f M => wp_bpE isStep_eq ?_)))
      rw [if_pos c1]
      refine wp_ie (by decide) (wp_bpE (isBoatM_eq M.2.1.2.1 (by omega)) ?_)
      rw [if_neg c2]
      exact wp_it rfl (wp_some.mpr ⟨rfl, hI.end f⟩)
  · rw [if_neg c1]
    refine wp_it rfl (wp_some.mpr (hI.fnd (fun τ f M => wp_bpE isStep_eq ?_)))
    rw [if_neg c1]
    exact wp_it rfl (wp_some.mpr ⟨rfl, hI.end f⟩)
def psv (lf : Nat → Nat → Bool) (nk P : Nat) (st : Nat → Nat) (p k : Nat) : Int32 := if pas lf nk P st 100 p k = 100 then (-1 : Int32) else nI (pas lf nk P st 100 p k)
theorem passesOf_wp {p k w : Nat} (M : MW σ nb kd mk mn nk ma bs ns sb sm ng gt gk gb) (hp : p < nb) (hk : k < nk) (hw : w < 2) : wp (f_X10_passesOf σ (nI p) (nI k) (nI w)) (fun o => o.1 = (if w = 0 then psv (lfc kd mk mn ma (shc sb sm 255 ns)) nk nb bs p k else if slp (lfc kd mk mn ma (shc sb sm 255 ns)) nk nb bs 100 p k = true then 1 else 0) ∧ MF σ o.2) := by
  have k8 := M.2.1.1
  have b8 := M.1.1
  unfold f_X10_passesOf
  have ex : (8 : Int32) * nI p + nI k = nI (8 * p + k) := by rw [nI_lit 8, pk_mul, nI_add]
  rw [show (99 : Int32) = nI 99 from rfl, ex, nI_clamp (show 8 * p + k < 2 ^ 31 by omega)]
  refine wp_bv (wp_mono (lives_wp (by decide) M.ms) (fun τ g => ?_))
  rcases (show w = 0 ∨ w = 1 by omega) with rfl | rfl
  · refine wp_it rfl (wp_ckN (by omega) (by decide) (wp_some.mpr ⟨?_, g.1⟩))
    rw [if_pos rfl]
    exact g.2.2.1 p k hp hk
  · refine wp_ie (by decide) (wp_ckN (by omega) (by decide) (wp_some.mpr ⟨?_, g.1⟩))
    rw [if_neg (by decide)]
    exact g.2.2.2.1 p k hp hk
theorem op_passes (h : INV σ) (x y z : Int32) : wp (f_X9_passes σ x y z) (fun r => wp (f_X10_passes σ x y z) (fun o2 => o2.1 = r ∧ INV o2.2)) := by
  obtain ⟨n0, t0, n1, t1, ns, sb, sm, ng, gt, gk, gb, hI⟩ := h
  have hI : IN σ n0 t0 n1 t1 ns sb sm ng gt gk gb := hI
  have C := hI.cw
  have b8 := C.1.1
  have k8 := C.2.1.1
  unfold f_X9_passes f_X10_passes
  rw [show (2 : Int32) = nI 2 from rfl]
  refine wp_bpE (isBridgeC_eq C.1.2.1 (by omega)) ?_
  by_cases c1 : 0 ≤ x.toInt ∧ x.toInt < nbB n0 t0
  · rw [if_pos c1]
    refine wp_ie (by decide) (wp_bpE (isBoatC_eq C.2.1.2.1 (by omega)) ?_)
    by_cases c2 : 0 ≤ y.toInt ∧ y.toInt < nkK n1 t1
    · rw [if_pos c2]
      refine wp_ie (by decide) (wp_bpE (within_eq (by decide)) ?_)
      by_cases c3 : 0 ≤ z.toInt ∧ z.toInt < (2 : Nat)
      · rw [if_pos c3]
        obtain ⟨b, hb, rfl⟩ := inr c1
        obtain ⟨k, hk, rfl⟩ := inr c2
        obtain ⟨w, hw, rfl⟩ := inr c3
        have fin : ∀ v : Int32, v = (if w = 0 then psv (lfc (kdB t0) (mkB t0) (mnB t0) (maK n1 t1) (shc sb sm 255 ns)) (nkK n1 t1) (nbB n0 t0) (bsK n1 t1) b k else if slp (lfc (kdB t0) (mkB t0) (mnB t0) (maK n1 t1) (shc sb sm 255 ns)) (nkK n1 t1) (nbB n0 t0) (bsK n1 t1) 100 b k = true then 1 else 0) → wp (bv (f_X10_find σ) (fun σ2 => bp (f_X10_isBridge σ2 (nI b)) (fun v4 => if v4 = (0 : Int32) then some ((-2 : Int32), σ2) else bp (f_X10_isBoat σ2 (nI k)) (fun v7 => if v7 = (0 : Int32) then some ((-2 : Int32), σ2) else bp (f_X10_isTwo σ2 (nI w)) (fun v10 => if v10 = (0 : Int32) then some ((-2 : Int32), σ2) else bi (f_X10_passesOf σ2 (nI b) (nI k) (nI w)) (fun v14 σ13 => some (v14, σ13))))))) (fun o2 => o2.1 = v ∧ INV o2.2) := by
          intro v hv
          refine hI.fnd (fun τ f M => wp_bpE (isBridgeM_eq M.1.2.1 (by omega)) ?_)
          rw [if_pos c1]
          refine wp_ie (by decide) (wp_bpE (isBoatM_eq M.2.1.2.1 (by omega)) ?_)
          rw [if_pos c2]
          refine wp_ie (by decide) (wp_bpE isTwo_eq ?_)
          rw [if_pos c3]
          exact wp_ie (by decide) (wp_bi (wp_mono (passesOf_wp M hb hk hw) (fun o q => wp_some.mpr ⟨q.1.trans hv.symm, hI.end2 f q.2⟩)))
        refine wp_ie (by decide) ?_
        rcases (show w = 0 ∨ w = 1 by omega) with rfl | rfl
        · refine wp_ie (by decide) (wp_bpE (passStep_eq C.2.2.2.2.2 hb hk) ?_)
          have h100 : ∀ a, a ≤ 100 → (nI a = (100 : Int32) ↔ a = 100) := fun a ha => by rw [show (100 : Int32) = nI 100 from rfl]; exact nI_eq (by omega) (by omega)
          have hp := pas_100 (lf := lfc (kdB t0) (mkB t0) (mnB t0) (maK n1 t1) (shc sb sm 255 ns)) (nk := nkK n1 t1) (P := nbB n0 t0) (st := bsK n1 t1) (p := b) (k := k)
          refine wp_ite (fun c => wp_some.mpr (fin _ ?_)) (fun c => wp_some.mpr (fin _ ?_))
          · rw [if_pos rfl, psv, if_pos ((h100 _ hp).mp c)]
          · rw [if_pos rfl, psv, if_neg (fun q => c ((h100 _ hp).mpr q))]
        · refine wp_it rfl (wp_bpE (hasSlipped_eq C.2.2.2.2.2 hb hk) ?_)
          refine wp_ite (fun c => wp_some.mpr (fin _ ?_)) (fun c => wp_some.mpr (fin _ ?_))
          · rw [if_neg (by decide)]
            by_cases q : slp (lfc (kdB t0) (mkB t0) (mnB t0) (maK n1 t1) (shc sb sm 255 ns)) (nkK n1 t1) (nbB n0 t0) (bsK n1 t1) 100 b k = true
            · rw [if_pos q] at c
              exact absurd c (by decide)
            · rw [if_neg q]
          · rw [if_neg (by decide)]
            by_cases q : slp (lfc (kdB t0) (mkB t0) (mnB t0) (maK n1 t1) (shc sb sm 255 ns)) (nkK n1 t1) (nbB n0 t0) (bsK n1 t1) 100 b k = true
            · rw [if_pos q]
            · rw [if_neg q] at c
              exact absurd rfl c
      · rw [if_neg c3]
        refine wp_it rfl (wp_some.mpr (hI.fnd (fun τ f M => wp_bpE (isBridgeM_eq M.1.2.1 (by omega)) ?_)))
        rw [if_pos c1]
        refine wp_ie (by decide) (wp_bpE (isBoatM_eq M.2.1.2.1 (by omega)) ?_)
        rw [if_pos c2]
        refine wp_ie (by decide) (wp_bpE isTwo_eq ?_)
        rw [if_neg c3]
        exact wp_it rfl (wp_some.mpr ⟨rfl, hI.end f⟩)
    · rw [if_neg c2]
      refine wp_it rfl (wp_some.mpr (hI.fnd (fun τ f M => wp_bpE (isBridgeM_eq M.1.2.1 (by omega)) ?_)))
      rw [if_pos c1]
      refine wp_ie (by decide) (wp_bpE (isBoatM_eq M.2.1.2.1 (by omega)) ?_)
      rw [if_neg c2]
      exact wp_it rfl (wp_some.mpr ⟨rfl, hI.end f⟩)
  · rw [if_neg c1]
    refine wp_it rfl (wp_some.mpr (hI.fnd (fun τ f M => wp_bpE (isBridgeM_eq M.1.2.1 (by omega)) ?_)))
    rw [if_neg c1]
    exact wp_it rfl (wp_some.mpr ⟨rfl, hI.end f⟩)
theorem waitsOf_wp {k : Nat} (M : MW σ nb kd mk mn nk ma bs ns sb sm ng gt gk gb) (hk : k < nk) : wp (f_X10_waitsOf σ (nI k)) (fun o => o.1 = nI (wts (lfc kd mk mn ma (shc sb sm 255 ns)) nk nb bs 100 k) ∧ MF σ o.2) := by
  have k8 := M.2.1.1
  unfold f_X10_waitsOf
  rw [show (99 : Int32) = nI 99 from rfl, nI_clamp (show k < 2 ^ 31 by omega)]
  exact wp_bv (wp_mono (lives_wp (by decide) M.ms) (fun τ g => wp_ckN (by omega) (by decide) (wp_some.mpr ⟨g.2.2.2.2.1 k hk, g.1⟩)))
theorem op_waits (h : INV σ) (x : Int32) : wp (f_X9_waits σ x) (fun r => wp (f_X10_waits σ x) (fun o2 => o2.1 = r ∧ INV o2.2)) := by
  obtain ⟨n0, t0, n1, t1, ns, sb, sm, ng, gt, gk, gb, hI⟩ := h
  have hI : IN σ n0 t0 n1 t1 ns sb sm ng gt gk gb := hI
  have C := hI.cw
  have k8 := C.2.1.1
  unfold f_X9_waits f_X10_waits
  refine wp_bpE (isBoatC_eq C.2.1.2.1 (by omega)) ?_
  by_cases c2 : 0 ≤ x.toInt ∧ x.toInt < nkK n1 t1
  · rw [if_pos c2]
    obtain ⟨k, hk, rfl⟩ := inr c2
    refine wp_ie (by decide) (wp_bpE (waitOf_eq C.2.2.2.2.2 hk) (wp_some.mpr (hI.fnd (fun τ f M => wp_bpE (isBoatM_eq M.2.1.2.1 (by omega)) ?_))))
    rw [if_pos c2]
    exact wp_ie (by decide) (wp_bi (wp_mono (waitsOf_wp M hk) (fun o q => wp_some.mpr ⟨q.1, hI.end2 f q.2⟩)))
  · rw [if_neg c2]
    refine wp_it rfl (wp_some.mpr (hI.fnd (fun τ f M => wp_bpE (isBoatM_eq M.2.1.2.1 (by omega)) ?_)))
    rw [if_neg c2]
    exact wp_it rfl (wp_some.mpr ⟨rfl, hI.end f⟩)
/-- those that are through, by places -/
theorem through_loop {lf : Nat → Nat → Bool} {P : Nat} {st pos : Nat → Nat} (hS : MS σ lf nk P st) (hpl : Mpl σ nk pos) (hpos : ∀ k, k < nk → pos k < 100) : ∀ (q j : Nat) (x : Int32), j ≤ nk → nk < j + q → bt x (fun k => decide (k < j) && decide (pos k = P + 1)) → wp (f_X10_throughNow_b4 σ q x (nI j)) (fun v => bt v (fun k => decide (k < nk) && decide (pos k = P + 1))) := by
  obtain ⟨p8, k8, e9, epl, -, -⟩ := hS.at
  intro q
  induction q with
  | zero => intro j x h1 h2; omega
  | succ q ih =>
    intro j x h1 h2 hx
    rw [f_X10_throughNow_b4, e9]
    refine wp_ite (fun c => ?_) (fun c => ?_)
    · have c' := (nI_leI (by omega) (by omega)).mp c
      have e : j = nk := by omega
      subst e
      exact wp_some.mpr hx
    · have hj := nI_not_le c (by omega) (by omega)
      rw [nI_clamp (by omega), hpl j hj]
      refine wp_ckN (by omega) (by decide) (wp_bpE epl ?_)
      have hc : (nI (pos j) - 1 = nI P) ↔ pos j = P + 1 := nI_m1_eq (by have := hpos j hj; omega) (by omega)
      unfold f_X10_throughNow_b33
      rw [nI_1]
      refine wp_ite (fun c2 => ih (j + 1) _ (by omega) (by omega) (bt_congr (bt_set hx (by omega)) (fun k hk => ?_))) (fun c2 => ?_)
      · have c3 := hc.mp c2
        by_cases e : k = j
        · rw [e, decide_eq_false (by omega), decide_eq_true c3, decide_eq_true (show j < j + 1 by omega), decide_eq_true (rfl : j = j)]
          rfl
        · rw [decide_eq_false e, Bool.or_false]
          by_cases e2 : k < j
          · rw [decide_eq_true e2, decide_eq_true (show k < j + 1 by omega)]
          · rw [decide_eq_false e2, decide_eq_false (show ¬ k < j + 1 by omega)]
      · rw [show x ||| (0 : Int32) = x from Int32.or_zero]
        refine ih (j + 1) _ (by omega) (by omega) (bt_congr hx (fun k hk => ?_))
        by_cases e : k = j
        · rw [e, decide_eq_false (fun q => c2 (hc.mpr q)), Bool.and_false, Bool.and_false]
        · by_cases e2 : k < j
          · rw [decide_eq_true e2, decide_eq_true (show k < j + 1 by omega)]
          · rw [decide_eq_false e2, decide_eq_false (show ¬ k < j + 1 by omega)]
theorem throughNow_wp {lf : Nat → Nat → Bool} {P : Nat} {st pos : Nat → Nat} (hS : MS σ lf nk P st) (hpl : Mpl σ nk pos) (hpos : ∀ k, k < nk → pos k < 100) : wp (f_X10_throughNow σ) (fun v => bt v (fun k => decide (k < nk) && decide (pos k = P + 1))) := by
  have k8 := hS.at.2.1
  unfold f_X10_throughNow
  exact through_loop hS hpl hpos 300 0 0 (by omega) (by omega) (bt_congr bt_0 (fun k hk => by rw [decide_eq_false (by omega)]; rfl))
theorem throughOfS_wp {lf : Nat → Nat → Bool} {P t : Nat} {st : Nat → Nat} (hS : MS σ lf nk P st) (ht : t < 100) : wp (f_X10_throughOf σ (nI t)) (fun o => bt o.1 (fun k => decide (k < nk) && decide (sim lf nk P st (t + 1) k = P + 1)) ∧ MF σ o.2) := by
  have p8 := hS.at.1
  unfold f_X10_throughOf
  refine wp_bv (wp_mono (lives_wp ht hS) (fun τ g => wp_bp (wp_mono (throughNow_wp (hS.fr g.1) g.2.1 (fun k hk => ?_)) (fun v q => wp_some.mpr ⟨q, g.1⟩))))
  have := sim_le9 (lf := lf) (nk := nk) (st := st) (t := t + 1) (k := k) p8
  omega
theorem op_through (h : INV σ) (x : Int32) : wp (f_X9_through σ x) (fun r => wp (f_X10_through σ x) (fun o2 => o2.1 = r ∧ INV o2.2)) := by
  obtain ⟨n0, t0, n1, t1, ns, sb, sm, ng, gt, gk, gb, hI⟩ := h
  have hI : IN σ n0 t0 n1 t1 ns sb sm ng gt gk gb := hI
  have C := hI.cw
  unfold f_X9_through f_X10_through
  rw [show (100 : Int32) = nI 100 from rfl]
  refine wp_bpE (within_eq (by decide)) ?_
  by_cases c1 : 0 ≤ x.toInt ∧ x.toInt < (100 : Nat)
  · rw [if_pos c1]
    obtain ⟨t, ht, rfl⟩ := inr c1
    refine wp_ie (by decide) (wp_bp (wp_mono (throughBits_wp C.2.2.2.2.2 ht) (fun v hv => wp_some.mpr (hI.fnd (fun τ f M => wp_bpE isStep_eq ?_)))))
    rw [if_pos c1]
    exact wp_ie (by decide) (wp_bi (wp_mono (throughOfS_wp M.ms ht) (fun o q => wp_some.mpr ⟨bt_inj q.1 hv, hI.end2 f q.2⟩)))
  · rw [if_neg c1]
    refine wp_it rfl (wp_some.mpr (hI.fnd (fun τ f M => wp_bpE isStep_eq ?_)))
    rw [if_neg c1]
    exact wp_it rfl (wp_some.mpr ⟨rfl, hI.end f⟩)
end CTX
