/-! 10j: the reference with a number changed; liked, under -/
/-- but for scratch, only the numbers lo .. hi - 1 of the row r may differ -/
def MR (r lo hi : Nat) (σ τ : Mem) : Prop := MX [r, 74, 75, 76, 77] [19, 20, 21] σ τ ∧ ∀ i, (i < lo ∨ hi ≤ i) → τ.1 r i = σ.1 r i
section LKD
variable {σ τ υ : Mem} {lf : Nat → Nat → Bool} {nb nk ns ng P bl aw n0 n1 r lo hi : Nat} {st t0 t1 kd mk mn bs sb sm gt gk gb f : Nat → Nat} {ma sh : Nat → Nat → Nat}
theorem MR.of (h : MF σ τ) : MR r lo hi σ τ ∨ r ∈ [64, 74, 75, 76, 77] := by
  by_cases c : r ∈ [64, 74, 75, 76, 77]
  · exact Or.inr c
  · exact Or.inl ⟨h.toX.wide (fun q hq => List.mem_cons_of_mem _ hq) (by simp), fun i _ => by rw [h.1 r c]⟩
theorem MR.mf (h : MR r lo hi σ τ) (g : MF τ υ) (hr : r ∉ [64, 74, 75, 76, 77]) : MR r lo hi σ υ := ⟨h.1.tr (g.toX.wide (fun q hq => List.mem_cons_of_mem _ hq) (by simp)), fun i hi => by rw [g.1 r hr]; exact h.2 i hi⟩
theorem MR.ms {i : Nat} {x : Int32} (h : MR r lo hi σ τ) (h1 : lo ≤ i) (h2 : i < hi) (h64 : r ≠ 64) : MR r lo hi σ (ms τ r i x) := ⟨h.1.row (by simp) h64, fun j hj => by rw [ms_same, upd_n (by omega)]; exact h.2 j hj⟩
theorem MR.start (h : MF σ τ) (hr : r ∉ [64, 74, 75, 76, 77]) : MR r lo hi σ τ := ⟨h.toX.wide (fun q hq => List.mem_cons_of_mem _ hq) (by simp), fun i _ => by rw [h.1 r hr]⟩
theorem MR.back (h : MR r lo hi σ τ) (he : ∀ i, lo ≤ i → i < hi → τ.1 r i = σ.1 r i) : MF σ τ := by
  refine ⟨fun q hq => ?_, h.1.2.1, h.1.2.2⟩
  by_cases c : q = r
  · rw [c]
    funext i
    by_cases c2 : lo ≤ i ∧ i < hi
    · exact he i c2.1 c2.2
    · exact h.2 i (by omega)
  · refine h.1.1 q (fun e => hq (by rw [e]; simp)) (fun z => ?_)
    rcases List.mem_cons.mp z with z | z
    · exact c z
    · exact hq (List.mem_cons_of_mem _ z)
theorem MX.fld' {rs is : List Nat} {i : Nat} (h : MX rs is σ τ) (hi : i ∉ is) : τ.1 64 i = σ.1 64 i := h.2.1 i hi
theorem Mo.fx {rs is : List Nat} (h : Mo σ bl nb aw) (f : MX rs is σ τ) (h1 : 13 ∉ is) (h2 : 14 ∉ is) : Mo τ bl nb aw := by
  unfold Mo at h ⊢
  rw [f.2.1 13 h1, f.2.1 14 h2]
  exact h
theorem Mb_mk {b v : Nat} (h : Mb σ nb kd mk mn) (e7 : τ.1 64 7 = σ.1 64 7) (hv : v < 6) (ev : τ.1 71 (3 * b + 1) = nI v) (ho : ∀ i, (i < 3 * b + 1 ∨ 3 * b + 2 ≤ i) → τ.1 71 i = σ.1 71 i) : Mb τ nb kd (un mk b v) mn := by
  refine ⟨h.1, by rw [e7]; exact h.2.1, fun q hq => ?_⟩
  obtain ⟨h0, h1, h2, l0, l1, l2⟩ := h.2.2 q hq
  by_cases c : q = b
  · subst c
    exact ⟨by rw [ho _ (by omega)]; exact h0, by rw [un_s]; exact ev, by rw [ho _ (by omega)]; exact h2, l0, by rw [un_s]; exact hv, l2⟩
  · exact ⟨by rw [ho _ (by omega)]; exact h0, by rw [un_n c, ho _ (by omega)]; exact h1, by rw [ho _ (by omega)]; exact h2, l0, by rw [un_n c]; exact l1, l2⟩
theorem Mb_mn {b v : Nat} (h : Mb σ nb kd mk mn) (e7 : τ.1 64 7 = σ.1 64 7) (hv : v < 10) (ev : τ.1 71 (3 * b + 2) = nI v) (ho : ∀ i, (i < 3 * b + 2 ∨ 3 * b + 3 ≤ i) → τ.1 71 i = σ.1 71 i) : Mb τ nb kd mk (un mn b v) := by
  refine ⟨h.1, by rw [e7]; exact h.2.1, fun q hq => ?_⟩
  obtain ⟨h0, h1, h2, l0, l1, l2⟩ := h.2.2 q hq
  by_cases c : q = b
  · subst c
    exact ⟨by rw [ho _ (by omega)]; exact h0, by rw [ho _ (by omega)]; exact h1, by rw [un_s]; exact ev, l0, l1, by rw [un_s]; exact hv⟩
  · exact ⟨by rw [ho _ (by omega)]; exact h0, by rw [ho _ (by omega)]; exact h1, by rw [un_n c, ho _ (by omega)]; exact h2, l0, l1, by rw [un_n c]; exact l2⟩
theorem Mk_set {k s : Nat} (h : Mk σ nk ma bs) (e9 : τ.1 64 9 = σ.1 64 9) (hf : ∀ m, m < 6 → τ.1 72 (7 * k + m) = nI (f m) ∧ f m < 100) (hs : τ.1 72 (7 * k + 6) = nI s) (hs2 : s < 10) (ho : ∀ i, (i < 7 * k ∨ 7 * k + 7 ≤ i) → τ.1 72 i = σ.1 72 i) : Mk τ nk (un ma k f) (un bs k s) := by
  refine ⟨h.1, by rw [e9]; exact h.2.1, fun q hq => ?_⟩
  obtain ⟨h0, h1, h2⟩ := h.2.2 q hq
  by_cases c : q = k
  · subst c
    rw [un_s, un_s]
    exact ⟨hf, hs, hs2⟩
  · rw [un_n c, un_n c]
    exact ⟨fun m hm => by rw [ho _ (by omega)]; exact h0 m hm, by rw [ho _ (by omega)]; exact h1, h2⟩
theorem MW.mark {b v : Nat} (M : MW σ nb kd mk mn nk ma bs ns sb sm ng gt gk gb) (R : MR 71 (3 * b + 1) (3 * b + 2) σ τ) (hv : v < 6) (ev : τ.1 71 (3 * b + 1) = nI v) : MS τ (lfc kd (un mk b v) mn ma (shc sb sm 255 ns)) nk nb bs := MS_no (Mb_mk M.1 (R.1.2.1 7 (by decide)) hv ev R.2) (M.2.1.fx R.1 (by decide) (by decide)) (M.2.2.1.fx R.1 (by decide) (by decide)) (M.2.2.2.1.fx R.1 (by decide) (by decide))
theorem MW.many {b v : Nat} (M : MW σ nb kd mk mn nk ma bs ns sb sm ng gt gk gb) (R : MR 71 (3 * b + 2) (3 * b + 3) σ τ) (hv : v < 10) (ev : τ.1 71 (3 * b + 2) = nI v) : MS τ (lfc kd mk (un mn b v) ma (shc sb sm 255 ns)) nk nb bs := MS_no (Mb_mn M.1 (R.1.2.1 7 (by decide)) hv ev R.2) (M.2.1.fx R.1 (by decide) (by decide)) (M.2.2.1.fx R.1 (by decide) (by decide)) (M.2.2.2.1.fx R.1 (by decide) (by decide))
theorem MW.boat {k s : Nat} (M : MW σ nb kd mk mn nk ma bs ns sb sm ng gt gk gb) (R : MR 72 (7 * k) (7 * k + 7) σ τ) (hf : ∀ m, m < 6 → τ.1 72 (7 * k + m) = nI (f m) ∧ f m < 100) (hs : τ.1 72 (7 * k + 6) = nI s) (hs2 : s < 10) : MS τ (lfc kd mk mn (un ma k f) (shc sb sm 255 ns)) nk nb (un bs k s) := MS_no (M.1.fx R.1 (by decide) (by decide)) (Mk_set M.2.1 (R.1.2.1 9 (by decide)) hf hs hs2 R.2) (M.2.2.1.fx R.1 (by decide) (by decide)) (M.2.2.2.1.fx R.1 (by decide) (by decide))
theorem likedM0_loop {b : Nat} (M : MW σ nb kd mk mn nk ma bs ns sb sm ng gt gk gb) (hg : Gok ng gt gk gb) (hb : b < nb) : ∀ (q j : Nat) (τ : Mem), j ≤ 6 → 6 < j + q → MR 71 (3 * b + 1) (3 * b + 2) σ τ → wp (f_X10_likedOf_b22 q τ (0 : Int32) (nI (3 * b + 1)) (nI (mk b)) (orb 0 (lkM kd mk mn nk ma bs nb ns sb sm ng gt gk gb b) j) (nI j)) (fun o => o.1 = orb 0 (lkM kd mk mn nk ma bs nb ns sb sm ng gt gk gb b) 6 ∧ MF σ o.2) := by
  have b8 := M.1.1
  intro q
  induction q with
  | zero => intro j τ h1 h2; omega
  | succ q ih =>
    intro j τ h1 h2 R
    rw [f_X10_likedOf_b22]
    refine wp_it rfl ?_
    unfold f_X10_likedOf_b35
    rw [show (6 : Int32) = nI 6 from rfl, nI_clamp (show 3 * b + 1 < 2 ^ 31 by omega)]
    refine wp_ite (fun c => ?_) (fun c => ?_)
    · have c' := (nI_leI (by omega) (by omega)).mp c
      have e : j = 6 := by omega
      subst e
      refine wp_ckN (by omega) (by decide) (wp_lt (wp_some.mpr ⟨rfl, (R.ms (by omega) (by omega) (by decide)).back (fun i h1 h2 => ?_)⟩))
      have e : i = 3 * b + 1 := by omega
      rw [e, ms_same, upd_s, (M.1.2.2 b hb).2.1]
    · have hj := nI_not_le c (by omega) (by omega)
      have R2 : MR 71 (3 * b + 1) (3 * b + 2) σ (ms τ 71 (3 * b + 1) (nI j)) := R.ms (by omega) (by omega) (by decide)
      have S := M.mark R2 hj (by rw [ms_same, upd_s])
      refine wp_ckN (by omega) (by decide) (wp_lt (wp_bi (wp_mono (seen_wp S (M.2.2.2.2.fx R2.1 (by decide) (by decide)) hg) (fun o h => ?_))))
      unfold f_X10_likedOf_b63
      have I := ih (j + 1) o.2 (by omega) (by omega) (R2.mf h.2 (by decide))
      rw [orb] at I
      have eK : lkM kd mk mn nk ma bs nb ns sb sm ng gt gk gb b j = seesB (lfc kd (un mk b j) mn ma (shc sb sm 255 ns)) nk nb bs ng gt gk gb := rfl
      rw [eK] at I
      rw [h.1, nI_1]
      cases hv : seesB (lfc kd (un mk b j) mn ma (shc sb sm 255 ns)) nk nb bs ng gt gk gb with
      | true =>
        rw [hv, if_pos rfl] at I
        exact wp_ie (by decide) I
      | false =>
        rw [hv, if_neg (by decide)] at I
        refine wp_it (by decide) ?_
        rw [Int32.or_zero]
        exact I
theorem likedM1_loop {b : Nat} (M : MW σ nb kd mk mn nk ma bs ns sb sm ng gt gk gb) (hg : Gok ng gt gk gb) (hb : b < nb) : ∀ (q j : Nat) (τ : Mem), 1 ≤ j → j ≤ 10 → 10 < j + q → MR 71 (3 * b + 2) (3 * b + 3) σ τ → wp (f_X10_likedOf_b22 q τ (1 : Int32) (nI (3 * b + 2)) (nI (mn b)) (orb 0 (lkN kd mk mn nk ma bs nb ns sb sm ng gt gk gb b) j) (nI j)) (fun o => o.1 = orb 0 (lkN kd mk mn nk ma bs nb ns sb sm ng gt gk gb b) 10 ∧ MF σ o.2) := by
  have b8 := M.1.1
  intro q
  induction q with
  | zero => intro j τ h0 h1 h2; omega
  | succ q ih =>
    intro j τ h0 h1 h2 R
    rw [f_X10_likedOf_b22]
    refine wp_ie (by decide) ?_
    unfold f_X10_likedOf_b35
    rw [show (10 : Int32) = nI 10 from rfl, nI_clamp (show 3 * b + 2 < 2 ^ 31 by omega)]
    refine wp_ite (fun c => ?_) (fun c => ?_)
    · have c' := (nI_leI (by omega) (by omega)).mp c
      have e : j = 10 := by omega
      subst e
      refine wp_ckN (by omega) (by decide) (wp_lt (wp_some.mpr ⟨rfl, (R.ms (by omega) (by omega) (by decide)).back (fun i h1 h2 => ?_)⟩))
      have e : i = 3 * b + 2 := by omega
      rw [e, ms_same, upd_s, (M.1.2.2 b hb).2.2.1]
    · have hj := nI_not_le c (by omega) (by omega)
      have R2 : MR 71 (3 * b + 2) (3 * b + 3) σ (ms τ 71 (3 * b + 2) (nI j)) := R.ms (by omega) (by omega) (by decide)
      have S := M.many R2 hj (by rw [ms_same, upd_s])
      refine wp_ckN (by omega) (by decide) (wp_lt (wp_bi (wp_mono (seen_wp S (M.2.2.2.2.fx R2.1 (by decide) (by decide)) hg) (fun o h => ?_))))
      unfold f_X10_likedOf_b63
      have I := ih (j + 1) o.2 (by omega) (by omega) (by omega) (R2.mf h.2 (by decide))
      rw [orb] at I
      have eK : lkN kd mk mn nk ma bs nb ns sb sm ng gt gk gb b j = seesB (lfc kd mk (un mn b j) ma (shc sb sm 255 ns)) nk nb bs ng gt gk gb := by
        rw [lkN, decide_eq_true h0, Bool.true_and]
      rw [eK] at I
      rw [h.1, nI_1]
      cases hv : seesB (lfc kd mk (un mn b j) ma (shc sb sm 255 ns)) nk nb bs ng gt gk gb with
      | true =>
        rw [hv, if_pos rfl] at I
        exact wp_ie (by decide) I
      | false =>
        rw [hv, if_neg (by decide)] at I
        refine wp_it (by decide) ?_
        rw [Int32.or_zero]
        exact I
def lkv (kd mk mn : Nat → Nat) (nk : Nat) (ma : Nat → Nat → Nat) (bs : Nat → Nat) (nb ns : Nat) (sb sm : Nat → Nat) (ng : Nat) (gt gk gb : Nat → Nat) (b w : Nat) : Int32 := if w = 0 then orb 0 (lkM kd mk mn nk ma bs nb ns sb sm ng gt gk gb b) 6 else orb 0 (lkN kd mk mn nk ma bs nb ns sb sm ng gt gk gb b) 10
theorem likedOf_wp {b w : Nat} (M : MW σ nb kd mk mn nk ma bs ns sb sm ng gt gk gb) (hg : Gok ng gt gk gb) (hb : b < nb) (hw : w < 2) : wp (f_X10_likedOf σ (nI b) (nI w)) (fun o => o.1 = lkv kd mk mn nk ma bs nb ns sb sm ng gt gk gb b w ∧ MF σ o.2) := by
  have b8 := M.1.1
  unfold f_X10_likedOf lkv
  have ex : (3 : Int32) * nI b + 1 + nI w = nI (3 * b + 1 + w) := by rw [nI_lit 3, pk_mul, nI_1, nI_add]
  rw [ex, nI_clamp (by omega)]
  refine wp_ckN (by omega) (by decide) ?_
  rcases (show w = 0 ∨ w = 1 by omega) with rfl | rfl
  · rw [if_pos rfl, show 3 * b + 1 + 0 = 3 * b + 1 from rfl, (M.1.2.2 b hb).2.1]
    exact likedM0_loop M hg hb 300 0 σ (by omega) (by omega) (MR.start MF.rf (by decide))
  · rw [if_neg (by decide), show 3 * b + 1 + 1 = 3 * b + 2 from rfl, (M.1.2.2 b hb).2.2.1]
    have := likedM1_loop M hg hb 300 1 σ (by omega) (by omega) (by omega) (MR.start MF.rf (by decide))
    rw [orb_lkN1] at this
    exact this
theorem Fr.sc {rs : List Nat} (f : Fr rs σ τ) (h0 : ∀ r, r ∈ rs → r ∈ [49, 52, 53, 54, 55, 56, 57, 60, 61, 62, 63]) : MX SC SI σ τ := ((f.wide h0).toX (by decide)).wide (by decide) (by decide)
theorem op_liked (h : INV σ) (x y : Int32) : wp (f_X9_liked σ x y) (fun o => wp (f_X10_liked o.2 x y) (fun o2 => o2.1 = o.1 ∧ INV o2.2)) := by
  obtain ⟨n0, t0, n1, t1, ns, sb, sm, ng, gt, gk, gb, hI⟩ := h
  have hI : IN σ n0 t0 n1 t1 ns sb sm ng gt gk gb := hI
  have C := hI.cw
  have b8 := C.1.1
  unfold f_X9_liked f_X10_liked
  rw [show (2 : Int32) = nI 2 from rfl]
  refine wp_bpE (isBridgeC_eq C.1.2.1 (by omega)) ?_
  by_cases c1 : 0 ≤ x.toInt ∧ x.toInt < nbB n0 t0
  · rw [if_pos c1]
    refine wp_ie (by decide) (wp_bpE (within_eq (by decide)) ?_)
    by_cases c2 : 0 ≤ y.toInt ∧ y.toInt < (2 : Nat)
    · rw [if_pos c2]
      obtain ⟨b, hb, rfl⟩ := inr c1
      obtain ⟨w, hw, rfl⟩ := inr c2
      have fin : ∀ (τ : Mem) (v : Int32), IN τ n0 t0 n1 t1 ns sb sm ng gt gk gb → v = lkv (kdB t0) (mkB t0) (mnB t0) (nkK n1 t1) (maK n1 t1) (bsK n1 t1) (nbB n0 t0) ns sb sm ng gt gk gb b w → wp (bv (f_X10_find τ) (fun σ2 => bp (f_X10_isBridge σ2 (nI b)) (fun v4 => if v4 = (0 : Int32) then some ((-2 : Int32), σ2) else bp (f_X10_isTwo σ2 (nI w)) (fun v7 => if v7 = (0 : Int32) then some ((-2 : Int32), σ2) else bi (f_X10_likedOf σ2 (nI b) (nI w)) (fun v11 σ10 => some (v11, σ10)))))) (fun o2 => o2.1 = v ∧ INV o2.2) := by
        intro τ v hI hv
        refine hI.fnd (fun υ f M => wp_bpE (isBridgeM_eq M.1.2.1 (by omega)) ?_)
        rw [if_pos c1]
        refine wp_ie (by decide) (wp_bpE isTwo_eq ?_)
        rw [if_pos c2]
        exact wp_ie (by decide) (wp_bi (wp_mono (likedOf_wp M C.2.2.2.2.1.ok hb hw) (fun o q => wp_some.mpr ⟨q.1.trans hv.symm, hI.end2 f q.2⟩)))
      refine wp_ie (by decide) ?_
      rcases (show w = 0 ∨ w = 1 by omega) with rfl | rfl
      · exact wp_it rfl (wp_bi (wp_mono (likedMarks_wp C hb) (fun o q => wp_some.mpr (fin o.2 o.1 (hI.keep (q.2.sc (by decide))) (q.1.trans (if_pos rfl).symm)))))
      · exact wp_ie (by decide) (wp_bi (wp_mono (likedManies_wp C hb) (fun o q => wp_some.mpr (fin o.2 o.1 (hI.keep (q.2.sc (by decide))) (q.1.trans (if_neg (by decide)).symm)))))
    · rw [if_neg c2]
      refine wp_it rfl (wp_some.mpr (hI.fnd (fun τ f M => wp_bpE (isBridgeM_eq M.1.2.1 (by omega)) ?_)))
      rw [if_pos c1]
      refine wp_ie (by decide) (wp_bpE isTwo_eq ?_)
      rw [if_neg c2]
      exact wp_it rfl (wp_some.mpr ⟨rfl, hI.end f⟩)
  · rw [if_neg c1]
    refine wp_it rfl (wp_some.mpr (hI.fnd (fun τ f M => wp_bpE (isBridgeM_eq M.1.2.1 (by omega)) ?_)))
    rw [if_neg c1]
    exact wp_it rfl (wp_some.mpr ⟨rfl, hI.end f⟩)
-- a boat with another load
theorem try_wp {k : Nat} (C : CW σ nb kd mk mn nk ma bs ns sb sm ng gt gk gb) (hk : k < nk) (hL : rw6 σ 62 f) : wp (f_X9_tryLoad σ (nI k)) (fun υ => Fr [52, 53, 54, 55, 56, 57] σ υ ∧ Vok υ 52 (lfc kd mk mn (un ma k f) (shc sb sm 255 ns)) nk nb bs) := by
  have k8 := C.2.1.1
  refine wp_mono (tryLoad_wp (g := shc sb sm 255 ns k) C.1 C.V.1 hk hL (fun m hm => ?_)) (fun υ h => ⟨h.1, ?_⟩)
  · obtain ⟨e, l⟩ := C.2.2.2.1 k (by omega) m hm
    exact ⟨e, by omega⟩
  · have e : (fun p i => if i = k then lrl (kd p) (mk p) (mn p) (decide (p % 2 = 0)) f (shc sb sm 255 ns k) else lfc kd mk mn ma (shc sb sm 255 ns) p i) = lfc kd mk mn (un ma k f) (shc sb sm 255 ns) := by
      funext p i
      by_cases c : i = k
      · rw [if_pos c, lfc, c, un_s]
      · rw [if_neg c, lfc, lfc, un_n c]
    have := h.2
    rw [e] at this
    exact this
theorem loadAs_wp {k : Nat} (C : CW σ nb kd mk mn nk ma bs ns sb sm ng gt gk gb) (hk : k < nk) : wp (f_X9_loadAsCarried σ (nI k)) (fun υ => Fr [62] σ υ ∧ rw6 υ 62 (ma k)) := by
  have k8 := C.2.1.1
  unfold f_X9_loadAsCarried
  rw [nI_clamp (by omega), c0, show (6 : Int32) = nI 6 from rfl]
  refine wp_ckN (by omega) (by decide) (wp_cp0 (by decide) (by decide) (by decide) (wp_lt (wp_some.mpr ⟨Fr.rf.mw (by simp), fun m hm => ?_⟩)))
  rw [mw_same, nI_clamp (by decide), cpy8 hm]
  have := (C.2.1.2.2 k hk).1 m hm
  exact ⟨this.1, by omega⟩
abbrev more (f : Nat → Nat) (m : Nat) : Nat → Nat := un f m (f m + 1)
theorem rw6.mr {m : Nat} (h : rw6 σ 62 f) (hf : ∀ i, f i ≤ 90) : rw6 (ms σ 62 m (nI (f m + 1))) 62 (more f m) := fun i hi => by
  rw [ms_same]
  by_cases c : i = m
  · rw [c, upd_s, more, un_s]
    have := hf m
    exact ⟨rfl, by omega⟩
  · rw [upd_n c, more, un_n c]
    exact h i hi
def udf (kd mk mn : Nat → Nat) (nk : Nat) (ma : Nat → Nat → Nat) (bs : Nat → Nat) (nb ns : Nat) (sb sm : Nat → Nat) (ng : Nat) (gt gk gb : Nat → Nat) (k m : Nat) : Bool := seesB (lfc kd mk mn (un ma k (more (ma k) m)) (shc sb sm 255 ns)) nk nb bs ng gt gk gb
def udv (kd mk mn : Nat → Nat) (nk : Nat) (ma : Nat → Nat → Nat) (bs : Nat → Nat) (nb ns : Nat) (sb sm : Nat → Nat) (ng : Nat) (gt gk gb : Nat → Nat) (k : Nat) : Int32 := orb (if seesB (lfc kd mk mn ma (shc sb sm 255 ns)) nk nb bs ng gt gk gb = true then 64 else 0) (udf kd mk mn nk ma bs nb ns sb sm ng gt gk gb k) 6
theorem nI_dec (n : Nat) : nI (n + 1) - 1 = nI n := by rw [show (1 : Int32) = nI 1 from rfl, pk_sub (by omega)]; rfl
theorem underC_loop {k : Nat} {x : Int32} (hk : k < nk) (hma : ∀ k m, ma k m ≤ 6) : ∀ (q j : Nat) (σ : Mem), CW σ nb kd mk mn nk ma bs ns sb sm ng gt gk gb → rw6 σ 62 (ma k) → j ≤ 6 → 6 < j + q → wp (f_X9_under_b39 q σ (nI k) (orb x (udf kd mk mn nk ma bs nb ns sb sm ng gt gk gb k) j) (nI j)) (fun o => o.1 = orb x (udf kd mk mn nk ma bs nb ns sb sm ng gt gk gb k) 6 ∧ Fr [52, 53, 54, 55, 56, 57, 62] σ o.2) := by
  intro q
  induction q with
  | zero => intro j σ C L h1 h2; omega
  | succ q ih =>
    intro j σ C L h1 h2
    rw [f_X9_under_b39, show (6 : Int32) = nI 6 from rfl]
    refine wp_ite (fun c => ?_) (fun c => ?_)
    · have c' := (nI_leI (by omega) (by omega)).mp c
      have e : j = 6 := by omega
      subst e
      exact wp_some.mpr ⟨rfl, Fr.rf⟩
    · have hj := nI_not_le c (by omega) (by omega)
      rw [nI_clamp (by omega), (L j hj).1, nI_1]
      have L2 := L.mr (m := j) (fun i => by have := hma k i; omega)
      have F1 : Fr [52, 53, 54, 55, 56, 57, 62] σ (ms σ 62 j (nI (ma k j + 1))) := Fr.rf.ms (by simp)
      refine wp_ckN hj (by decide) (wp_ckN hj (by decide) (wp_lt (wp_bv (wp_mono (try_wp (C.fr F1 (by decide)) hk L2) (fun υ h => ?_)))))
      have F2 := F1.tr (h.1.wide (by decide))
      have e62 : υ.1 62 j = nI (ma k j + 1) := by rw [h.1.1 62 (by decide), ms_same, upd_s]
      rw [e62, nI_dec]
      have F3 : Fr [52, 53, 54, 55, 56, 57, 62] σ (ms υ 62 j (nI (ma k j))) := F2.ms (by simp)
      have F4 : Fr [62] υ (ms υ 62 j (nI (ma k j))) := Fr.rf.ms (by simp)
      have C3 := C.fr F3 (by decide)
      have V3 := h.2.fr F4 (by decide) (by decide) (by decide) (by decide) (by decide)
      refine wp_ckN hj (by decide) (wp_ckN hj (by decide) (wp_lt (wp_bpE (hold_eq V3 C3.2.2.2.2.1) ?_)))
      unfold f_X9_under_b90
      rw [nI_1]
      have L3 : rw6 (ms υ 62 j (nI (ma k j))) 62 (ma k) := fun i hi => by
        rw [ms_same]
        by_cases c : i = j
        · rw [c, upd_s]
          exact ⟨rfl, (L j hj).2⟩
        · rw [upd_n c, h.1.1 62 (by decide), ms_same, upd_n c]
          exact L i hi
      have I := ih (j + 1) _ C3 L3 (by omega) (by omega)
      rw [orb] at I
      have eK : udf kd mk mn nk ma bs nb ns sb sm ng gt gk gb k j = seesB (lfc kd mk mn (un ma k (more (ma k) j)) (shc sb sm 255 ns)) nk nb bs ng gt gk gb := rfl
      rw [eK] at I
      cases hv : seesB (lfc kd mk mn (un ma k (more (ma k) j)) (shc sb sm 255 ns)) nk nb bs ng gt gk gb with
      | true =>
        rw [hv, if_pos rfl] at I
        exact wp_ie (by decide) (wp_mono I (fun o q => ⟨q.1, F3.tr q.2⟩))
      | false =>
        rw [hv, if_neg (by decide)] at I
        exact wp_it (by decide) (wp_mono I (fun o q => ⟨q.1, F3.tr q.2⟩))
theorem underC_wp {k : Nat} (C : CW σ nb kd mk mn nk ma bs ns sb sm ng gt gk gb) (hk : k < nk) (hma : ∀ k m, ma k m ≤ 6) : wp (f_X9_under σ (nI k)) (fun o => o.1 = udv kd mk mn nk ma bs nb ns sb sm ng gt gk gb k ∧ Fr [52, 53, 54, 55, 56, 57, 62] σ o.2) := by
  have k8 := C.2.1.1
  unfold f_X9_under f_X9_under_b31 udv
  refine wp_bpE (isBoatC_eq C.2.1.2.1 (by omega)) ?_
  rw [if_pos (nI_rng hk (by omega))]
  refine wp_ie (by decide) (wp_bpE (hold_eq C.V C.2.2.2.2.1) ?_)
  cases hv : seesB (lfc kd mk mn ma (shc sb sm 255 ns)) nk nb bs ng gt gk gb with
  | true => exact wp_ie (by decide) (wp_bv (wp_mono (loadAs_wp C hk) (fun υ h => wp_mono (underC_loop hk hma 300 0 υ (C.fr h.1 (by decide)) h.2 (by omega) (by omega)) (fun o q => ⟨q.1, (h.1.wide (by decide)).tr q.2⟩))))
  | false => exact wp_it (by decide) (wp_bv (wp_mono (loadAs_wp C hk) (fun υ h => wp_mono (underC_loop hk hma 300 0 υ (C.fr h.1 (by decide)) h.2 (by omega) (by omega)) (fun o q => ⟨q.1, (h.1.wide (by decide)).tr q.2⟩))))
theorem underM_loop {k : Nat} {x : Int32} (M : MW σ nb kd mk mn nk ma bs ns sb sm ng gt gk gb) (hg : Gok ng gt gk gb) (hk : k < nk) (hma : ∀ k m, ma k m ≤ 6) : ∀ (q j : Nat) (τ : Mem), j ≤ 6 → 6 < j + q → MF σ τ → wp (f_X10_underOf_b16 q τ (nI k) (orb x (udf kd mk mn nk ma bs nb ns sb sm ng gt gk gb k) j) (nI j)) (fun o => o.1 = orb x (udf kd mk mn nk ma bs nb ns sb sm ng gt gk gb k) 6 ∧ MF σ o.2) := by
  have k8 := M.2.1.1
  obtain ⟨hm72, hb72, hb10⟩ := M.2.1.2.2 k hk
  intro q
  induction q with
  | zero => intro j τ h1 h2; omega
  | succ q ih =>
    intro j τ h1 h2 F
    rw [f_X10_underOf_b16, show (6 : Int32) = nI 6 from rfl]
    refine wp_ite (fun c => ?_) (fun c => ?_)
    · have c' := (nI_leI (by omega) (by omega)).mp c
      have e : j = 6 := by omega
      subst e
      exact wp_some.mpr ⟨rfl, F⟩
    · have hj := nI_not_le c (by omega) (by omega)
      have ex : (7 : Int32) * nI k + nI j = nI (7 * k + j) := by rw [nI_lit 7, pk_mul, nI_add]
      rw [ex, nI_clamp (show 7 * k + j < 2 ^ 31 by omega), F.1 72 (by decide), (hm72 j hj).1, nI_1]
      have R : MR 72 (7 * k) (7 * k + 7) σ (ms τ 72 (7 * k + j) (nI (ma k j + 1))) := (MR.start F (by decide)).ms (by omega) (by omega) (by decide)
      have S := M.boat (f := more (ma k) j) (s := bs k) R (fun m hm => by
        rw [ms_same]
        by_cases c : m = j
        · rw [c, upd_s, more, un_s]
          have := hma k j
          exact ⟨rfl, by omega⟩
        · rw [upd_n (by omega), more, un_n c, F.1 72 (by decide)]
          exact hm72 m hm) (by rw [ms_same, upd_n (by omega), F.1 72 (by decide)]; exact hb72) hb10
      rw [un_self] at S
      refine wp_ckN (by omega) (by decide) (wp_ckN (by omega) (by decide) (wp_lt (wp_bi (wp_mono (seen_wp S (M.2.2.2.2.fx R.1 (by decide) (by decide)) hg) (fun o h => ?_)))))
      unfold f_X10_underOf_b52
      have e72 : o.2.1 72 (7 * k + j) = nI (ma k j + 1) := by rw [h.2.1 72 (by decide), ms_same, upd_s]
      rw [ex, nI_clamp (show 7 * k + j < 2 ^ 31 by omega), e72, nI_dec, h.1, nI_1]
      have B : MF σ (ms o.2 72 (7 * k + j) (nI (ma k j))) := ((R.mf h.2 (by decide)).ms (by omega) (by omega) (by decide)).back (fun i h1 h2 => by
        rw [ms_same]
        by_cases c : i = 7 * k + j
        · rw [c, upd_s, (hm72 j hj).1]
        · rw [upd_n c, h.2.1 72 (by decide), ms_same, upd_n c, F.1 72 (by decide)])
      have I := ih (j + 1) _ (by omega) (by omega) B
      rw [orb] at I
      have eK : udf kd mk mn nk ma bs nb ns sb sm ng gt gk gb k j = seesB (lfc kd mk mn (un ma k (more (ma k) j)) (shc sb sm 255 ns)) nk nb bs ng gt gk gb := rfl
      rw [eK] at I
      cases hv : seesB (lfc kd mk mn (un ma k (more (ma k) j)) (shc sb sm 255 ns)) nk nb bs ng gt gk gb with
      | true =>
        rw [hv, if_pos rfl] at I
        exact wp_ie (by decide) (wp_ckN (by omega) (by decide) (wp_ckN (by omega) (by decide) (wp_lt I)))
      | false =>
        rw [hv, if_neg (by decide)] at I
        refine wp_it (by decide) (wp_ckN (by omega) (by decide) (wp_ckN (by omega) (by decide) (wp_lt ?_)))
        rw [Int32.or_zero]
        exact I
theorem underOf_wp {k : Nat} (M : MW σ nb kd mk mn nk ma bs ns sb sm ng gt gk gb) (hg : Gok ng gt gk gb) (hk : k < nk) (hma : ∀ k m, ma k m ≤ 6) : wp (f_X10_underOf σ (nI k)) (fun o => o.1 = udv kd mk mn nk ma bs nb ns sb sm ng gt gk gb k ∧ MF σ o.2) := by
  unfold f_X10_underOf f_X10_underOf_b13 udv
  refine wp_bi (wp_mono (seen_wp M.ms M.2.2.2.2 hg) (fun o h => ?_))
  rw [h.1]
  cases hv : seesB (lfc kd mk mn ma (shc sb sm 255 ns)) nk nb bs ng gt gk gb with
  | true => exact wp_ie (by decide) (underM_loop M hg hk hma 300 0 o.2 (by omega) (by omega) h.2)
  | false => exact wp_it (by decide) (underM_loop M hg hk hma 300 0 o.2 (by omega) (by omega) h.2)
theorem maK_le {n : Nat} {t : Nat → Nat} (k m : Nat) : maK n t k m ≤ 6 := by
  have h1 := bcnt_le (t := t) (pl := bps n t k) (c := mkc n t (bps n t k)) (m := m)
  have h2 := mkc_le (n := n) (t := t) (pl := bps n t k)
  unfold maK
  omega
theorem op_under (h : INV σ) (x : Int32) : wp (f_X9_under σ x) (fun o => wp (f_X10_under o.2 x) (fun o2 => o2.1 = o.1 ∧ INV o2.2)) := by
  obtain ⟨n0, t0, n1, t1, ns, sb, sm, ng, gt, gk, gb, hI⟩ := h
  have hI : IN σ n0 t0 n1 t1 ns sb sm ng gt gk gb := hI
  have C := hI.cw
  have k8 := C.2.1.1
  by_cases c1 : 0 ≤ x.toInt ∧ x.toInt < nkK n1 t1
  · obtain ⟨k, hk, rfl⟩ := inr c1
    refine wp_mono (underC_wp C hk maK_le) (fun o h => ?_)
    have hI2 := hI.keep (h.2.sc (by decide))
    unfold f_X10_under
    refine hI2.fnd (fun υ f M => wp_bpE (isBoatM_eq M.2.1.2.1 (by omega)) ?_)
    rw [if_pos c1]
    exact wp_ie (by decide) (wp_bi (wp_mono (underOf_wp M C.2.2.2.2.1.ok hk maK_le) (fun o2 q => wp_some.mpr ⟨q.1.trans h.1.symm, hI2.end2 f q.2⟩)))
  · unfold f_X9_under f_X10_under
    refine wp_bpE (isBoatC_eq C.2.1.2.1 (by omega)) ?_
    rw [if_neg c1]
    refine wp_it rfl (wp_some.mpr (hI.fnd (fun τ f M => wp_bpE (isBoatM_eq M.2.1.2.1 (by omega)) ?_)))
    rw [if_neg c1]
    exact wp_it rfl (wp_some.mpr ⟨rfl, hI.end f⟩)
end LKD
