/-! 10l: away -/
def awN (lf : Nat → Nat → Bool) (nk P : Nat) (bs : Nat → Nat) (b : Nat) : Nat := pcb (fun k => decide (k < nk) && decide (sim (fun p k => lf (sd P b p) k) nk (npl P b) bs 100 k = npl P b + 1))
def awW (lf : Nat → Nat → Bool) (nk P : Nat) (bs : Nat → Nat) (b : Nat) : Nat := smn (wts (fun p k => lf (sd P b p) k) nk (npl P b) bs 100) nk
def awS (lf : Nat → Nat → Bool) (nk P : Nat) (bs : Nat → Nat) : Nat → Int32 × Int32 × Int32
  | 0 => ((-1 : Int32), (-1 : Int32), (0 : Int32))
  | j + 1 => if (awS lf nk P bs j).2.1 < nI (awN lf nk P bs j) ∨ (nI (awN lf nk P bs j) = (awS lf nk P bs j).2.1 ∧ ¬ (awS lf nk P bs j).2.2 ≤ nI (awW lf nk P bs j)) then (nI j, nI (awN lf nk P bs j), nI (awW lf nk P bs j)) else awS lf nk P bs j
section AWA
variable {σ τ υ : Mem} {lf : Nat → Nat → Bool} {nb nk ns ng P bl aw n0 n1 r lo hi : Nat} {st t0 t1 kd mk mn bs sb sm gt gk gb f : Nat → Nat} {ma sh : Nat → Nat → Nat}
theorem takeAway_wp {b : Nat} (h : Vin σ 52 lf nk P st) (hb : b < P) : wp (f_X8_takeAway σ 52 (nI b)) (fun τ => Fr [52, 53] σ τ ∧ Vin τ 52 (fun p k => lf (sd P b p) k) nk (npl P b) st) := by
  obtain ⟨p8, k8, e5, e6, hst, hl⟩ := h
  unfold f_X8_takeAway
  rw [e5]
  refine wp_bpE (within_eq (by omega)) ?_
  have e1 : nI P - 1 = nI (P - 1) := by rw [show (1 : Int32) = nI 1 from rfl, pk_sub (by omega)]
  rw [if_pos (nI_rng hb (by omega)), e1]
  refine wp_ie (by decide) (wp_lt ?_)
  have e5' : (ms σ 52 5 (nI (P - 1))).1 52 5 = nI (P - 1) := by rw [ms_same, upd_s]
  rw [e5', pk_sub (show b ≤ P - 1 by omega), nI_1, nI_clamp (show b + 1 < 2 ^ 31 by omega), nI_clamp (show b < 2 ^ 31 by omega), nI_clamp (show P - 1 - b < 2 ^ 31 by omega)]
  refine wp_cp (nI_pos (by omega)) (nI_pos (by omega)) (nI_pos (by omega)) (by rw [nI_clamp (by omega), nI_clamp (by omega)]; omega) (by rw [nI_clamp (by omega), nI_clamp (by omega)]; omega) (wp_lt (wp_some.mpr ⟨(Fr.rf.ms (by simp)).mw (by simp), ?_⟩))
  have en : npl P b = P - 1 := if_pos hb
  rw [en]
  refine ⟨by omega, k8, by rw [mw_ne (by decide)]; exact e5', by rw [mw_ne (by decide), ms_same, upd_n (by decide)]; exact e6, fun k hk => by rw [mw_ne (by decide), ms_ne (by decide)]; exact hst k hk, fun p hp => ?_⟩
  rw [mw_same, ms_ne (by decide)]
  unfold va_cpy
  by_cases c : b ≤ p
  · rw [if_pos (by omega), show b + 1 + (p - b) = p + 1 by omega]
    refine bt_congr (hl (p + 1) (by omega)) (fun k _ => ?_)
    show _ = (decide (k < nk) && lf (sd P b p) k)
    rw [show sd P b p = p + 1 from if_pos ⟨hb, c⟩]
  · rw [if_neg (by omega)]
    refine bt_congr (hl p (by omega)) (fun k _ => ?_)
    show _ = (decide (k < nk) && lf (sd P b p) k)
    rw [show sd P b p = p from if_neg (fun q => c q.2)]
theorem awayC_loop : ∀ (q j : Nat) (σ : Mem), CW σ nb kd mk mn nk ma bs ns sb sm ng gt gk gb → j ≤ nb → nb < j + q → σ.1 61 3 = (awS (lfc kd mk mn ma (shc sb sm 255 ns)) nk nb bs j).1 → σ.1 61 4 = (awS (lfc kd mk mn ma (shc sb sm 255 ns)) nk nb bs j).2.1 →
    wp (f_X9_planAway_b13 q σ (awS (lfc kd mk mn ma (shc sb sm 255 ns)) nk nb bs j).2.2 (nI j)) (fun υ => Fr [52, 53, 54, 55, 56, 57, 61] σ υ ∧ υ.1 61 3 = (awS (lfc kd mk mn ma (shc sb sm 255 ns)) nk nb bs nb).1 ∧ υ.1 61 4 = (awS (lfc kd mk mn ma (shc sb sm 255 ns)) nk nb bs nb).2.1) := by
  intro q
  induction q with
  | zero => intro j σ C h1 h2; omega
  | succ q ih =>
    intro j σ C h1 h2 e3 e4
    have b8 := C.1.1
    rw [f_X9_planAway_b13, C.1.2.1]
    refine wp_ite (fun c => ?_) (fun c => ?_)
    · have c' := (nI_leI (by omega) (by omega)).mp c
      have e : j = nb := by omega
      subst e
      exact wp_some.mpr ⟨Fr.rf, e3, e4⟩
    · have hj := nI_not_le c (by omega) (by omega)
      refine wp_bv (wp_mono (takeOver_wp C.V.1) (fun τ1 h1 => wp_bv (wp_mono (takeAway_wp h1.2 hj) (fun τ2 h2 => wp_bv (Vin_run h2.2 (fun υ g hO => ?_))))))
      have F : Fr [52, 53, 54, 55, 56, 57, 61] σ υ := ((h1.1.wide (by decide)).tr (h2.1.wide (by decide))).tr (g.wide (by decide))
      have e61 : υ.1 61 = σ.1 61 := by rw [g.1 61 (by decide), h2.1.1 61 (by decide), h1.1.1 61 (by decide)]
      have C2 := C.fr F (by decide)
      refine wp_bpE (throughCount_eq hO) (wp_bpE (allWait_eq hO) ?_)
      show wp (if υ.1 61 4 < nI (awN (lfc kd mk mn ma (shc sb sm 255 ns)) nk nb bs j) then f_X9_planAway_b95 (f_X9_planAway_b13 q) υ (nI j) (nI (awN (lfc kd mk mn ma (shc sb sm 255 ns)) nk nb bs j)) (nI (awW (lfc kd mk mn ma (shc sb sm 255 ns)) nk nb bs j)) else (if nI (awN (lfc kd mk mn ma (shc sb sm 255 ns)) nk nb bs j) = υ.1 61 4 then (if (awS (lfc kd mk mn ma (shc sb sm 255 ns)) nk nb bs j).2.2 ≤ nI (awW (lfc kd mk mn ma (shc sb sm 255 ns)) nk nb bs j) then f_X9_planAway_b107 (f_X9_planAway_b13 q) υ (awS (lfc kd mk mn ma (shc sb sm 255 ns)) nk nb bs j).2.2 (nI j) else f_X9_planAway_b95 (f_X9_planAway_b13 q) υ (nI j) (nI (awN (lfc kd mk mn ma (shc sb sm 255 ns)) nk nb bs j)) (nI (awW (lfc kd mk mn ma (shc sb sm 255 ns)) nk nb bs j))) else f_X9_planAway_b107 (f_X9_planAway_b13 q) υ (awS (lfc kd mk mn ma (shc sb sm 255 ns)) nk nb bs j).2.2 (nI j))) _
      rw [e61, e4]
      unfold f_X9_planAway_b95 f_X9_planAway_b107 f_X3_setBest
      rw [nI_1]
      have set : ((awS (lfc kd mk mn ma (shc sb sm 255 ns)) nk nb bs j).2.1 < nI (awN (lfc kd mk mn ma (shc sb sm 255 ns)) nk nb bs j) ∨ (nI (awN (lfc kd mk mn ma (shc sb sm 255 ns)) nk nb bs j) = (awS (lfc kd mk mn ma (shc sb sm 255 ns)) nk nb bs j).2.1 ∧ ¬ (awS (lfc kd mk mn ma (shc sb sm 255 ns)) nk nb bs j).2.2 ≤ nI (awW (lfc kd mk mn ma (shc sb sm 255 ns)) nk nb bs j))) → wp (f_X9_planAway_b13 q (ms (ms υ 61 3 (nI j)) 61 4 (nI (awN (lfc kd mk mn ma (shc sb sm 255 ns)) nk nb bs j))) (nI (awW (lfc kd mk mn ma (shc sb sm 255 ns)) nk nb bs j)) (nI (j + 1))) (fun υ => Fr [52, 53, 54, 55, 56, 57, 61] σ υ ∧ υ.1 61 3 = (awS (lfc kd mk mn ma (shc sb sm 255 ns)) nk nb bs nb).1 ∧ υ.1 61 4 = (awS (lfc kd mk mn ma (shc sb sm 255 ns)) nk nb bs nb).2.1) := by
        intro hc
        have F2 : Fr [61] υ (ms (ms υ 61 3 (nI j)) 61 4 (nI (awN (lfc kd mk mn ma (shc sb sm 255 ns)) nk nb bs j))) := (Fr.rf.ms (by simp)).ms (by simp)
        have I := ih (j + 1) _ (C2.fr F2 (by decide)) (by omega) (by omega)
        rw [awS, if_pos hc] at I
        exact wp_mono (I (by rw [ms_same, upd_n (by decide), ms_same, upd_s]) (by rw [ms_same, upd_s])) (fun υ2 h => ⟨(F.tr (F2.wide (by decide))).tr h.1, h.2⟩)
      have keep : ¬ ((awS (lfc kd mk mn ma (shc sb sm 255 ns)) nk nb bs j).2.1 < nI (awN (lfc kd mk mn ma (shc sb sm 255 ns)) nk nb bs j) ∨ (nI (awN (lfc kd mk mn ma (shc sb sm 255 ns)) nk nb bs j) = (awS (lfc kd mk mn ma (shc sb sm 255 ns)) nk nb bs j).2.1 ∧ ¬ (awS (lfc kd mk mn ma (shc sb sm 255 ns)) nk nb bs j).2.2 ≤ nI (awW (lfc kd mk mn ma (shc sb sm 255 ns)) nk nb bs j))) → wp (f_X9_planAway_b13 q υ (awS (lfc kd mk mn ma (shc sb sm 255 ns)) nk nb bs j).2.2 (nI (j + 1))) (fun υ => Fr [52, 53, 54, 55, 56, 57, 61] σ υ ∧ υ.1 61 3 = (awS (lfc kd mk mn ma (shc sb sm 255 ns)) nk nb bs nb).1 ∧ υ.1 61 4 = (awS (lfc kd mk mn ma (shc sb sm 255 ns)) nk nb bs nb).2.1) := by
        intro hc
        have I := ih (j + 1) υ C2 (by omega) (by omega)
        rw [awS, if_neg hc] at I
        exact wp_mono (I (by rw [e61]; exact e3) (by rw [e61]; exact e4)) (fun υ2 h => ⟨F.tr h.1, h.2⟩)
      refine wp_ite (fun c1 => wp_bv (wp_lt (wp_lt (wp_some.mpr (set (Or.inl c1)))))) (fun c1 => wp_ite (fun c2 => wp_ite (fun c3 => keep (fun z => ?_)) (fun c3 => wp_bv (wp_lt (wp_lt (wp_some.mpr (set (Or.inr ⟨c2, c3⟩))))))) (fun c2 => keep (fun z => ?_)))
      · rcases z with z | z
        · exact c1 z
        · exact z.2 c3
      · rcases z with z | z
        · exact c1 z
        · exact c2 z.1
theorem planAway_wp (C : CW σ nb kd mk mn nk ma bs ns sb sm ng gt gk gb) : wp (f_X9_planAway σ) (fun υ => Fr [52, 53, 54, 55, 56, 57, 61] σ υ ∧ υ.1 61 3 = (awS (lfc kd mk mn ma (shc sb sm 255 ns)) nk nb bs nb).1 ∧ υ.1 61 4 = (awS (lfc kd mk mn ma (shc sb sm 255 ns)) nk nb bs nb).2.1) := by
  have b8 := C.1.1
  unfold f_X9_planAway f_X3_setBest
  refine wp_bv (wp_lt (wp_lt (wp_some.mpr ?_)))
  have F : Fr [61] σ (ms (ms σ 61 3 (-1 : Int32)) 61 4 (-1 : Int32)) := (Fr.rf.ms (by simp)).ms (by simp)
  exact wp_mono (awayC_loop 300 0 _ (C.fr F (by decide)) (by omega) (by omega) (by rw [ms_same, upd_n (by decide), ms_same, upd_s]; rfl) (by rw [ms_same, upd_s]; rfl)) (fun υ h => ⟨(F.wide (by decide)).tr h.1, h.2⟩)
theorem awayM_loop {w : Nat} (M : MW σ nb kd mk mn nk ma bs ns sb sm ng gt gk gb) (hw : w < 2) : ∀ (q j : Nat) (τ : Mem), MX [74, 75, 76, 77] [14, 19, 20, 21] σ τ → j ≤ nb → nb < j + q →
    wp (f_X10_awayOf_b10 q τ (nI w) (awS (lfc kd mk mn ma (shc sb sm 255 ns)) nk nb bs j).1 (awS (lfc kd mk mn ma (shc sb sm 255 ns)) nk nb bs j).2.1 (awS (lfc kd mk mn ma (shc sb sm 255 ns)) nk nb bs j).2.2 (nI j)) (fun o => o.1 = (if w = 0 then (awS (lfc kd mk mn ma (shc sb sm 255 ns)) nk nb bs nb).1 else (awS (lfc kd mk mn ma (shc sb sm 255 ns)) nk nb bs nb).2.1) ∧ MF σ o.2) := by
  have k8 := M.2.1.1
  have b8 := M.1.1
  intro q
  induction q with
  | zero => intro j τ X h1 h2; omega
  | succ q ih =>
    intro j τ X h1 h2
    rw [f_X10_awayOf_b10, X.2.1 7 (by decide), M.1.2.1]
    refine wp_ite (fun c => ?_) (fun c => ?_)
    · have c' := (nI_leI (by omega) (by omega)).mp c
      have e : j = nb := by omega
      subst e
      have B : MF σ (ms τ 64 14 (-1 : Int32)) := by
        refine ⟨fun r hr => ?_, fun i hi => ?_, X.2.2⟩
        · rw [ms_ne (fun e => hr (by rw [e]; simp))]
          exact X.1 r (fun e => hr (by rw [e]; simp)) (fun z => hr (List.mem_cons_of_mem _ z))
        · rw [ms_same]
          by_cases c : i = 14
          · rw [c, upd_s]
            have := M.2.2.2.1.2.2
            rw [if_neg (Nat.lt_irrefl _)] at this
            exact this.symm
          · rw [upd_n c]
            exact X.2.1 i (fun z => by rcases List.mem_cons.mp z with z | z; exact c z; exact hi z)
      refine wp_lt ?_
      rcases (show w = 0 ∨ w = 1 by omega) with rfl | rfl
      · exact wp_it rfl (wp_some.mpr ⟨by rw [if_pos rfl], B⟩)
      · exact wp_ie (by decide) (wp_some.mpr ⟨by rw [if_neg (by decide)], B⟩)
    · have hj := nI_not_le c (by omega) (by omega)
      have X2 : MX [74, 75, 76, 77] [14, 19, 20, 21] σ (ms τ 64 14 (nI j)) := X.fld (by simp)
      have O2 : Mo (ms τ 64 14 (nI j)) 255 nb j := ⟨by rw [ms_same, upd_n (by decide), X.2.1 13 (by decide)]; exact M.2.2.2.1.1, by decide, by rw [ms_same, upd_s, if_pos hj]⟩
      have S := MS_of (M.1.fx X2 (by decide) (by decide)) (M.2.1.fx X2 (by decide) (by decide)) (M.2.2.1.fx X2 (by decide) (by decide)) O2
      rw [show (99 : Int32) = nI 99 from rfl]
      refine wp_lt (wp_bv (wp_mono (lives_wp (by decide) S) (fun υ g => ?_)))
      have p8 := S.at.1
      refine wp_bp (wp_mono (throughNow_wp (S.fr g.1) g.2.1 (fun k hk => by
        have := sim_le9 (lf := fun p k => lfc kd mk mn ma (shc sb sm 255 ns) (sd nb j p) k) (nk := nk) (st := bs) (t := 99 + 1) (k := k) p8
        omega)) (fun v hv => wp_bpE (bt_ones hv) (wp_bpE (allWaitM_eq k8 (by rw [g.1.2.1 9 (by decide), X2.2.1 9 (by decide)]; exact M.2.1.2.1) g.2.2.2.2.1) ?_)))
      have X3 : MX [74, 75, 76, 77] [14, 19, 20, 21] σ υ := X2.tr (g.1.toX.wide (by simp) (by simp))
      generalize hN : nI (pcb (fun k => decide (k < nk) && decide (sim (fun p k => lfc kd mk mn ma (shc sb sm 255 ns) (sd nb j p) k) nk (npl nb j) bs (99 + 1) k = npl nb j + 1))) = N
      have hN2 : N = nI (awN (lfc kd mk mn ma (shc sb sm 255 ns)) nk nb bs j) := hN.symm
      generalize hW : nI (smn (wts (fun p k => lfc kd mk mn ma (shc sb sm 255 ns) (sd nb j p) k) nk (npl nb j) bs 100) nk) = W
      have hW2 : W = nI (awW (lfc kd mk mn ma (shc sb sm 255 ns)) nk nb bs j) := hW.symm
      have I := ih (j + 1) υ X3 (by omega) (by omega)
      rw [awS, ← hN2, ← hW2] at I
      clear hN hN2 hW hW2
      unfold f_X10_awayOf_b65 f_X10_awayOf_b69 f_X10_awayOf_b70 f_X10_awayOf_b83 f_X10_awayOf_b96 f_X10_awayOf_b109
      rw [nI_1]
      refine wp_ite (fun c1 => ?_) (fun c1 => wp_ite (fun c2 => wp_ite (fun c3 => ?_) (fun c3 => ?_)) (fun c2 => ?_))
      · rw [if_pos (Or.inl c1)] at I
        exact wp_ie (by decide) (wp_ie (by decide) (wp_ie (by decide) I))
      · rw [if_neg (fun z => by rcases z with z | z; exact c1 z; exact z.2 c3)] at I
        exact wp_it rfl (wp_it rfl (wp_it rfl I))
      · rw [if_pos (Or.inr ⟨c2, c3⟩)] at I
        exact wp_ie (by decide) (wp_ie (by decide) (wp_ie (by decide) I))
      · rw [if_neg (fun z => by rcases z with z | z; exact c1 z; exact c2 z.1)] at I
        exact wp_it rfl (wp_it rfl (wp_it rfl I))
def awv (lf : Nat → Nat → Bool) (nk P : Nat) (bs : Nat → Nat) (w : Nat) : Int32 := if w = 0 then (awS lf nk P bs P).1 else (awS lf nk P bs P).2.1
theorem awayOf_wp {w : Nat} (M : MW σ nb kd mk mn nk ma bs ns sb sm ng gt gk gb) (hw : w < 2) : wp (f_X10_awayOf σ (nI w)) (fun o => o.1 = awv (lfc kd mk mn ma (shc sb sm 255 ns)) nk nb bs w ∧ MF σ o.2) := by
  have b8 := M.1.1
  exact awayM_loop M hw 300 0 σ MX.rf (by omega) (by omega)
theorem awayC_wp {w : Nat} (C : CW σ nb kd mk mn nk ma bs ns sb sm ng gt gk gb) (hw : w < 2) : wp (f_X9_away σ (nI w)) (fun o => o.1 = awv (lfc kd mk mn ma (shc sb sm 255 ns)) nk nb bs w ∧ Fr [52, 53, 54, 55, 56, 57, 61] σ o.2) := by
  unfold f_X9_away awv
  rw [show (2 : Int32) = nI 2 from rfl]
  refine wp_bpE (within_eq (by decide)) ?_
  rw [if_pos (nI_rng hw (by decide))]
  refine wp_ie (by decide) (wp_bv (wp_mono (planAway_wp C) (fun υ h => ?_)))
  rcases (show w = 0 ∨ w = 1 by omega) with rfl | rfl
  · exact wp_it rfl (wp_some.mpr ⟨by rw [if_pos rfl]; exact h.2.1, h.1⟩)
  · exact wp_ie (by decide) (wp_some.mpr ⟨by rw [if_neg (by decide)]; exact h.2.2, h.1⟩)
theorem op_away (h : INV σ) (x : Int32) : wp (f_X9_away σ x) (fun o => wp (f_X10_away o.2 x) (fun o2 => o2.1 = o.1 ∧ INV o2.2)) := by
  obtain ⟨n0, t0, n1, t1, ns, sb, sm, ng, gt, gk, gb, hI⟩ := h
  have hI : IN σ n0 t0 n1 t1 ns sb sm ng gt gk gb := hI
  have C := hI.cw
  by_cases c2 : 0 ≤ x.toInt ∧ x.toInt < (2 : Nat)
  · obtain ⟨w, hw, rfl⟩ := inr c2
    refine wp_mono (awayC_wp C hw) (fun o h => ?_)
    have hI2 := hI.keep (h.2.sc (by decide))
    unfold f_X10_away
    refine hI2.fnd (fun υ f M => wp_bpE isTwo_eq ?_)
    rw [if_pos c2]
    exact wp_ie (by decide) (wp_bi (wp_mono (awayOf_wp M hw) (fun o2 q => wp_some.mpr ⟨q.1.trans h.1.symm, hI2.end2 f q.2⟩)))
  · unfold f_X9_away f_X10_away
    rw [show (2 : Int32) = nI 2 from rfl]
    refine wp_bpE (within_eq (by decide)) ?_
    rw [if_neg c2]
    refine wp_it rfl (wp_some.mpr (hI.fnd (fun τ f M => wp_bpE isTwo_eq ?_)))
    rw [if_neg c2]
    exact wp_it rfl (wp_some.mpr ⟨rfl, hI.end f⟩)
end AWA
