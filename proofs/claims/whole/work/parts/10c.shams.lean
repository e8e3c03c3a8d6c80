/-! 10c: sham, back, read, seen, forget -/
abbrev SR : List Nat := [21, 22, 23, 25, 26, 27, 28, 29, 30, 31, 32]
theorem shc_congr {sb sm sb' sm' : Nat → Nat} {bl ns k m : Nat} (h : ∀ i, i < ns → sb i = sb' i ∧ sm i = sm' i) : shc sb sm bl ns k m = shc sb' sm' bl ns k m := smn_congr (fun i hi => by rw [(h i hi).1, (h i hi).2])
theorem shc_succ {sb sm : Nat → Nat} {bl ns k m : Nat} : shc sb sm bl (ns + 1) k m = shc sb sm bl ns k m + if bl.testBit ns = true ∧ sb ns = k ∧ sm ns = m then 1 else 0 := rfl
theorem bit255 : ∀ i, i < 8 → (255 : Nat).testBit i = true := by decide
section SHM
variable {σ σ8 : Mem} {n0 n1 ns ng ms' : Nat} {t0 t1 sb sm gt gk gb ub um : Nat → Nat}
theorem Cs.congr {f g f' g' : Nat → Nat} (h : Cs σ ns f g) (e : ∀ i, i < ns → f i = f' i ∧ g i = g' i) : Cs σ ns f' g' := ⟨h.1, h.2.1, fun i hi => by rw [← (e i hi).1, ← (e i hi).2]; exact h.2.2 i hi⟩
theorem Ms.congr {f g f' g' : Nat → Nat} (h : Ms σ ns f g) (e : ∀ i, i < ns → f i = f' i ∧ g i = g' i) : Ms σ ns f' g' := ⟨h.1, h.2.1, fun i hi => by rw [← (e i hi).1, ← (e i hi).2]; exact h.2.2 i hi⟩
theorem Cc.congr {s s' : Nat → Nat → Nat} (h : Cc σ s) (e : ∀ k m, k < 8 → m < 6 → s k m = s' k m) : Cc σ s' := fun k hk m hm => by rw [← e k m hk hm]; exact h k hk m hm
/-- changed shams, sailed anew -/
theorem resham (a1 : TXT σ n0 t0 n1 t1) (a2 : PAR σ n0 t0 n1 t1) (a3 : SHA σ ns sb sm) (a4 : SEE σ ng gt gk gb) (a5 : OTH σ) (F8 : Fr SR σ σ8) (hC : Cs σ8 ms' ub um) (hc : Cc σ8 (shc ub um 255 ms')) : wp (f_X9_resail σ8) (fun τ => Ms τ ns sb sm ∧ MX [21, 22, 23, 25, 26, 27, 28, 29, 30, 31, 32, 46, 47, 48, 49, 50, 51, 58] [] σ τ ∧ τ.1 21 = σ8.1 21 ∧ ∀ υ, MX [73] [11] τ υ → Ms υ ms' ub um → INV υ) := by
  have hk8 := a2.2.2.2.fr F8 (by decide) (by decide) (fun k hk => by simp only [List.mem_cons, List.not_mem_nil, or_false]; omega)
  have hb8 := a2.2.2.1.fr F8 (by decide) (by decide) (by decide) (by decide)
  refine wp_mono (resail_wp hb8 hk8 hc) (fun τ h => ?_)
  obtain ⟨h1, h2, h3⟩ := h
  have FT : Fr [21, 22, 23, 25, 26, 27, 28, 29, 30, 31, 32, 46, 47, 48, 49, 50, 51, 58] σ τ := (F8.wide (by simp)).tr (h1.wide (by simp))
  have X := FT.toX (by decide)
  refine ⟨a3.2.1.fx X (by decide) (by decide), X, h1.1 21 (by decide), fun υ f hM => ?_⟩
  have F := f.toFr
  refine ⟨n0, t0, n1, t1, ms', ub, um, ng, gt, gk, gb, (a1.fx X (by decide)).fx f (by decide), (a2.fx X (by decide)).fx f (by decide), ⟨(hC.fr h1 (by decide) (by decide) (by decide)).fr F (by decide) (by decide) (by decide), hM, (hc.fr h1 (fun k hk => by simp only [List.mem_cons, List.not_mem_nil, or_false]; omega)).fr F (fun k hk => by simp only [List.mem_cons, List.not_mem_nil, or_false]; omega)⟩, (a4.fx X (by decide) (by decide)).fx f (by decide) (by decide), (a5.fx X (by decide) (by decide)).fx f (by decide) (by decide), h3.fr F (by decide) (by decide) (by decide) (by decide) (by decide), Or.inl ?_⟩
  rw [f.1 58 (by decide) (by decide), h2, upd_s]
theorem mayBe_eq {x y : Int32} : f_X4_mayBe σ x y = some (if (0 ≤ x.toInt ∧ x.toInt < (8 : Nat)) ∧ (0 ≤ y.toInt ∧ y.toInt < (6 : Nat)) then 1 else 0) := by
  unfold f_X4_mayBe
  rw [show (8 : Int32) = nI 8 from rfl, show (6 : Int32) = nI 6 from rfl, within_eq (by decide), bp_some]
  by_cases c : 0 ≤ x.toInt ∧ x.toInt < (8 : Nat)
  · rw [if_pos c, if_neg (show ¬ (1 : Int32) = 0 by decide), within_eq (by decide), bp_some]
    by_cases c2 : 0 ≤ y.toInt ∧ y.toInt < (6 : Nat)
    · rw [if_pos c2, if_pos (show (0 ≤ x.toInt ∧ x.toInt < (8 : Nat)) ∧ (0 ≤ y.toInt ∧ y.toInt < (6 : Nat)) from ⟨c, c2⟩)]; rfl
    · rw [if_neg c2, if_neg (show ¬ ((0 ≤ x.toInt ∧ x.toInt < (8 : Nat)) ∧ (0 ≤ y.toInt ∧ y.toInt < (6 : Nat))) from fun q => c2 q.2)]; rfl
  · rw [if_neg c, if_neg (show ¬ ((0 ≤ x.toInt ∧ x.toInt < (8 : Nat)) ∧ (0 ≤ y.toInt ∧ y.toInt < (6 : Nat))) from fun q => c q.1)]; rfl
theorem mayBe_in {k m : Nat} (hk : k < 8) (hm : m < 6) : f_X4_mayBe σ (nI k) (nI m) = some 1 := by
  rw [mayBe_eq, if_pos (show (0 ≤ (nI k).toInt ∧ (nI k).toInt < (8 : Nat)) ∧ (0 ≤ (nI m).toInt ∧ (nI m).toInt < (6 : Nat)) from ⟨nI_rng hk (by decide), nI_rng hm (by decide)⟩)]
theorem isFullS_eq (h : Cs σ ns sb sm) : f_X4_isFull σ = some (if ns < 8 then 0 else 1) := by
  unfold f_X4_isFull
  have h8 := h.1
  rw [h.2.1, show (8 : Int32) = nI 8 from rfl]
  by_cases c : ns < 8
  · rw [if_pos ((nI_ltI (by omega) (by omega)).mpr c), if_pos c]
  · rw [if_neg (fun q => c ((nI_ltI (by omega) (by omega)).mp q)), if_neg c]
theorem append_wp {k m : Nat} (hC : Cs σ ns sb sm) (hc : Cc σ (shc sb sm 255 ns)) (hn : ns < 8) (hk : k < 8) (hm : m < 6) : wp (f_X4_append σ (nI k) (nI m)) (fun τ => Fr SR σ τ ∧ Cs τ (ns + 1) (up sb ns k) (up sm ns m) ∧ Cc τ (shc (up sb ns k) (up sm ns m) 255 (ns + 1))) := by
  unfold f_X4_append
  refine wp_bpE (isFullS_eq hC) ?_
  rw [if_pos hn]
  refine wp_it rfl (wp_bpE (mayBe_in hk hm) ?_)
  rw [hC.2.1, nI_clamp (show ns < 2 ^ 31 by omega), nI_clamp (show k < 2 ^ 31 by omega), nI_clamp (show m < 2 ^ 31 by omega)]
  refine wp_ie (by decide) (wp_ckN hn (by decide) (wp_lt ?_))
  have e1 : ∀ x, (ms σ 22 ns x).1 21 3 = nI ns := fun x => by rw [ms_ne (by decide)]; exact hC.2.1
  rw [e1, nI_clamp (show ns < 2 ^ 31 by omega)]
  refine wp_ckN hn (by decide) (wp_lt (wp_lt (wp_ckN hk (by decide) (wp_ckN hm (by decide) (wp_ckN hm (by decide) (wp_lt (wp_some.mpr ?_)))))))
  have hin : 25 + k ∈ SR := by simp only [List.mem_cons, List.not_mem_nil, or_false]; omega
  have ec : (ms (ms (ms σ 22 ns (nI k)) 23 ns (nI m)) 21 3 ((ms (ms σ 22 ns (nI k)) 23 ns (nI m)).1 21 3 + 1)).1 (25 + k) = σ.1 (25 + k) := by rw [ms_ne (by omega), ms_ne (by omega), ms_ne (by omega)]
  rw [ec, (hc k hk m hm).1, nI_1]
  refine ⟨(((Fr.rf.ms (by simp)).ms (by simp)).ms (by simp)).ms hin, ⟨by omega, ?_, fun i hi => ?_⟩, fun k2 hk2 m2 hm2 => ?_⟩
  · rw [ms_ne (by omega), ms_same, upd_s, ms_ne (by decide), ms_ne (by decide), hC.2.1, nI_1]
  · rw [ms_ne (show 22 ≠ 25 + k by omega), ms_ne (show (22 : Nat) ≠ 21 by decide), ms_ne (show (22 : Nat) ≠ 23 by decide), ms_same, ms_ne (show 23 ≠ 25 + k by omega), ms_ne (show (23 : Nat) ≠ 21 by decide), ms_same, ms_ne (show (23 : Nat) ≠ 22 by decide)]
    by_cases e : i = ns
    · rw [e, upd_s, upd_s, up_s, up_s]
      exact ⟨rfl, rfl, hk, hm⟩
    · rw [upd_n e, upd_n e, up_n e, up_n e]
      exact hC.2.2 i (by omega)
  · have hle := shc_le (sb := sb) (sm := sm) (bl := 255) (ns := ns) (k := k2) (m := m2)
    rw [shc_succ, up_s, up_s, shc_congr (sb' := sb) (sm' := sm) (fun i hi => ⟨up_n (by omega), up_n (by omega)⟩)]
    by_cases e1 : k2 = k
    · subst e1
      rw [ms_same]
      by_cases e2 : m2 = m
      · subst e2
        rw [upd_s, if_pos ⟨bit255 ns hn, rfl, rfl⟩]
        exact ⟨rfl, by omega⟩
      · rw [upd_n e2, ec, if_neg (fun q => e2 q.2.2.symm), Nat.add_zero]
        exact hc k2 hk2 m2 hm2
    · rw [ms_ne (show 25 + k2 ≠ 25 + k by omega), ms_ne (by omega), ms_ne (by omega), ms_ne (by omega), if_neg (fun q => e1 q.2.1.symm), Nat.add_zero]
      exact hc k2 hk2 m2 hm2
theorem shamM_wp {k m : Nat} (hM : Ms σ ns sb sm) (hn : ns < 8) (hk : k < 8) (hm : m < 6) : wp (f_X10_sham σ (nI k) (nI m)) (fun o => o.1 = nI (ns + 1) ∧ MX [73] [11] σ o.2 ∧ Ms o.2 (ns + 1) (up sb ns k) (up sm ns m)) := by
  unfold f_X10_sham
  refine wp_bpE (in0_eq (b := 7) (by decide)) ?_
  rw [if_pos (nI_rng hk (by decide))]
  refine wp_ie (by decide) (wp_bpE (in0_eq (b := 5) (by decide)) ?_)
  rw [if_pos (nI_rng hm (by decide)), hM.2.1]
  refine wp_ie (by decide) (wp_ie (fun q => by have := (nI_eq (b := 8) (by omega) (by omega)).mp q; omega) ?_)
  have e2 : (2 : Int32) * nI ns = nI (2 * ns) := pk_mul 2 ns
  rw [e2, nI_clamp (show 2 * ns < 2 ^ 31 by omega)]
  refine wp_ckN (by omega) (by omega) (wp_lt ?_)
  have e1 : ∀ x, (ms σ 73 (2 * ns) x).1 64 11 = nI ns := fun x => by rw [ms_ne (by decide)]; exact hM.2.1
  rw [e1, e2, nI_1, nI_clamp (show 2 * ns + 1 < 2 ^ 31 by omega)]
  refine wp_ckN (by omega) (by omega) (wp_lt (wp_lt (wp_some.mpr ?_)))
  have e3 : ∀ x y, (ms (ms σ 73 (2 * ns) x) 73 (2 * ns + 1) y).1 64 11 = nI ns := fun x y => by rw [ms_ne (by decide), ms_ne (by decide)]; exact hM.2.1
  rw [e3, nI_1]
  refine ⟨by rw [ms_same, upd_s], ((MX.rf.row (by simp) (by decide)).row (by simp) (by decide)).fld (by simp), by omega, by rw [ms_same, upd_s], fun i hi => ?_⟩
  rw [ms_ne (show (73 : Nat) ≠ 64 by decide), ms_same, ms_same]
  by_cases e : i = ns
  · rw [e, upd_n (by omega), upd_s, upd_s, up_s, up_s]
    exact ⟨rfl, rfl, hk, hm⟩
  · rw [upd_n (by omega), upd_n (by omega), upd_n (by omega), upd_n (by omega), up_n e, up_n e]
    exact hM.2.2 i (by omega)
theorem shamM_bad {x y : Int32} (hM : Ms σ ns sb sm) (hb : ¬ ((0 ≤ x.toInt ∧ x.toInt < (8 : Nat)) ∧ (0 ≤ y.toInt ∧ y.toInt < (6 : Nat)))) : f_X10_sham σ x y = some ((-2 : Int32), σ) := by
  unfold f_X10_sham
  rw [in0_eq (b := 7) (by decide), bp_some]
  by_cases c : 0 ≤ x.toInt ∧ x.toInt < ((7 + 1 : Nat) : Int)
  · rw [if_pos c, if_neg (show ¬ (1 : Int32) = 0 by decide), in0_eq (b := 5) (by decide), bp_some]
    have c2 : ¬ (0 ≤ y.toInt ∧ y.toInt < ((5 + 1 : Nat) : Int)) := fun q => hb ⟨c, q⟩
    rw [if_neg c2, if_pos rfl]
  · rw [if_neg c, if_pos rfl]
theorem shamM_full {k m : Nat} (hM : Ms σ 8 sb sm) (hk : k < 8) (hm : m < 6) : f_X10_sham σ (nI k) (nI m) = some ((-4 : Int32), σ) := by
  unfold f_X10_sham
  rw [in0_eq (b := 7) (by decide), bp_some, if_pos (nI_rng hk (by decide)), if_neg (show ¬ (1 : Int32) = 0 by decide), in0_eq (b := 5) (by decide), bp_some, if_pos (nI_rng hm (by decide)), if_neg (show ¬ (1 : Int32) = 0 by decide), hM.2.1, if_pos (show nI 8 = (8 : Int32) from rfl)]
theorem op_sham (h : INV σ) (x y : Int32) : wp (f_X9_sham σ x y) (fun o => wp (f_X10_sham o.2 x y) (fun o2 => o2.1 = o.1 ∧ INV o2.2)) := by
  obtain ⟨n0, t0, n1, t1, ns, sb, sm, ng, gt, gk, gb, a1, a2, a3, a4, a5, a6, a7⟩ := id h
  unfold f_X9_sham
  refine wp_bpE mayBe_eq ?_
  by_cases c : (0 ≤ x.toInt ∧ x.toInt < (8 : Nat)) ∧ (0 ≤ y.toInt ∧ y.toInt < (6 : Nat))
  · rw [if_pos c]
    obtain ⟨k, hk, rfl⟩ := inr c.1
    obtain ⟨m, hm, rfl⟩ := inr c.2
    refine wp_ie (by decide) (wp_bpE (isFullS_eq a3.1) ?_)
    by_cases cf : ns < 8
    · rw [if_pos cf]
      refine wp_it rfl (wp_bv (wp_mono (append_wp a3.1 a3.2.2 cf hk hm) (fun σ8 g => wp_bv (wp_mono (resham a1 a2 a3 a4 a5 g.1 g.2.1 g.2.2) (fun τ q => wp_some.mpr ?_)))))
      obtain ⟨q1, -, q2, q3⟩ := q
      have e : τ.1 21 3 = nI (ns + 1) := by rw [q2]; exact g.2.1.2.1
      refine wp_mono (shamM_wp q1 cf hk hm) (fun o2 w => ⟨by rw [w.1, e], q3 _ w.2.1 w.2.2⟩)
    · rw [if_neg cf]
      have e8 : ns = 8 := by have := a3.1.1; omega
      subst e8
      refine wp_ie (by decide) (wp_some.mpr ?_)
      rw [shamM_full a3.2.1 hk hm]
      exact wp_some.mpr ⟨rfl, h⟩
  · rw [if_neg c]
    refine wp_it rfl (wp_some.mpr ?_)
    rw [shamM_bad a3.2.1 c]
    exact wp_some.mpr ⟨rfl, h⟩
theorem op_back (h : INV σ) : wp (f_X9_back σ) (fun o => wp (f_X10_back o.2) (fun o2 => o2.1 = o.1 ∧ INV o2.2)) := by
  obtain ⟨n0, t0, n1, t1, ns, sb, sm, ng, gt, gk, gb, a1, a2, a3, a4, a5, a6, a7⟩ := id h
  obtain ⟨hC, hM, hc⟩ := id a3
  have h8 := hC.1
  unfold f_X9_back
  rw [hC.2.1]
  refine wp_ite (fun c => ?_) (fun c => ?_)
  · refine wp_some.mpr ?_
    unfold f_X10_back
    rw [hM.2.1]
    exact wp_it c (wp_some.mpr ⟨rfl, h⟩)
  · obtain ⟨n, rfl⟩ : ∃ n, ns = n + 1 := ⟨ns - 1, by have : ¬ ns = 0 := fun e => c (by rw [e]; rfl); omega⟩
    obtain ⟨s1, s2, s3, s4⟩ := hC.2.2 n (by omega)
    unfold f_X4_dropLast
    rw [hC.2.1, nI_pred]
    refine wp_bv (wp_ie (nI_nle (by omega) (by omega)) (wp_lt ?_))
    have e21 : (ms σ 21 3 (nI n)).1 21 3 = nI n := by rw [ms_same, upd_s]
    have e22 : (ms σ 21 3 (nI n)).1 22 n = nI (sb n) := by rw [ms_ne (by decide)]; exact s1
    have e23 : (ms σ 21 3 (nI n)).1 23 n = nI (sm n) := by rw [ms_ne (by decide)]; exact s2
    rw [e21, nI_clamp (show n < 2 ^ 31 by omega), e22, e23, nI_clamp (show sb n < 2 ^ 31 by omega), nI_clamp (show sm n < 2 ^ 31 by omega)]
    refine wp_ckN (by omega) (by omega) (wp_ckN (by omega) (by omega) (wp_ckN (by omega) (by omega) (wp_ckN (by omega) (by omega) (wp_ckN (by omega) (by omega) (wp_lt (wp_some.mpr ?_))))))
    have hin : 25 + sb n ∈ SR := by simp only [List.mem_cons, List.not_mem_nil, or_false]; omega
    have ec : (ms σ 21 3 (nI n)).1 (25 + sb n) (sm n) = nI (shc sb sm 255 n (sb n) (sm n) + 1) := by
      rw [ms_ne (by omega), (hc (sb n) s3 (sm n) s4).1, shc_succ, if_pos ⟨bit255 n (by omega), rfl, rfl⟩]
    rw [ec, nI_pred]
    have F8 : Fr SR σ (ms (ms σ 21 3 (nI n)) (25 + sb n) (sm n) (nI (shc sb sm 255 n (sb n) (sm n)))) := (Fr.rf.ms (by simp)).ms hin
    have hC8 : Cs (ms (ms σ 21 3 (nI n)) (25 + sb n) (sm n) (nI (shc sb sm 255 n (sb n) (sm n)))) n sb sm := ⟨by omega, by rw [ms_ne (by omega)]; exact e21, fun i hi => by
      rw [ms_ne (show 22 ≠ 25 + sb n by omega), ms_ne (show (22 : Nat) ≠ 21 by decide), ms_ne (show 23 ≠ 25 + sb n by omega), ms_ne (show (23 : Nat) ≠ 21 by decide)]
      exact hC.2.2 i (by omega)⟩
    have hc8 : Cc (ms (ms σ 21 3 (nI n)) (25 + sb n) (sm n) (nI (shc sb sm 255 n (sb n) (sm n)))) (shc sb sm 255 n) := fun k hk m hm => by
      have hle := shc_le (sb := sb) (sm := sm) (bl := 255) (ns := n) (k := k) (m := m)
      obtain ⟨b1, b2⟩ := hc k hk m hm
      rw [shc_succ] at b1
      by_cases e1 : k = sb n
      · subst e1
        rw [ms_same]
        by_cases e2 : m = sm n
        · subst e2
          rw [upd_s]
          exact ⟨rfl, by omega⟩
        · rw [upd_n e2, ms_ne (by omega), b1, if_neg (fun q => e2 q.2.2.symm), Nat.add_zero]
          exact ⟨rfl, by omega⟩
      · rw [ms_ne (show 25 + k ≠ 25 + sb n by omega), ms_ne (by omega), b1, if_neg (fun q => e1 q.2.1.symm), Nat.add_zero]
        exact ⟨rfl, by omega⟩
    refine wp_bv (wp_mono (resham a1 a2 a3 a4 a5 F8 hC8 hc8) (fun τ q => wp_some.mpr ?_))
    obtain ⟨q1, -, q2, q3⟩ := q
    unfold f_X10_back
    rw [q1.2.1, nI_pred]
    have e : τ.1 21 3 = nI n := by rw [q2, ms_ne (by omega)]; exact e21
    refine wp_ie (nI_ne0 (by omega) (by omega)) (wp_lt (wp_some.mpr ⟨by rw [ms_same, upd_s, e], q3 _ (MX.rf.fld (by simp)) ⟨by omega, by rw [ms_same, upd_s], fun i hi => ?_⟩⟩))
    rw [ms_ne (by decide)]
    exact q1.2.2 i (by omega)
/-- how many pairs of a row become shams -/
def okp (x y : Int32) : Prop := (0 ≤ x.toInt ∧ x.toInt < (8 : Nat)) ∧ (0 ≤ y.toInt ∧ y.toInt < (6 : Nat))
def SBr (a : Nat → Int32) (sb : Nat → Nat) (ns i : Nat) : Nat := if i < ns then sb i else (a (2 * (i - ns))).toNatClampNeg
def SMr (a : Nat → Int32) (sm : Nat → Nat) (ns i : Nat) : Nat := if i < ns then sm i else (a (2 * (i - ns) + 1)).toNatClampNeg
/-- c pairs come: all before c do, c doesn't -/
def StpR (a : Nat → Int32) (z ns c : Nat) : Prop := (∀ n, n < c → 2 * n + 2 ≤ z ∧ ns + n < 8 ∧ okp (a (2 * n)) (a (2 * n + 1))) ∧ ¬ (2 * c + 2 ≤ z ∧ ns + c < 8 ∧ okp (a (2 * c)) (a (2 * c + 1)))
theorem readC_loop {a : Nat → Int32} {z s : Nat} (hs : s < 4) (hz : z ≤ 60) (hns : ns ≤ 8) : ∀ (q n : Nat) (τ : Mem), 100 ≤ q + n → n ≤ 30 → Fr SR σ τ → σ.1 (38 + 2 * s) 2 = nI z → (∀ i, i < z → σ.1 (38 + 2 * s + 1) i = a i) → Cs τ (ns + n) (SBr a sb ns) (SMr a sm ns) → Cc τ (shc (SBr a sb ns) (SMr a sm ns) 255 (ns + n)) → (∀ i, i < n → 2 * i + 2 ≤ z ∧ ns + i < 8 ∧ okp (a (2 * i)) (a (2 * i + 1))) →
    ∀ {Q : Int32 × Mem → Prop}, (∀ (c : Nat) (υ : Mem), StpR a z ns c → Fr SR σ υ → Cs υ (ns + c) (SBr a sb ns) (SMr a sm ns) → Cc υ (shc (SBr a sb ns) (SMr a sm ns) 255 (ns + c)) → wp (f_X9_read_b117 υ (nI ns)) Q) → wp (f_X9_read_b42 q τ (38 + 2 * s) (nI ns) (nI (2 * n))) Q := by
  intro q
  induction q with
  | zero => intro n τ h1 h2; omega
  | succ q ih =>
    intro n τ h1 h2 hF hzz ha hC hc hall Q hk
    have n38 : 38 + 2 * s ∉ SR := by simp only [List.mem_cons, List.not_mem_nil, or_false]; omega
    have n39 : 38 + 2 * s + 1 ∉ SR := by simp only [List.mem_cons, List.not_mem_nil, or_false]; omega
    have ez : τ.1 (38 + 2 * s) 2 = nI z := by rw [hF.1 _ n38]; exact hzz
    rw [f_X9_read_b42, ez, nI_1]
    have stop : ¬ (2 * n + 2 ≤ z ∧ ns + n < 8 ∧ okp (a (2 * n)) (a (2 * n + 1))) → wp (f_X9_read_b117 τ (nI ns)) Q := fun hno => hk n τ ⟨hall, hno⟩ hF hC hc
    refine wp_ite (fun c => ?_) (fun c => ?_)
    · have c' := (nI_leI (by omega) (by omega)).mp c
      exact stop (fun w => by omega)
    · have c' := nI_not_le c (by omega) (by omega)
      refine wp_bpE (isFullS_eq hC) ?_
      by_cases cf : ns + n < 8
      · rw [if_pos cf, nI_clamp (show 2 * n < 2 ^ 31 by omega), nI_clamp (show 2 * n + 1 < 2 ^ 31 by omega), hF.1 _ n39, ha _ (by omega), ha _ (by omega)]
        refine wp_it rfl (wp_ckN (by omega) (by omega) (wp_ckN (by omega) (by omega) (wp_bpE mayBe_eq ?_)))
        by_cases co : okp (a (2 * n)) (a (2 * n + 1))
        · rw [if_pos (show (0 ≤ (a (2 * n)).toInt ∧ (a (2 * n)).toInt < (8 : Nat)) ∧ (0 ≤ (a (2 * n + 1)).toInt ∧ (a (2 * n + 1)).toInt < (6 : Nat)) from co)]
          obtain ⟨k, hk8, ek⟩ := inr co.1
          obtain ⟨m, hm6, em⟩ := inr co.2
          rw [ek, em]
          refine wp_ie (by decide) (wp_ckN (by omega) (by omega) (wp_ckN (by omega) (by omega) (wp_bv (wp_mono (append_wp hC hc cf hk8 hm6) (fun υ g => ?_)))))
          have e2 : nI (2 * n) + (2 : Int32) = nI (2 * (n + 1)) := by rw [nI_lit 2, nI_add, show 2 * n + 2 = 2 * (n + 1) by omega]
          rw [e2]
          have hup : ∀ i, i < ns + n + 1 → up (SBr a sb ns) (ns + n) k i = SBr a sb ns i ∧ up (SMr a sm ns) (ns + n) m i = SMr a sm ns i := fun i hi => by
            by_cases e : i = ns + n
            · subst e
              rw [up_s, up_s]
              unfold SBr SMr
              rw [if_neg (by omega), if_neg (by omega), show ns + n - ns = n by omega, ek, em, nI_clamp (by omega), nI_clamp (by omega)]
              exact ⟨rfl, rfl⟩
            · rw [up_n e, up_n e]
              exact ⟨rfl, rfl⟩
          refine ih (n + 1) υ (by omega) (by omega) (hF.tr g.1) hzz ha (g.2.1.congr hup) (g.2.2.congr (fun k2 m2 _ _ => shc_congr hup)) (fun i hi => ?_) hk
          by_cases e : i = n
          · subst e
            exact ⟨by omega, cf, co⟩
          · exact hall i (by omega)
        · rw [if_neg (show ¬ ((0 ≤ (a (2 * n)).toInt ∧ (a (2 * n)).toInt < (8 : Nat)) ∧ (0 ≤ (a (2 * n + 1)).toInt ∧ (a (2 * n + 1)).toInt < (6 : Nat))) from co)]
          exact wp_it rfl (stop (fun w => co w.2.2))
      · rw [if_neg cf]
        exact wp_ie (by decide) (stop (fun w => cf w.2.1))
theorem readM_loop {a : Nat → Int32} {z s c : Nat} (hs : s < 4) (hz : z ≤ 60) (hns : ns ≤ 8) (hst : StpR a z ns c) : ∀ (q n : Nat) (τ : Mem), 100 ≤ q + n → n ≤ c → MX [73] [11] σ τ → σ.1 66 s = nI z → (∀ i, i < z → σ.1 67 (60 * s + i) = a i) → Ms τ (ns + n) (SBr a sb ns) (SMr a sm ns) →
    wp (f_X10_read_b29 q τ (nI s) (nI n) 1) (fun o => o.1 = nI c ∧ MX [73] [11] σ o.2 ∧ Ms o.2 (ns + c) (SBr a sb ns) (SMr a sm ns)) := by
  intro q
  have hc30 : c ≤ 30 := by
    rcases Nat.lt_or_ge 30 c with w | w
    · have := (hst.1 30 w).1; omega
    · exact w
  induction q with
  | zero => intro n τ h1 h2; omega
  | succ q ih =>
    intro n τ h1 h2 hF hzz ha hM
    have ez : τ.1 66 s = nI z := by rw [hF.1 66 (by decide) (by decide)]; exact hzz
    have er : τ.1 67 = σ.1 67 := hF.1 67 (by decide) (by decide)
    rw [f_X10_read_b29, nI_clamp (show s < 2 ^ 31 by omega), ez, er]
    refine wp_ie (by decide) (wp_ckN hs (by decide) ?_)
    have e2 : (2 : Int32) * nI n = nI (2 * n) := pk_mul 2 n
    have e22 : nI (2 * n) + (2 : Int32) = nI (2 * n + 2) := nI_add _ 2
    have e60 : (60 : Int32) * nI s + nI (2 * n) = nI (60 * s + 2 * n) := by rw [nI_lit 60, pk_mul, nI_add]
    rw [e2, e22, e60, nI_1, nI_clamp (show 60 * s + 2 * n < 2 ^ 31 by omega), nI_clamp (show 60 * s + 2 * n + 1 < 2 ^ 31 by omega)]
    refine wp_ite (fun w => ?_) (fun w => ?_)
    · have w' := (nI_ltI (by omega) (by omega)).mp w
      have e : n = c := by
        rcases Nat.lt_or_ge n c with v | v
        · have := (hst.1 n v).1; omega
        · omega
      subst e
      exact wp_some.mpr ⟨rfl, hF, hM⟩
    · have w' : 2 * n + 2 ≤ z := by
        rcases Nat.lt_or_ge z (2 * n + 2) with v | v
        · exact absurd ((nI_ltI (by omega) (by omega)).mpr v) w
        · exact v
      rw [show 60 * s + 2 * n + 1 = 60 * s + (2 * n + 1) by omega, ha _ (by omega), ha _ (by omega)]
      refine wp_ckN (by omega) (by omega) (wp_ckN (by omega) (by omega) ?_)
      have nomore : n = c → ∀ v : Int32, v < 0 → wp (if v < (0 : Int32) then (f_X10_read_b87 (f_X10_read_b29 q) τ (nI s) (nI n) (0 : Int32)) else (f_X10_read_b87 (f_X10_read_b29 q) τ (nI s) (nI n) (1 : Int32))) (fun o => o.1 = nI c ∧ MX [73] [11] σ o.2 ∧ Ms o.2 (ns + c) (SBr a sb ns) (SMr a sm ns)) := by
        intro e v hv
        unfold f_X10_read_b87 f_X10_read_b98
        refine wp_it hv (wp_it rfl ?_)
        rw [Int32.add_zero]
        obtain ⟨q, rfl⟩ : ∃ y, q = y + 1 := ⟨q - 1, by omega⟩
        rw [f_X10_read_b29]
        subst e
        exact wp_it rfl (wp_some.mpr ⟨rfl, hF, hM⟩)
      by_cases co : okp (a (2 * n)) (a (2 * n + 1))
      · obtain ⟨k, hk8, ek⟩ := inr co.1
        obtain ⟨m, hm6, em⟩ := inr co.2
        by_cases cf : ns + n < 8
        · have hlt : n < c := by
            rcases Nat.lt_or_ge n c with v | v
            · exact v
            · exact absurd ⟨by omega, by omega, by rw [show c = n by omega]; exact co⟩ hst.2
          rw [ek, em]
          refine wp_bi (wp_mono (shamM_wp hM cf hk8 hm6) (fun o g => ?_))
          rw [g.1]
          unfold f_X10_read_b87 f_X10_read_b98
          refine wp_ie (nI_pos (by omega)) (wp_ie (by decide) ?_)
          rw [nI_1]
          have hup : ∀ i, i < ns + n + 1 → up (SBr a sb ns) (ns + n) k i = SBr a sb ns i ∧ up (SMr a sm ns) (ns + n) m i = SMr a sm ns i := fun i hi => by
            by_cases e : i = ns + n
            · subst e
              rw [up_s, up_s]
              unfold SBr SMr
              rw [if_neg (by omega), if_neg (by omega), show ns + n - ns = n by omega, ek, em, nI_clamp (by omega), nI_clamp (by omega)]
              exact ⟨rfl, rfl⟩
            · rw [up_n e, up_n e]
              exact ⟨rfl, rfl⟩
          exact ih (n + 1) o.2 (by omega) (by omega) (hF.tr g.2.1) hzz ha (g.2.2.congr hup)
        · have e : n = c := by
            rcases Nat.lt_or_ge n c with v | v
            · have := (hst.1 n v).2.1; omega
            · omega
          have e8 : ns + n = 8 := by have := hM.1; omega
          rw [e8] at hM
          rw [ek, em, shamM_full hM hk8 hm6, bi_some]
          exact nomore e _ (by decide)
      · have e : n = c := by
          rcases Nat.lt_or_ge n c with v | v
          · exact absurd (hst.1 n v).2.2 co
          · omega
        rw [shamM_bad hM co, bi_some]
        exact nomore e _ (by decide)
theorem op_read (h : INV σ) (x : Int32) : wp (f_X9_read σ x) (fun o => wp (f_X10_read o.2 x) (fun o2 => o2.1 = o.1 ∧ INV o2.2)) := by
  obtain ⟨n0, t0, n1, t1, ns, sb, sm, ng, gt, gk, gb, a1, a2, a3, a4, a5, a6, a7⟩ := id h
  unfold f_X9_read
  rw [show (4 : Int32) = nI 4 from rfl]
  refine wp_bpE (within_eq (by decide)) ?_
  unfold f_X10_read
  by_cases c : 0 ≤ x.toInt ∧ x.toInt < (4 : Nat)
  · rw [if_pos c]
    obtain ⟨s, hs, rfl⟩ := inr c
    obtain ⟨f, z, hf, hz, e2, e66, hit, hlo⟩ := a5.1 s hs
    refine wp_ie (by decide) (wp_ckN hs (by decide) ?_)
    rw [nI_clamp (show s < 2 ^ 31 by omega)]
    rcases hlo with ⟨l1, l2⟩ | ⟨l1, l2, l3⟩
    · rw [l1]
      unfold f_X9_find
      refine wp_ie (by decide) (wp_bi (wp_lt (wp_some.mpr (wp_some.mpr (wp_bpE isSheet_eq ?_)))))
      have X : MX [0] [] σ (ms σ 0 12 1) := MX.rf.row (by simp) (by decide)
      rw [if_pos c, X.1 65 (by decide) (by decide), l2]
      refine wp_ie (by decide) (wp_ckN hs (by decide) (wp_ie (by decide) ?_))
      unfold f_X10_finds
      refine wp_bi (wp_lt (wp_some.mpr (wp_some.mpr ⟨rfl, ?_⟩)))
      have Y : MX [0] [4] σ (ms (ms σ 0 12 1) 64 4 1) := (X.wide (by simp) (by simp)).fld (by simp)
      have F := Y.toFr
      refine ⟨n0, t0, n1, t1, ns, sb, sm, ng, gt, gk, gb, a1.fx Y (by decide), a2.fx Y (by decide), a3.fx Y (by decide) (by decide), a4.fx Y (by decide) (by decide), ⟨fun s hs => (a5.1 s hs).fx Y (by decide) (by simp) (by simp) hs, ?_, by rw [Y.2.1 13 (by decide)]; exact a5.2.2.1, by rw [Y.2.1 14 (by decide)]; exact a5.2.2.2⟩, a6.fr F (by decide) (by decide) (by decide) (by decide) (by decide), a7.fx Y (by decide)⟩
      rw [ms_ne (show (0 : Nat) ≠ 64 by decide), ms_same, upd_s, ms_same, upd_s]
    · rw [l1, a3.1.2.1]
      have hCC : ∀ i, i < ns → sb i = SBr (σ.1 (38 + 2 * s + 1)) sb ns i ∧ sm i = SMr (σ.1 (38 + 2 * s + 1)) sm ns i := fun i hi => by unfold SBr SMr; rw [if_pos hi, if_pos hi]; exact ⟨rfl, rfl⟩
      refine wp_it rfl (readC_loop (σ := σ) (ns := ns) (sb := sb) (sm := sm) (a := σ.1 (38 + 2 * s + 1)) (z := z) hs hz a3.1.1 300 0 σ (by omega) (by omega) Fr.rf e2 (fun _ _ => rfl) (a3.1.congr hCC) (a3.2.2.congr (fun k m _ _ => shc_congr hCC)) (fun i hi => by omega) (fun cc υ g1 g2 g3 g4 => ?_))
      unfold f_X9_read_b117
      refine wp_bv (wp_mono (resham a1 a2 a3 a4 a5 g2 g3 g4) (fun τ q => wp_some.mpr ?_))
      obtain ⟨q1, q4, q2, q3⟩ := q
      have hc8 : ns + cc ≤ 8 := g3.1
      have e21 : τ.1 21 3 = nI (ns + cc) := by rw [q2]; exact g3.2.1
      refine wp_bpE isSheet_eq ?_
      rw [if_pos c, e21, pk_sub (by omega), show ns + cc - ns = cc by omega]
      rw [q4.1 65 (by decide) (by decide), l3]
      refine wp_ie (by decide) (wp_ckN hs (by decide) (wp_it (nI_pos' (by omega)) ?_))
      refine wp_mono (readM_loop (σ := τ) (a := σ.1 (38 + 2 * s + 1)) hs hz a3.1.1 g1 300 0 τ (by omega) (by omega) MX.rf (by rw [q4.1 66 (by decide) (by decide)]; exact e66) (fun i hi => ?_) (q1.congr hCC)) (fun o2 w => ⟨w.1, q3 _ w.2.1 w.2.2⟩)
      rw [q4.1 67 (by decide) (by decide), show 38 + 2 * s + 1 = 39 + 2 * s by omega]
      exact (hit i hi).symm
  · rw [if_neg c]
    refine wp_it rfl (wp_some.mpr (wp_bpE isSheet_eq ?_))
    rw [if_neg c]
    exact wp_it rfl (wp_some.mpr ⟨rfl, h⟩)
theorem op_forget (h : INV σ) : wp (f_X9_forget σ) (fun o => wp (f_X10_forget o.2) (fun o2 => o2.1 = o.1 ∧ INV o2.2)) := by
  obtain ⟨n0, t0, n1, t1, ns, sb, sm, ng, gt, gk, gb, a1, a2, a3, a4, a5, a6, a7⟩ := id h
  unfold f_X9_forget f_X10_forget
  refine wp_lt (wp_some.mpr (wp_lt (wp_some.mpr ⟨?_, ?_⟩)))
  · rw [ms_ne (show (64 : Nat) ≠ 33 by decide)]
    show σ.1 64 22 = σ.1 33 3
    rw [a4.2.1, a4.1.2.1]
  · have Y : MX [33] [22] σ (ms (ms σ 33 3 0) 64 22 0) := (MX.rf.row (by simp) (by decide)).fld (by simp)
    have F := Y.toFr
    refine ⟨n0, t0, n1, t1, ns, sb, sm, 0, gt, gk, gb, a1.fx Y (by decide), a2.fx Y (by decide), a3.fx Y (by decide) (by decide), ⟨⟨by omega, by rw [ms_ne (by decide), ms_same, upd_s]; rfl, fun i hi => by omega⟩, by rw [ms_same, upd_s]; rfl, fun i hi => by omega⟩, a5.fx Y (by decide) (by decide), a6.fr F (by decide) (by decide) (by decide) (by decide) (by decide), a7.fx Y (by decide)⟩
theorem op_seen (h : INV σ) (x y w : Int32) : wp (f_X9_seen σ x y w) (fun o => wp (f_X10_seen o.2 x y w) (fun o2 => o2.1 = o.1 ∧ INV o2.2)) := by
  obtain ⟨n0, t0, n1, t1, ns, sb, sm, ng, gt, gk, gb, a1, a2, a3, a4, a5, a6, a7⟩ := id h
  obtain ⟨g8, e33, hg⟩ := id a4.1
  obtain ⟨e22, hgM⟩ := id a4.2
  unfold f_X9_seen
  rw [show (100 : Int32) = nI 100 from rfl, show (8 : Int32) = nI 8 from rfl, show (9 : Int32) = nI 9 from rfl]
  refine wp_bpE (within_eq (by decide)) ?_
  by_cases c1 : 0 ≤ x.toInt ∧ x.toInt < (100 : Nat)
  · rw [if_pos c1]
    refine wp_ie (by decide) (wp_bpE (within_eq (by decide)) ?_)
    by_cases c2 : 0 ≤ y.toInt ∧ y.toInt < (8 : Nat)
    · rw [if_pos c2]
      refine wp_ie (by decide) (wp_bpE (within_eq (by decide)) ?_)
      by_cases c3 : 0 ≤ w.toInt ∧ w.toInt < (9 : Nat)
      · rw [if_pos c3]
        obtain ⟨tt, htt, rfl⟩ := inr c1
        obtain ⟨kk, hkk, rfl⟩ := inr c2
        obtain ⟨bb, hbb, rfl⟩ := inr c3
        have full : f_X6_isFull σ = some (if ng < 8 then 0 else 1) := by
          unfold f_X6_isFull
          rw [e33, show (8 : Int32) = nI 8 from rfl]
          by_cases c : ng < 8
          · rw [if_pos ((nI_ltI (by omega) (by omega)).mpr c), if_pos c]
          · rw [if_neg (fun q => c ((nI_ltI (by omega) (by omega)).mp q)), if_neg c]
        refine wp_ie (by decide) (wp_bpE full ?_)
        have head : ∀ {τ : Mem} {Q : Int32 × Mem → Prop}, wp (if (τ.1 64 22) = (8 : Int32) then (some ((-4 : Int32), τ)) else (ck ((3 : Int32) * (τ.1 64 22)) 24 (lt (ms τ 78 ((3 : Int32) * (τ.1 64 22)).toNatClampNeg (nI tt)) (fun σ12 => (ck (((3 : Int32) * (σ12.1 64 22)) + (1 : Int32)) 24 (lt (ms σ12 78 (((3 : Int32) * (σ12.1 64 22)) + (1 : Int32)).toNatClampNeg (nI kk)) (fun σ15 => (ck (((3 : Int32) * (σ15.1 64 22)) + (2 : Int32)) 24 (lt (ms σ15 78 (((3 : Int32) * (σ15.1 64 22)) + (2 : Int32)).toNatClampNeg (nI bb)) (fun σ18 => (lt (ms σ18 64 22 ((σ18.1 64 22) + (1 : Int32))) (fun σ20 => (some ((σ20.1 64 22), σ20)))))))))))))) Q → wp (f_X10_seen τ (nI tt) (nI kk) (nI bb)) Q := by
          intro τ Q hq
          unfold f_X10_seen
          refine wp_bpE isStep_eq ?_
          rw [if_pos c1]
          refine wp_ie (by decide) (wp_bpE (in0_eq (b := 7) (by decide)) ?_)
          rw [if_pos c2]
          refine wp_ie (by decide) (wp_bpE (in0_eq (b := 8) (by decide)) ?_)
          rw [if_pos c3]
          exact wp_ie (by decide) hq
        by_cases cf : ng < 8
        · rw [if_pos cf]
          unfold f_X6_append
          refine wp_it rfl (wp_bv (wp_bpE full ?_))
          rw [if_pos cf, e33, nI_clamp (show ng < 2 ^ 31 by omega)]
          refine wp_it rfl (wp_ckN cf (by decide) (wp_lt ?_))
          have q1 : ∀ u, (ms σ 34 ng u).1 33 3 = nI ng := fun u => by rw [ms_ne (by decide)]; exact e33
          rw [q1, nI_clamp (show ng < 2 ^ 31 by omega)]
          refine wp_ckN cf (by decide) (wp_lt ?_)
          have q2 : ∀ u v, (ms (ms σ 34 ng u) 35 ng v).1 33 3 = nI ng := fun u v => by rw [ms_ne (by decide), ms_ne (by decide)]; exact e33
          rw [q2, nI_clamp (show ng < 2 ^ 31 by omega)]
          refine wp_ckN cf (by decide) (wp_lt (wp_lt (wp_some.mpr (wp_some.mpr (head ?_)))))
          have q3 : ∀ u v z, (ms (ms (ms σ 34 ng u) 35 ng v) 36 ng z).1 33 3 = nI ng := fun u v z => by rw [ms_ne (by decide), ms_ne (by decide), ms_ne (by decide)]; exact e33
          rw [q3, nI_1]
          generalize hτ : ms (ms (ms (ms σ 34 ng (nI tt)) 35 ng (nI kk)) 36 ng (nI bb)) 33 3 (nI (ng + 1)) = τ
          have X : MX [33, 34, 35, 36] [] σ τ := by rw [← hτ]; exact (((MX.rf.row (by simp) (by decide)).row (by simp) (by decide)).row (by simp) (by decide)).row (by simp) (by decide)
          have t22 : τ.1 64 22 = nI ng := by rw [X.2.1 22 (by decide)]; exact e22
          have t33 : τ.1 33 3 = nI (ng + 1) := by rw [← hτ, ms_same, upd_s]
          have m3 : (3 : Int32) * nI ng = nI (3 * ng) := pk_mul 3 ng
          have m32 : nI (3 * ng) + (2 : Int32) = nI (3 * ng + 2) := nI_add _ 2
          rw [t22, m3, nI_clamp (show 3 * ng < 2 ^ 31 by omega), t33]
          refine wp_ie (fun q => by have := (nI_eq (b := 8) (by omega) (by omega)).mp q; omega) (wp_ckN (by omega) (by omega) (wp_lt ?_))
          have r1 : ∀ u, (ms τ 78 (3 * ng) u).1 64 22 = nI ng := fun u => by rw [ms_ne (by decide)]; exact t22
          rw [r1, m3, nI_1, nI_clamp (show 3 * ng + 1 < 2 ^ 31 by omega)]
          refine wp_ckN (by omega) (by omega) (wp_lt ?_)
          have r2 : ∀ u v, (ms (ms τ 78 (3 * ng) u) 78 (3 * ng + 1) v).1 64 22 = nI ng := fun u v => by rw [ms_ne (by decide), ms_ne (by decide)]; exact t22
          rw [r2, m3, m32, nI_clamp (show 3 * ng + 2 < 2 ^ 31 by omega)]
          refine wp_ckN (by omega) (by omega) (wp_lt (wp_lt (wp_some.mpr ?_)))
          have r3 : ∀ u v z, (ms (ms (ms τ 78 (3 * ng) u) 78 (3 * ng + 1) v) 78 (3 * ng + 2) z).1 64 22 = nI ng := fun u v z => by rw [ms_ne (by decide), ms_ne (by decide), ms_ne (by decide)]; exact t22
          rw [r3, nI_1]
          refine ⟨by rw [ms_same, upd_s], ?_⟩
          have Y : MX [33, 34, 35, 36, 78] [22] σ (ms (ms (ms (ms τ 78 (3 * ng) (nI tt)) 78 (3 * ng + 1) (nI kk)) 78 (3 * ng + 2) (nI bb)) 64 22 (nI (ng + 1))) := ((((X.wide (by simp) (by simp)).row (by simp) (by decide)).row (by simp) (by decide)).row (by simp) (by decide)).fld (by simp)
          have F := Y.toFr
          refine ⟨n0, t0, n1, t1, ns, sb, sm, ng + 1, up gt ng tt, up gk ng kk, up gb ng bb, a1.fx Y (by decide), a2.fx Y (by decide), a3.fx Y (by decide) (by decide), ⟨⟨by omega, ?_, fun i hi => ?_⟩, ?_, fun i hi => ?_⟩, a5.fx Y (by decide) (by decide), a6.fr F (by decide) (by decide) (by decide) (by decide) (by decide), a7.fx Y (by decide)⟩
          · rw [ms_ne (by decide), ms_ne (by decide), ms_ne (by decide), ms_ne (by decide)]
            exact t33
          · have o : ∀ r, r ≠ 64 → r ≠ 78 → (ms (ms (ms (ms τ 78 (3 * ng) (nI tt)) 78 (3 * ng + 1) (nI kk)) 78 (3 * ng + 2) (nI bb)) 64 22 (nI (ng + 1))).1 r = τ.1 r := fun r h1 h2 => by rw [ms_ne h1, ms_ne h2, ms_ne h2, ms_ne h2]
            rw [o 34 (by decide) (by decide), o 35 (by decide) (by decide), o 36 (by decide) (by decide), ← hτ]
            rw [ms_ne (show (34 : Nat) ≠ 33 by decide), ms_ne (show (34 : Nat) ≠ 36 by decide), ms_ne (show (34 : Nat) ≠ 35 by decide), ms_same, ms_ne (show (35 : Nat) ≠ 33 by decide), ms_ne (show (35 : Nat) ≠ 36 by decide), ms_same, ms_ne (show (35 : Nat) ≠ 34 by decide), ms_ne (show (36 : Nat) ≠ 33 by decide), ms_same, ms_ne (show (36 : Nat) ≠ 35 by decide), ms_ne (show (36 : Nat) ≠ 34 by decide)]
            by_cases e : i = ng
            · rw [e, upd_s, upd_s, upd_s, up_s, up_s, up_s]
              exact ⟨rfl, rfl, rfl, htt, hkk, hbb⟩
            · rw [upd_n e, upd_n e, upd_n e, up_n e, up_n e, up_n e]
              exact hg i (by omega)
          · rw [ms_same, upd_s]
          · rw [ms_ne (show (78 : Nat) ≠ 64 by decide), ms_same, ms_same, ms_same]
            by_cases e : i = ng
            · rw [e, upd_n (by omega), upd_n (by omega), upd_s, upd_n (by omega), upd_s, upd_s, up_s, up_s, up_s]
              exact ⟨rfl, rfl, rfl⟩
            · rw [upd_n (by omega), upd_n (by omega), upd_n (by omega), upd_n (by omega), upd_n (by omega), upd_n (by omega), upd_n (by omega), upd_n (by omega), upd_n (by omega), up_n e, up_n e, up_n e, X.1 78 (by decide) (by decide)]
              exact hgM i (by omega)
        · rw [if_neg cf]
          refine wp_ie (by decide) (wp_some.mpr (head ?_))
          rw [e22, show ng = 8 by omega]
          exact wp_it rfl (wp_some.mpr ⟨rfl, h⟩)
      · rw [if_neg c3]
        unfold f_X10_seen
        refine wp_it rfl (wp_some.mpr (wp_bpE isStep_eq ?_))
        rw [if_pos c1]
        refine wp_ie (by decide) (wp_bpE (in0_eq (b := 7) (by decide)) ?_)
        rw [if_pos c2]
        refine wp_ie (by decide) (wp_bpE (in0_eq (b := 8) (by decide)) ?_)
        rw [if_neg c3]
        exact wp_it rfl (wp_some.mpr ⟨rfl, h⟩)
    · rw [if_neg c2]
      unfold f_X10_seen
      refine wp_it rfl (wp_some.mpr (wp_bpE isStep_eq ?_))
      rw [if_pos c1]
      refine wp_ie (by decide) (wp_bpE (in0_eq (b := 7) (by decide)) ?_)
      rw [if_neg c2]
      exact wp_it rfl (wp_some.mpr ⟨rfl, h⟩)
  · rw [if_neg c1]
    unfold f_X10_seen
    refine wp_it rfl (wp_some.mpr (wp_bpE isStep_eq ?_))
    rw [if_neg c1]
    exact wp_it rfl (wp_some.mpr ⟨rfl, h⟩)
end SHM
