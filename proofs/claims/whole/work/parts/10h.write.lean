/-! 10h: write -/
def cutF (f : Nat) (v : Int32) : Int32 := if f = 0 then v.toInt8.toInt32 else if f = 1 then v.toInt16.toInt32 else v
section WRI
variable {σ τ : Mem} {lf : Nat → Nat → Bool} {nb nk ns ng P bl aw n0 n1 s f z t : Nat} {st t0 t1 kd mk mn bs sb sm gt gk gb : Nat → Nat} {ma : Nat → Nat → Nat}
theorem cut_eq {v : Int32} (hf : f < 3) : f_X10_cut τ (nI f) v = some (cutF f v) := by
  unfold f_X10_cut cutF
  rcases (show f = 0 ∨ f = 1 ∨ f = 2 by omega) with rfl | rfl | rfl <;> rfl
theorem put_eq {r j : Nat} {v : Int32} (hf : f < 3) (hj : j < 60) (e : τ.1 r 1 = nI f) : f_X5_put τ r (nI j) v = some (ms τ (r + 1) j (cutF f v)) := by
  unfold f_X5_put cutF
  rw [e, ck_N hj (by decide), ck_N hj (by decide), ck_N hj (by decide), nI_clamp (show j < 2 ^ 31 by omega)]
  rcases (show f = 0 ∨ f = 1 ∨ f = 2 by omega) with rfl | rfl | rfl <;> rfl
theorem writeC_loop (hV : Vok σ 46 lf nk P st) (ht : t < 100) (hs : s < 4) (hf : f < 3) (hn : z ≤ nk) (h8 : nk ≤ 8) (e1 : σ.1 (38 + 2 * s) 1 = nI f) : ∀ (q j : Nat) (τ : Mem), j ≤ z → z < j + q → Fr [38 + 2 * s + 1] σ τ → (∀ i, τ.1 (38 + 2 * s + 1) i = if i < j then cutF f (nI (sim lf nk P st (t + 1) i) - 1) else σ.1 (38 + 2 * s + 1) i) →
    wp (f_X9_write_b59 q τ (nI t) (38 + 2 * s) (nI z) (nI j)) (fun o => o.1 = nI z ∧ Fr [38 + 2 * s + 1] σ o.2 ∧ (∀ i, o.2.1 (38 + 2 * s + 1) i = if i < z then cutF f (nI (sim lf nk P st (t + 1) i) - 1) else σ.1 (38 + 2 * s + 1) i)) := by
  intro q
  induction q with
  | zero => intro j τ h1 h2; omega
  | succ q ih =>
    intro j τ h1 h2 hF hi
    rw [f_X9_write_b59]
    refine wp_ite (fun c => ?_) (fun c => ?_)
    · have c' := (nI_leI (by omega) (by omega)).mp c
      have e : j = z := by omega
      subst e
      exact wp_some.mpr ⟨rfl, hF, hi⟩
    · have hj := nI_not_le c (by omega) (by omega)
      have hV2 : Vok τ 46 lf nk P st := hV.fr hF (by simp only [List.mem_singleton]; omega) (by simp only [List.mem_singleton]; omega) (by simp only [List.mem_singleton]; omega) (by simp only [List.mem_singleton]; omega) (by simp only [List.mem_singleton]; omega)
      refine wp_bpE (placeOf_eq hV2 ht (by omega)) ?_
      rw [put_eq hf (show j < 60 by omega) (by rw [hF.1 _ (by simp only [List.mem_singleton]; omega)]; exact e1), bv_some, nI_1]
      refine ih (j + 1) _ (by omega) (by omega) (hF.ms (by simp)) (fun i => ?_)
      rw [ms_same]
      by_cases c2 : i = j
      · rw [c2, upd_s, if_pos (by omega)]
      · rw [upd_n c2, hi i]
        by_cases c3 : i < j
        · rw [if_pos c3, if_pos (by omega)]
        · rw [if_neg c3, if_neg (by omega)]
theorem writeM_loop {pos : Nat → Nat} (hs : s < 4) (hf : f < 3) (hn : z ≤ 8) (e65 : σ.1 65 s = nI f) (e74 : ∀ k, k < z → σ.1 74 k = nI (pos k) - 1) : ∀ (q j : Nat) (τ : Mem), j ≤ z → z < j + q → MX [67] [] σ τ → (∀ i, τ.1 67 i = if 60 * s ≤ i ∧ i < 60 * s + j then cutF f (nI (pos (i - 60 * s)) - 1) else σ.1 67 i) →
    wp (f_X10_write_b58 q τ (nI s) (nI z) (nI j)) (fun o => o.1 = nI z ∧ MX [67] [] σ o.2 ∧ (∀ i, o.2.1 67 i = if 60 * s ≤ i ∧ i < 60 * s + z then cutF f (nI (pos (i - 60 * s)) - 1) else σ.1 67 i)) := by
  intro q
  induction q with
  | zero => intro j τ h1 h2; omega
  | succ q ih =>
    intro j τ h1 h2 hF hi
    rw [f_X10_write_b58]
    refine wp_ite (fun c => ?_) (fun c => ?_)
    · have c' := (nI_leI (by omega) (by omega)).mp c
      have e : j = z := by omega
      subst e
      exact wp_some.mpr ⟨rfl, hF, hi⟩
    · have hj := nI_not_le c (by omega) (by omega)
      have ex : (60 : Int32) * nI s + nI j = nI (60 * s + j) := by rw [nI_lit 60, pk_mul, nI_add]
      rw [ex, nI_clamp (show 60 * s + j < 2 ^ 31 by omega), nI_clamp (show s < 2 ^ 31 by omega), nI_clamp (show j < 2 ^ 31 by omega), hF.1 65 (by decide) (by decide), hF.1 74 (by decide) (by decide), e65, e74 j hj, nI_1]
      refine wp_ckN hs (by decide) (wp_ckN (by omega) (by decide) (wp_bpE (cut_eq hf) (wp_ckN (by omega) (by decide) (wp_lt (ih (j + 1) _ (by omega) (by omega) (hF.row (by simp) (by decide)) (fun i => ?_))))))
      rw [ms_same]
      by_cases c2 : i = 60 * s + j
      · rw [c2, upd_s, if_pos (by omega), show 60 * s + j - 60 * s = j by omega]
      · rw [upd_n c2, hi i]
        by_cases c3 : 60 * s ≤ i ∧ i < 60 * s + j
        · rw [if_pos c3, if_pos (by omega)]
        · rw [if_neg c3, if_neg (by omega)]
theorem IN.fndX {α : Type} {k : Mem → Option α} {Q : α → Prop} (h : IN σ n0 t0 n1 t1 ns sb sm ng gt gk gb) (Y : MX OR [] σ τ) (hk : ∀ υ, MX [71, 72] [7, 9] τ υ → MW υ (nbB n0 t0) (kdB t0) (mkB t0) (mnB t0) (nkK n1 t1) (maK n1 t1) (bsK n1 t1) ns sb sm ng gt gk gb → wp (k υ) Q) : wp (bv (f_X10_find τ) k) Q := by
  refine wp_bv (wp_mono (find_wp (h.1.fx Y (by decide)).2.2) (fun υ g => hk υ g.1 ⟨g.2.1, g.2.2, (h.2.2.1.2.1.fx Y (by decide) (by decide)).fx g.1 (by decide) (by decide), ?_, (h.2.2.2.1.2.fx Y (by decide) (by decide)).fx g.1 (by decide) (by decide)⟩))
  have := h.mo (nb := nbB n0 t0)
  unfold Mo at this ⊢
  rw [g.1.2.1 13 (by decide), g.1.2.1 14 (by decide), Y.2.1 13 (by decide), Y.2.1 14 (by decide)]
  exact this
theorem op_write (h : INV σ) (x y : Int32) : wp (f_X9_write σ x y) (fun o => wp (f_X10_write o.2 x y) (fun o2 => o2.1 = o.1 ∧ INV o2.2)) := by
  have h0 := h
  obtain ⟨n0, t0, n1, t1, ns, sb, sm, ng, gt, gk, gb, hI⟩ := h
  have hI : IN σ n0 t0 n1 t1 ns sb sm ng gt gk gb := hI
  have C := hI.cw
  have k8 := C.2.1.1
  have a5 := hI.2.2.2.2.1
  unfold f_X9_write
  rw [show (100 : Int32) = nI 100 from rfl, show (4 : Int32) = nI 4 from rfl]
  refine wp_bpE (within_eq (by decide)) ?_
  by_cases c1 : 0 ≤ x.toInt ∧ x.toInt < (100 : Nat)
  · rw [if_pos c1]
    refine wp_ie (by decide) (wp_bpE (within_eq (by decide)) ?_)
    by_cases c2 : 0 ≤ y.toInt ∧ y.toInt < (4 : Nat)
    · rw [if_pos c2]
      obtain ⟨t, ht, rfl⟩ := inr c1
      obtain ⟨s, hs, rfl⟩ := inr c2
      have head : ∀ {τ : Mem} {A B : Option (Int32 × Mem)} {Q : Int32 × Mem → Prop} (hq : wp B Q), wp (bp (f_X10_isStep τ (nI t)) (fun v2 => if v2 = (0 : Int32) then A else bp (f_X10_isSheet τ (nI s)) (fun v5 => if v5 = (0 : Int32) then A else ck (nI s) 4 B))) Q := by
        intro τ A B Q hq
        refine wp_bpE isStep_eq ?_
        rw [if_pos c1]
        refine wp_ie (by decide) (wp_bpE isSheet_eq ?_)
        rw [if_pos c2]
        exact wp_ie (by decide) (wp_ckN hs (by decide) hq)
      unfold f_X10_write
      rw [nI_clamp (show s < 2 ^ 31 by omega)]
      obtain ⟨f, z, hf, hz, e2, e66, hit, hlo⟩ := a5.1 s hs
      refine wp_ie (by decide) (wp_ckN hs (by decide) ?_)
      rcases hlo with ⟨l1, l2⟩ | ⟨l1, l2, l3⟩
      · rw [l1]
        unfold f_X9_find f_X10_finds
        refine wp_ie (by decide) (wp_bi (wp_lt (wp_some.mpr (wp_some.mpr (head ?_)))))
        rw [ms_ne (show (65 : Nat) ≠ 0 by decide), l2]
        exact wp_ie (by decide) (wp_bi (wp_lt (wp_some.mpr (wp_some.mpr ⟨rfl, h0.fnd 1⟩))))
      · rw [l1, e2, C.2.1.2.1]
        have emin : (if nI (nkK n1 t1) < nI z then nI (nkK n1 t1) else nI z) = nI (min z (nkK n1 t1)) := by
          by_cases c : nkK n1 t1 < z
          · rw [if_pos ((nI_ltI (by omega) (by omega)).mpr c), Nat.min_eq_right (by omega)]
          · rw [if_neg (fun q => c ((nI_ltI (by omega) (by omega)).mp q)), Nat.min_eq_left (by omega)]
        rw [emin]
        have hm1 := Nat.min_le_left z (nkK n1 t1)
        have hm2 := Nat.min_le_right z (nkK n1 t1)
        generalize hz2 : min z (nkK n1 t1) = z2 at hm1 hm2 ⊢
        refine wp_it rfl (wp_mono (writeC_loop (σ := σ) (z := z2) C.2.2.2.2.2 ht hs hf hm2 k8 l2 300 0 σ (by omega) (by omega) Fr.rf (fun i => by rw [if_neg (by omega)])) (fun o q => ?_))
        obtain ⟨q1, q2, q3⟩ := q
        have in39 : 38 + 2 * s + 1 ∈ OR := by simp only [List.mem_cons, List.not_mem_nil, or_false]; omega
        have n64 : 64 ∉ [38 + 2 * s + 1] := by simp only [List.mem_singleton]; omega
        have Y1 : MX OR [] σ o.2 := (q2.toX n64).wide (fun r hr => by rw [List.mem_singleton.mp hr]; exact in39) (by simp)
        refine head (wp_it ?_ (hI.fndX Y1 (fun υ g M => wp_bv (wp_mono (lives_wp ht M.ms) (fun τ g2 => wp_ckN hs (by decide) ?_)))))
        · rw [q2.1 65 (by simp only [List.mem_singleton]; omega), l3]
          exact nI_pos' (by omega)
        have t66 : τ.1 66 s = nI z := by rw [g2.1.1 66 (by decide), g.1 66 (by decide) (by decide), q2.1 66 (by simp only [List.mem_singleton]; omega), e66]
        have t65 : τ.1 65 s = nI f := by rw [g2.1.1 65 (by decide), g.1 65 (by decide) (by decide), q2.1 65 (by simp only [List.mem_singleton]; omega), l3]
        have t67 : τ.1 67 = σ.1 67 := by rw [g2.1.1 67 (by decide), g.1 67 (by decide) (by decide), q2.1 67 (by simp only [List.mem_singleton]; omega)]
        have t9 : τ.1 64 9 = nI (nkK n1 t1) := by rw [g2.1.2.1 9 (by decide), M.2.1.2.1]
        have el : f_X10_lesser τ (nI z) (nI (nkK n1 t1)) = some (nI z2) := by
          unfold f_X10_lesser
          by_cases c : nkK n1 t1 ≤ z
          · rw [if_pos ((nI_leI (by omega) (by omega)).mpr c), ← hz2, Nat.min_eq_right (by omega)]
          · rw [if_neg (fun q => c ((nI_leI (by omega) (by omega)).mp q)), ← hz2, Nat.min_eq_left (by omega)]
        rw [t66, t9]
        refine wp_bpE el (wp_mono (writeM_loop (σ := τ) (z := z2) (pos := sim (lfc (kdB t0) (mkB t0) (mnB t0) (maK n1 t1) (shc sb sm 255 ns)) (nkK n1 t1) (nbB n0 t0) (bsK n1 t1) (t + 1)) hs hf (by omega) t65 (fun k hk => g2.2.1 k (by omega)) 300 0 τ (by omega) (by omega) MX.rf (fun i => by rw [if_neg (by omega)])) (fun o2 p => ?_))
        obtain ⟨p1, p2, p3⟩ := p
        have Ya : MX SC SI o.2 τ := (g.wide (by decide) (by decide)).tr (g2.1.toX.wide (by decide) (by decide))
        -- the scratch first, then the sheet
        have Y3 : MX (OR ++ SC) SI σ o2.2 := ((Y1.wide (by simp) (by simp)).tr (Ya.wide (by simp) (by simp))).tr (p2.wide (by decide) (by simp))
        have keepr : ∀ r, r ≠ 64 → r ∉ SC → r ≠ 67 → r ≠ 38 + 2 * s + 1 → o2.2.1 r = σ.1 r := fun r h0 h1 h2 h3 => by rw [p2.1 r h0 (by simp only [List.mem_singleton]; exact h2), Ya.1 r h0 h1, q2.1 r (by simp only [List.mem_singleton]; exact h3)]
        have keepf : ∀ i, i ∉ SI → o2.2.1 64 i = σ.1 64 i := fun i hi => by rw [p2.2.1 i (by simp), Ya.2.1 i hi, q2.1 64 n64]
        have t39 : ∀ i, o2.2.1 (39 + 2 * s) i = if i < z2 then cutF f (nI (sim (lfc (kdB t0) (mkB t0) (mnB t0) (maK n1 t1) (shc sb sm 255 ns)) (nkK n1 t1) (nbB n0 t0) (bsK n1 t1) (t + 1) i) - 1) else σ.1 (39 + 2 * s) i := fun i => by
          rw [p2.1 _ (by omega) (by simp only [List.mem_singleton]; omega), Ya.1 _ (by omega) (by simp only [List.mem_cons, List.not_mem_nil, or_false]; omega), show 39 + 2 * s = 38 + 2 * s + 1 by omega]
          exact q3 i
        obtain ⟨a1, a2, a3, a4, -, a6, a7⟩ := hI
        have Ysub : ∀ {rs : List Nat}, (∀ r, r ∈ rs → r ∉ SC ∧ r ∉ OR) → ∀ r, r ∈ rs → r ∉ OR ++ SC := fun hh r hr q => by
          rcases List.mem_append.mp q with q | q
          · exact (hh r hr).2 q
          · exact (hh r hr).1 q
        refine ⟨p1.trans q1.symm, IN.inv ⟨a1.fx Y3 (Ysub (by decide)), a2.fx Y3 (Ysub (by decide)), a3.fx Y3 (Ysub (by decide)) (by decide), a4.fx Y3 (Ysub (by decide)) (by decide), ⟨fun u hu => ?_, ?_, ?_, ?_⟩, a6.fr Y3.toFr (by decide) (by decide) (by decide) (by decide) (by decide), a7.fx Y3 (by decide)⟩⟩
        · by_cases e : u = s
          · subst e
            refine ⟨f, z, hf, hz, ?_, ?_, fun i hi => ?_, Or.inr ⟨?_, ?_, ?_⟩⟩
            · rw [keepr _ (by omega) (by simp only [List.mem_cons, List.not_mem_nil, or_false]; omega) (by omega) (by omega)]; exact e2
            · rw [keepr 66 (by decide) (by decide) (by decide) (by omega)]; exact e66
            · rw [t39 i, p3, t67]
              by_cases c : i < z2
              · rw [if_pos c, if_pos (by omega), show 60 * u + i - 60 * u = i by omega]
              · rw [if_neg c, if_neg (by omega)]
                exact hit i hi
            · rw [keepr _ (by omega) (by simp only [List.mem_cons, List.not_mem_nil, or_false]; omega) (by omega) (by omega)]; exact l1
            · rw [keepr _ (by omega) (by simp only [List.mem_cons, List.not_mem_nil, or_false]; omega) (by omega) (by omega)]; exact l2
            · rw [keepr 65 (by decide) (by decide) (by decide) (by omega)]; exact l3
          · obtain ⟨f', z', b1, b2, b3, b4, b5, b6⟩ := a5.1 u hu
            have e38 : o2.2.1 (38 + 2 * u) = σ.1 (38 + 2 * u) := keepr _ (by omega) (by simp only [List.mem_cons, List.not_mem_nil, or_false]; omega) (by omega) (by omega)
            have e39 : o2.2.1 (39 + 2 * u) = σ.1 (39 + 2 * u) := keepr _ (by omega) (by simp only [List.mem_cons, List.not_mem_nil, or_false]; omega) (by omega) (by omega)
            have e65' := keepr 65 (by decide) (by decide) (by decide) (by omega)
            have e66' := keepr 66 (by decide) (by decide) (by decide) (by omega)
            refine ⟨f', z', b1, b2, by rw [e38]; exact b3, by rw [e66']; exact b4, fun i hi => ?_, by rw [e38, e65']; exact b6⟩
            rw [e39, p3, t67, if_neg (by omega)]
            exact b5 i hi
        · rw [keepr 0 (by decide) (by decide) (by decide) (by omega), keepf 4 (by decide)]; exact a5.2.1
        · rw [keepf 13 (by decide)]; exact a5.2.2.1
        · rw [keepf 14 (by decide)]; exact a5.2.2.2
    · rw [if_neg c2]
      unfold f_X10_write
      refine wp_it rfl (wp_some.mpr (wp_bpE isStep_eq ?_))
      rw [if_pos c1]
      refine wp_ie (by decide) (wp_bpE isSheet_eq ?_)
      rw [if_neg c2]
      exact wp_it rfl (wp_some.mpr ⟨rfl, h0⟩)
  · rw [if_neg c1]
    unfold f_X10_write
    refine wp_it rfl (wp_some.mpr (wp_bpE isStep_eq ?_))
    rw [if_neg c1]
    exact wp_it rfl (wp_some.mpr ⟨rfl, h0⟩)
end WRI
