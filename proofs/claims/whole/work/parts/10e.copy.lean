/-! 10e: copy -/
section COP
variable {σ τ : Mem}
theorem has_eq {q z : Nat} {a n : Int32} (h : σ.1 q 2 = nI z) (hz : z ≤ 60) : f_X5_hasItems σ q a n = some (if 0 ≤ a.toInt ∧ 0 ≤ n.toInt ∧ a.toInt + n.toInt ≤ z then 1 else 0) := by
  unfold f_X5_hasItems
  rw [h]
  have h0 : ∀ x : Int32, x < 0 ↔ x.toInt < 0 := fun x => Int32.lt_iff_toInt_lt
  by_cases c1 : a.toInt < 0
  · rw [if_pos ((h0 a).mpr c1), if_neg (by omega)]
  · rw [if_neg (fun q => c1 ((h0 a).mp q))]
    by_cases c2 : n.toInt < 0
    · rw [if_pos ((h0 n).mpr c2), if_neg (by omega)]
    · rw [if_neg (fun q => c2 ((h0 n).mp q))]
      have h1 : nI z < n ↔ (z : Int) < n.toInt := by rw [Int32.lt_iff_toInt_lt, nI_toInt (by omega)]
      by_cases c3 : (z : Int) < n.toInt
      · rw [if_pos (h1.mpr c3), if_neg (by omega)]
      · rw [if_neg (fun q => c3 (h1.mp q))]
        obtain ⟨m, hm, rfl⟩ := inr (x := n) (n := 61) (by omega)
        have e := nI_toInt (show m < 2 ^ 31 by omega)
        have h2 : nI z - nI m < a ↔ (z : Int) - m < a.toInt := by rw [Int32.lt_iff_toInt_lt, subI (by omega) (by omega)]
        by_cases c4 : (z : Int) - m < a.toInt
        · rw [if_pos (h2.mpr c4), if_neg (by omega)]
        · rw [if_neg (fun q => c4 (h2.mp q)), if_pos (by omega)]
theorem add64 (a b : Int32) : (a.toInt64 + b.toInt64).toInt = a.toInt + b.toInt := by
  have h1 := a.toInt_lt
  have h2 := b.toInt_lt
  have h3 := a.le_toInt
  have h4 := b.le_toInt
  rw [Int64.toInt_add, Int32.toInt_toInt64, Int32.toInt_toInt64, Int.bmod_eq_of_le] <;> omega
theorem gt64 {a b : Int32} {z : Nat} (hz : z ≤ 60) : ((0 : Int32) < lg_cmp (a.toInt64 + b.toInt64) (nI z).toInt64) ↔ (z : Int) < a.toInt + b.toInt := by
  rw [lg_cmp_gt, Int64.lt_iff_toInt_lt, add64, Int32.toInt_toInt64, nI_toInt (by omega)]
theorem copyM_back {t j n : Nat} {f : Nat → Int32} (ht : t < 4) (hn : j + n ≤ 60) : ∀ (q i : Nat) (τ : Mem), i ≤ n → n < i + q → MX [67] [] σ τ → (∀ k, k < n → τ.1 68 k = f k) → (∀ k, τ.1 67 k = if 60 * t + j ≤ k ∧ k < 60 * t + j + i then f (k - (60 * t + j)) else σ.1 67 k) → wp (f_X10_copy_b157 q τ (nI t) (nI j) (nI n) (nI i)) (fun o => o.1 = 1 ∧ MX [67] [] σ o.2 ∧ (∀ k, o.2.1 67 k = if 60 * t + j ≤ k ∧ k < 60 * t + j + n then f (k - (60 * t + j)) else σ.1 67 k)) := by
  intro q
  induction q with
  | zero => intro i τ h1 h2; omega
  | succ q ih =>
    intro i τ h1 h2 hF hf hz
    rw [f_X10_copy_b157]
    refine wp_ite (fun c => ?_) (fun c => ?_)
    · have c' := (nI_leI (by omega) (by omega)).mp c
      have e : i = n := by omega
      subst e
      exact wp_some.mpr ⟨rfl, hF, hz⟩
    · have hi := nI_not_le c (by omega) (by omega)
      have ex : (60 : Int32) * nI t + nI j + nI i = nI (60 * t + j + i) := by rw [nI_lit 60, pk_mul, nI_add, nI_add]
      rw [ex, nI_clamp (show 60 * t + j + i < 2 ^ 31 by omega), nI_clamp (show i < 2 ^ 31 by omega), nI_1, hf i hi]
      refine wp_ckN (by omega) (by omega) (wp_ckN (by omega) (by omega) (wp_lt (ih (i + 1) _ (by omega) (by omega) (hF.row (by simp) (by decide)) (fun k hk => ?_) (fun k => ?_))))
      · rw [ms_ne (by decide)]
        exact hf k hk
      · rw [ms_same]
        by_cases e : k = 60 * t + j + i
        · rw [e, upd_s, if_pos (by omega), show 60 * t + j + i - (60 * t + j) = i by omega]
        · rw [upd_n e, hz k]
          by_cases c2 : 60 * t + j ≤ k ∧ k < 60 * t + j + i
          · rw [if_pos c2, if_pos (by omega)]
          · rw [if_neg c2, if_neg (by omega)]
theorem copyM_wp {s t i0 j n : Nat} (hs : s < 4) (ht : t < 4) (hi0 : i0 + n ≤ 60) (hn : j + n ≤ 60) : ∀ (q i : Nat) (τ : Mem), i ≤ n → n < i + q → MX [68] [] σ τ → (∀ k, k < i → τ.1 68 k = σ.1 67 (60 * s + i0 + k)) → wp (f_X10_copy_b120 q τ (nI s) (nI i0) (nI t) (nI j) (nI n) (nI i)) (fun o => o.1 = 1 ∧ MX [67, 68] [] σ o.2 ∧ (∀ k, o.2.1 67 k = if 60 * t + j ≤ k ∧ k < 60 * t + j + n then σ.1 67 (60 * s + i0 + (k - (60 * t + j))) else σ.1 67 k)) := by
  intro q
  induction q with
  | zero => intro i τ h1 h2; omega
  | succ q ih =>
    intro i τ h1 h2 hF hf
    rw [f_X10_copy_b120]
    refine wp_ite (fun c => ?_) (fun c => ?_)
    · have c' := (nI_leI (by omega) (by omega)).mp c
      have e : i = n := by omega
      subst e
      refine wp_mono (copyM_back (σ := τ) (f := fun k => σ.1 67 (60 * s + i0 + k)) ht hn 300 0 τ (by omega) (by omega) MX.rf hf (fun k => by rw [if_neg (by omega)])) (fun o h => ⟨h.1, (hF.wide (by simp) (by simp)).tr (h.2.1.wide (by simp) (by simp)), fun k => ?_⟩)
      rw [h.2.2 k, hF.1 67 (by decide) (by decide)]
    · have hi := nI_not_le c (by omega) (by omega)
      have ex : (60 : Int32) * nI s + nI i0 + nI i = nI (60 * s + i0 + i) := by rw [nI_lit 60, pk_mul, nI_add, nI_add]
      rw [ex, nI_clamp (show 60 * s + i0 + i < 2 ^ 31 by omega), nI_clamp (show i < 2 ^ 31 by omega), nI_1]
      refine wp_ckN (by omega) (by omega) (wp_ckN (by omega) (by omega) (wp_lt (ih (i + 1) _ (by omega) (by omega) (hF.row (by simp) (by decide)) (fun k hk => ?_))))
      rw [ms_same]
      by_cases e : k = i
      · rw [e, upd_s, hF.1 67 (by decide) (by decide)]
      · rw [upd_n e]
        exact hf k (by omega)
theorem op_copy (h : INV σ) (x i y j n : Int32) : wp (f_X9_copy σ x i y j n) (fun o => wp (f_X10_copy o.2 x i y j n) (fun o2 => o2.1 = o.1 ∧ INV o2.2)) := by
  have a5 := h.getO
  unfold f_X9_copy
  rw [show (4 : Int32) = nI 4 from rfl]
  refine wp_bpE (within_eq (by decide)) ?_
  unfold f_X10_copy
  by_cases c1 : 0 ≤ x.toInt ∧ x.toInt < (4 : Nat)
  · rw [if_pos c1]
    refine wp_ie (by decide) (wp_bpE (within_eq (by decide)) ?_)
    by_cases c2 : 0 ≤ y.toInt ∧ y.toInt < (4 : Nat)
    · rw [if_pos c2]
      have head : ∀ {τ : Mem} {A B : Option (Int32 × Mem)} {Q : Int32 × Mem → Prop} (hq : wp B Q), wp (bp (f_X10_isSheet τ x) (fun v2 => if v2 = (0 : Int32) then A else bp (f_X10_isSheet τ y) (fun v5 => if v5 = (0 : Int32) then A else B))) Q := by
        intro τ A B Q hq
        refine wp_bpE isSheet_eq ?_
        rw [if_pos c1]
        refine wp_ie (by decide) (wp_bpE isSheet_eq ?_)
        rw [if_pos c2]
        exact wp_ie (by decide) hq
      obtain ⟨s, hs, rfl⟩ := inr c1
      obtain ⟨t, ht, rfl⟩ := inr c2
      rw [nI_clamp (show s < 2 ^ 31 by omega), nI_clamp (show t < 2 ^ 31 by omega)]
      obtain ⟨f, z, hf, hz, e2, e66, hit, hlo⟩ := a5.1 s hs
      obtain ⟨f', z', hf', hz', e2', e66', hit', hlo'⟩ := a5.1 t ht
      refine wp_ie (by decide) (wp_ckN hs (by decide) (wp_ckN ht (by decide) ?_))
      unfold f_X9_copy_b51 f_X9_copy_b99 f_X9_find f_X10_copy_b35 f_X10_copy_b111 f_X10_finds
      have fin : ∀ v : Int32, INV (ms (ms σ 0 12 v) 64 4 v) := h.fnd
      rcases hlo with ⟨l1, l2⟩ | ⟨l1, l2, l3⟩
      · rw [l1]
        refine wp_ie (by decide) (wp_bi (wp_lt (wp_some.mpr (wp_some.mpr (head (wp_ckN hs (by decide) ?_))))))
        rw [ms_ne (show (65 : Nat) ≠ 0 by decide), l2]
        exact wp_it (by decide) (wp_bi (wp_lt (wp_some.mpr (wp_some.mpr ⟨rfl, fin 1⟩))))
      · rw [l1, l2]
        refine wp_it rfl ?_
        rcases hlo' with ⟨l1', l2'⟩ | ⟨l1', l2', l3'⟩
        · rw [l1']
          refine wp_ie (by decide) (wp_bi (wp_lt (wp_some.mpr (wp_some.mpr (head (wp_ckN hs (by decide) ?_))))))
          rw [ms_ne (show (65 : Nat) ≠ 0 by decide), l3, l2']
          exact wp_ie (nI_pos (by omega)) (wp_ckN ht (by decide) (wp_ie (by decide) (wp_bi (wp_lt (wp_some.mpr (wp_some.mpr ⟨rfl, fin 1⟩))))))
        · rw [l1', l2']
          refine wp_it rfl ?_
          -- the reference up to the kinds
          have head2 : ∀ {τ : Mem} {A B C : Option (Int32 × Mem)} {Q : Int32 × Mem → Prop} (h65 : τ.1 65 = σ.1 65) (hq : wp (if nI f = nI f' then B else C) Q), wp (ck (nI s) 4 (if τ.1 65 s < (0 : Int32) then A else ck (nI t) 4 (if (0 : Int32) ≤ τ.1 65 t then ck (nI s) 4 (ck (nI t) 4 (if τ.1 65 s = τ.1 65 t then B else C)) else A))) Q := by
            intro τ A B C Q h65 hq
            rw [h65, l3, l3']
            exact wp_ckN hs (by decide) (wp_ie (nI_pos (by omega)) (wp_ckN ht (by decide) (wp_it (nI_pos' (by omega)) (wp_ckN hs (by decide) (wp_ckN ht (by decide) hq)))))
          by_cases c3 : nI f = nI f'
          · refine wp_it c3 (wp_bpE (has_eq e2 hz) ?_)
            have h0 : ∀ x : Int32, x < 0 ↔ x.toInt < 0 := fun x => Int32.lt_iff_toInt_lt
            -- what stands wrong is found by both
            have bad : ¬ ((0 ≤ i.toInt ∧ 0 ≤ n.toInt ∧ i.toInt + n.toInt ≤ z) ∧ (0 ≤ j.toInt ∧ 0 ≤ n.toInt ∧ j.toInt + n.toInt ≤ z')) → ∀ {A B : Option (Int32 × Mem)} {Q : Int32 × Mem → Prop}, wp A Q → wp (if i < (0 : Int32) then A else if j < (0 : Int32) then A else if n < (0 : Int32) then A else ck (nI s) 4 (if (0 : Int32) < lg_cmp (i.toInt64 + n.toInt64) ((ms σ 0 12 2).1 66 s).toInt64 then A else ck (nI t) 4 (if lg_cmp (j.toInt64 + n.toInt64) ((ms σ 0 12 2).1 66 t).toInt64 ≤ (0 : Int32) then B else A))) Q := by
              intro hb A B Q done
              rw [ms_ne (show (66 : Nat) ≠ 0 by decide), e66, e66']
              refine wp_ite (fun _ => done) (fun b1 => wp_ite (fun _ => done) (fun b2 => wp_ite (fun _ => done) (fun b3 => wp_ckN hs (by decide) (wp_ite (fun _ => done) (fun b4 => wp_ckN ht (by decide) (wp_ie ?_ done))))))
              intro b5
              rw [h0] at b1 b2 b3
              rw [gt64 hz] at b4
              have b6 : ¬ ((0 : Int32) < lg_cmp (j.toInt64 + n.toInt64) (nI z').toInt64) := Int32.not_lt.mpr b5
              rw [gt64 hz'] at b6
              omega
            by_cases c4 : 0 ≤ i.toInt ∧ 0 ≤ n.toInt ∧ i.toInt + n.toInt ≤ z
            · rw [if_pos c4]
              refine wp_ie (by decide) (wp_bpE (has_eq e2' hz') ?_)
              by_cases c5 : 0 ≤ j.toInt ∧ 0 ≤ n.toInt ∧ j.toInt + n.toInt ≤ z'
              · rw [if_pos c5]
                obtain ⟨i, hi, rfl⟩ := inr (x := i) (n := 61) (by omega)
                obtain ⟨j, hj, rfl⟩ := inr (x := j) (n := 61) (by omega)
                obtain ⟨n, hn, rfl⟩ := inr (x := n) (n := 61) (by omega)
                rw [nI_toInt (show i < 2 ^ 31 by omega), nI_toInt (show n < 2 ^ 31 by omega)] at c4
                rw [nI_toInt (show j < 2 ^ 31 by omega), nI_toInt (show n < 2 ^ 31 by omega)] at c5
                rw [nI_clamp (show i < 2 ^ 31 by omega), nI_clamp (show j < 2 ^ 31 by omega), nI_clamp (show n < 2 ^ 31 by omega)]
                refine wp_ie (by decide) (wp_cp (nI_pos (by omega)) (nI_pos (by omega)) (nI_pos (by omega)) (by rw [nI_clamp (show i < 2 ^ 31 by omega), nI_clamp (show n < 2 ^ 31 by omega)]; omega) (by rw [nI_clamp (show j < 2 ^ 31 by omega), nI_clamp (show n < 2 ^ 31 by omega)]; omega) (wp_lt (wp_some.mpr (head ?_))))
                generalize hw : va_cpy (σ.1 (38 + 2 * s + 1)) (σ.1 (38 + 2 * t + 1)) i j n = w
                refine head2 (mw_ne (by omega)) (wp_it c3 (wp_ie (nI_pos (by omega)) (wp_ie (nI_pos (by omega)) (wp_ie (nI_pos (by omega)) (wp_ckN hs (by decide) ?_)))))
                rw [mw_ne (show 66 ≠ 38 + 2 * t + 1 by omega), e66, e66']
                refine wp_ie (by rw [gt64 hz, nI_toInt (show i < 2 ^ 31 by omega), nI_toInt (show n < 2 ^ 31 by omega)]; omega) (wp_ckN ht (by decide) (wp_it (Int32.not_lt.mp (by rw [gt64 hz', nI_toInt (show j < 2 ^ 31 by omega), nI_toInt (show n < 2 ^ 31 by omega)]; omega)) ?_))
                refine wp_mono (copyM_wp (σ := mw σ (38 + 2 * t + 1) w) hs ht (by omega) (by omega) 300 0 _ (by omega) (by omega) MX.rf (fun k hk => by omega)) (fun o q => ?_)
                obtain ⟨q1, q2, q3⟩ := q
                have in39 : 38 + 2 * t + 1 ∈ OR := by simp only [List.mem_cons, List.not_mem_nil, or_false]; omega
                have Y0 : Fr OR σ (mw σ (38 + 2 * t + 1) w) := Fr.rf.mw in39
                have Y : MX OR [] σ o.2 := (Y0.toX (by decide)).tr (q2.wide (by simp) (by simp))
                have tr : ∀ r, r ≠ 64 → r ≠ 67 → r ≠ 68 → r ≠ 38 + 2 * t + 1 → o.2.1 r = σ.1 r := fun r g0 g1 g2 g3 => by rw [q2.1 r g0 (by simp only [List.mem_cons, List.not_mem_nil, or_false]; omega), mw_ne g3]
                have t39 : o.2.1 (39 + 2 * t) = w := by rw [q2.1 _ (by omega) (by simp only [List.mem_cons, List.not_mem_nil, or_false]; omega), show 39 + 2 * t = 38 + 2 * t + 1 by omega, mw_same]
                have t67 : ∀ k, o.2.1 67 k = if 60 * t + j ≤ k ∧ k < 60 * t + j + n then σ.1 67 (60 * s + i + (k - (60 * t + j))) else σ.1 67 k := fun k => by rw [q3 k, mw_ne (show 67 ≠ 38 + 2 * t + 1 by omega)]
                refine ⟨q1, h.oth (Y.wide (by simp) (by simp)) (a5.put Y ht ?_ (fun r hr hr1 hr2 => ?_) (fun k hk => ?_) (fun k hk => ?_) ⟨f', z', hf', hz', ?_, ?_, fun k hk => ?_, Or.inr ⟨?_, ?_, ?_⟩⟩)⟩
                · rw [tr 0 (by decide) (by decide) (by decide) (by omega)]
                · simp only [List.mem_cons, List.not_mem_nil, or_false] at hr
                  rw [tr r (by omega) (by omega) (by omega) (by omega)]
                · rw [tr 65 (by decide) (by decide) (by decide) (by omega), tr 66 (by decide) (by decide) (by decide) (by omega)]
                  exact ⟨rfl, rfl⟩
                · rw [t67, if_neg (by omega)]
                · rw [tr _ (by omega) (by omega) (by omega) (by omega)]
                  exact e2'
                · rw [tr 66 (by decide) (by decide) (by decide) (by omega)]
                  exact e66'
                · rw [t39, t67, ← hw]
                  unfold va_cpy
                  by_cases c6 : j ≤ k ∧ k < j + n
                  · rw [if_pos c6, if_pos (by omega), show 38 + 2 * s + 1 = 39 + 2 * s by omega, hit _ (by omega), show 60 * s + i + (60 * t + k - (60 * t + j)) = 60 * s + (i + (k - j)) by omega]
                  · rw [if_neg c6, if_neg (by omega), show 38 + 2 * t + 1 = 39 + 2 * t by omega, hit' _ (by omega)]
                · rw [tr _ (by omega) (by omega) (by omega) (by omega)]
                  exact l1'
                · rw [tr _ (by omega) (by omega) (by omega) (by omega)]
                  exact l2'
                · rw [tr _ (by decide) (by decide) (by decide) (by omega)]
                  exact l3'
              · rw [if_neg c5]
                exact wp_it rfl (wp_bi (wp_lt (wp_some.mpr (wp_some.mpr (head (head2 (ms_ne (by decide)) (wp_it c3 (bad (fun q => c5 q.2) (wp_bi (wp_lt (wp_some.mpr (wp_some.mpr ⟨rfl, fin 2⟩))))))))))))
            · rw [if_neg c4]
              exact wp_it rfl (wp_bi (wp_lt (wp_some.mpr (wp_some.mpr (head (head2 (ms_ne (by decide)) (wp_it c3 (bad (fun q => c4 q.1) (wp_bi (wp_lt (wp_some.mpr (wp_some.mpr ⟨rfl, fin 2⟩))))))))))))
          · refine wp_ie c3 (wp_bi (wp_lt (wp_some.mpr (wp_some.mpr (head (head2 (ms_ne (by decide)) (wp_ie c3 ?_)))))))
            exact wp_bi (wp_lt (wp_some.mpr (wp_some.mpr ⟨rfl, fin 4⟩)))
    · rw [if_neg c2]
      refine wp_it rfl (wp_some.mpr (wp_bpE isSheet_eq ?_))
      rw [if_pos c1]
      refine wp_ie (by decide) (wp_bpE isSheet_eq ?_)
      rw [if_neg c2]
      exact wp_it rfl (wp_some.mpr ⟨rfl, h⟩)
  · rw [if_neg c1]
    refine wp_it rfl (wp_some.mpr (wp_bpE isSheet_eq ?_))
    rw [if_neg c1]
    exact wp_it rfl (wp_some.mpr ⟨rfl, h⟩)
end COP
