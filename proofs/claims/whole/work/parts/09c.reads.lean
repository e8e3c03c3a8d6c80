/-! 09c: the reference reads the text of boats -/
def zz (b : Bool) : Int32 := if b = true then 1 else 0
section RK
variable {σ τ : Mem} {n n0 pl i j c b m : Nat} {t t0 : Nat → Nat} {e : Bool}
theorem h116 {K : Mem → Int32 → Int32 → Int32 → Int32 → Option (Int32 × Mem)} {x1 x2 x4 x6 x7 : Int32} (hb : b < 256) : f_X10_readsBoats_b116 K σ x1 x2 (zz e) x4 (nI b) x6 x7 = f_X10_readsBoats_b134 K σ x1 x2 x4 (nI b) x6 x7 (zz (e && decide (b = 59))) := by
  unfold f_X10_readsBoats_b116 f_X10_readsBoats_b133
  cases e with
  | false => rfl
  | true =>
    rw [if_neg (show ¬ zz true = 0 by decide)]
    by_cases c : b = 59
    · rw [if_pos (show nI b = (59 : Int32) by rw [c]; rfl), decide_eq_true c]
      rfl
    · rw [if_neg (show ¬ nI b = (59 : Int32) from fun q => c ((nI_eq (b := 59) (by omega) (by omega)).mp q)), decide_eq_false c]
      rfl
theorem h81 {K : Mem → Int32 → Int32 → Int32 → Int32 → Option (Int32 × Mem)} {x1 x2 x4 x6 : Int32} (hb : b < 256) (hj : σ.1 64 9 = nI j) (hj8 : j ≤ 8) : f_X10_readsBoats_b81 K σ x1 x2 (zz e) x4 (nI b) x6 = f_X10_readsBoats_b116 K σ x1 x2 (zz e) x4 (nI b) x6 (zz (!e && isD b && decide (j < 8))) := by
  unfold f_X10_readsBoats_b81 f_X10_readsBoats_b115
  have eb : (nI b).toInt = (b : Int) := nI_toInt (by omega)
  cases e with
  | true =>
    rw [if_neg (show ¬ zz true = 0 by decide)]
    rfl
  | false =>
    rw [if_pos (show zz false = 0 from rfl), in_lit (a := 48) (b := 57) (by decide) (by decide), bp_some, eb, hj]
    unfold isD
    by_cases c1 : 48 ≤ b ∧ b ≤ 57
    · rw [if_pos (show ((48 : Nat) : Int) ≤ (b : Int) ∧ (b : Int) ≤ ((57 : Nat) : Int) by omega), if_neg (show ¬ (1 : Int32) = 0 by decide), decide_eq_true c1]
      by_cases c2 : j < 8
      · rw [if_neg (show ¬ (8 : Int32) ≤ nI j from fun q => by have := (nI_leI (a := 8) (by omega) (by omega)).mp q; omega), decide_eq_true c2]
        rfl
      · rw [if_pos (show (8 : Int32) ≤ nI j from (nI_leI (a := 8) (by omega) (by omega)).mpr (by omega)), decide_eq_false c2]
        rfl
    · rw [if_neg (show ¬ (((48 : Nat) : Int) ≤ (b : Int) ∧ (b : Int) ≤ ((57 : Nat) : Int)) by omega), if_pos rfl, decide_eq_false c1]
      rfl
/-- one byte -/
theorem h24 (hi : i < n) (hn : n ≤ 63) (hc : c ≤ 6) (hb : b < 256) (hB : σ.1 69 (64 + i) = nI b) (hj : σ.1 64 9 = nI j) (hj8 : j ≤ 8) : f_X10_readsBoats_b24 (m + 1) σ (nI n) (nI c) (zz e) (nI i) = f_X10_readsBoats_b134 (f_X10_readsBoats_b24 m) σ (nI n) (nI c) (nI i) (nI b) (zz (!e && isM b && decide (c < 6) && decide (j < 8))) (zz (!e && isD b && decide (j < 8))) (zz (e && decide (b = 59))) := by
  rw [f_X10_readsBoats_b24]
  have e64 : (64 : Int32) + nI i = nI (64 + i) := nI_add 64 i
  have eb : (nI b).toInt = (b : Int) := nI_toInt (by omega)
  rw [if_neg (fun q => by have := (nI_leI (by omega) (by omega)).mp q; omega), e64, ck_N (by omega) (by omega), nI_clamp (by omega), hB, ← h116 hb, ← h81 hb hj hj8]
  unfold f_X10_readsBoats_b80
  cases e with
  | true =>
    rw [if_neg (show ¬ zz true = 0 by decide)]
    rfl
  | false =>
    rw [if_pos (show zz false = 0 from rfl), in_lit (a := 97) (b := 102) (by decide) (by decide), bp_some, eb, hj]
    unfold isM
    by_cases c1 : 97 ≤ b ∧ b ≤ 102
    · rw [if_pos (show ((97 : Nat) : Int) ≤ (b : Int) ∧ (b : Int) ≤ ((102 : Nat) : Int) by omega), if_neg (show ¬ (1 : Int32) = 0 by decide), decide_eq_true c1]
      by_cases c3 : c < 6
      · rw [if_neg (show ¬ (6 : Int32) ≤ nI c from fun q => by have := (nI_leI (a := 6) (by omega) (by omega)).mp q; omega), decide_eq_true c3]
        by_cases c2 : j < 8
        · rw [if_neg (show ¬ (8 : Int32) ≤ nI j from fun q => by have := (nI_leI (a := 8) (by omega) (by omega)).mp q; omega), decide_eq_true c2]
          rfl
        · rw [if_pos (show (8 : Int32) ≤ nI j from (nI_leI (a := 8) (by omega) (by omega)).mpr (by omega)), decide_eq_false c2]
          rfl
      · rw [if_pos (show (6 : Int32) ≤ nI c from (nI_leI (a := 6) (by omega) (by omega)).mpr (by omega)), decide_eq_false c3]
        rfl
    · rw [if_neg (show ¬ (((97 : Nat) : Int) ≤ (b : Int) ∧ (b : Int) ≤ ((102 : Nat) : Int)) by omega), if_pos rfl, decide_eq_false c1]
      rfl
/-- a mark -/
theorem k_mark {Q : Int32 × Mem → Prop} (hi : i < n) (hn : n ≤ 63) (hc : c < 6) (hb : b < 256) (hB : σ.1 69 (64 + i) = nI b) (hj : σ.1 64 9 = nI j) (hj8 : j < 8) (hm : isM b = true) (hk : wp (f_X10_readsBoats_b24 m (ms σ 72 (7 * j + (b - 97)) (σ.1 72 (7 * j + (b - 97)) + 1)) (nI n) (nI (c + 1)) (zz false) (nI (i + 1))) Q) : wp (f_X10_readsBoats_b24 (m + 1) σ (nI n) (nI c) (zz false) (nI i)) Q := by
  rw [h24 (e := false) hi hn (by omega) hb hB hj (by omega), hm, decide_eq_true hc, decide_eq_true hj8]
  have hm2 := hm
  unfold isM at hm2
  rw [decide_eq_true_iff] at hm2
  have hd : isD b = false := decide_eq_false (by omega)
  rw [hd]
  unfold f_X10_readsBoats_b134
  refine wp_ie (by decide) ?_
  unfold f_X10_readsBoats_b159
  refine wp_ie (by decide) ?_
  have ex : (7 : Int32) * σ.1 64 9 + nI b - (97 : Int32) = nI (7 * j + (b - 97)) := by
    rw [hj, nI_lit 7, pk_mul, nI_add, nI_lit 97, pk_sub (by omega), show 7 * j + b - 97 = 7 * j + (b - 97) by omega]
  rw [ex, nI_clamp (by omega), nI_1]
  refine wp_ckN (by omega) (by omega) (wp_ckN (by omega) (by omega) (wp_lt ?_))
  unfold f_X10_readsBoats_b189
  refine wp_it (by decide) ?_
  unfold f_X10_readsBoats_b224
  refine wp_it (show zz (false && decide (b = 59)) = 0 from rfl) ?_
  unfold f_X10_readsBoats_b248
  rw [nI_1]
  exact hk
/-- a start -/
theorem k_start {Q : Int32 × Mem → Prop} (hi : i < n) (hn : n ≤ 63) (hc : c ≤ 6) (hb : b < 256) (hB : σ.1 69 (64 + i) = nI b) (hj : σ.1 64 9 = nI j) (hj8 : j < 8) (hd : isD b = true) (hk : wp (f_X10_readsBoats_b24 m (ms (ms σ 72 (7 * j + 6) (nI (b - 48))) 64 9 (nI (j + 1))) (nI n) (nI c) (zz true) (nI (i + 1))) Q) : wp (f_X10_readsBoats_b24 (m + 1) σ (nI n) (nI c) (zz false) (nI i)) Q := by
  have hd2 := hd
  unfold isD at hd2
  rw [decide_eq_true_iff] at hd2
  have hm : isM b = false := decide_eq_false (by omega)
  rw [h24 (e := false) hi hn hc hb hB hj (by omega), hm, hd, decide_eq_true hj8]
  unfold f_X10_readsBoats_b134
  refine wp_it rfl (wp_ie (by decide) ?_)
  unfold f_X10_readsBoats_b159
  refine wp_it rfl ?_
  unfold f_X10_readsBoats_b189
  refine wp_ie (by decide) ?_
  have ex : (7 : Int32) * σ.1 64 9 + (6 : Int32) = nI (7 * j + 6) := by rw [hj, nI_lit 7, pk_mul, nI_lit 6, nI_add]
  have e48 : nI b - (48 : Int32) = nI (b - 48) := pk_sub (b := 48) (by omega)
  rw [ex, nI_clamp (by omega), e48]
  refine wp_ckN (by omega) (by omega) (wp_lt (wp_lt ?_))
  rw [ms_ne (show (64 : Nat) ≠ 72 by decide), hj, nI_1]
  unfold f_X10_readsBoats_b224
  refine wp_it (show zz (false && decide (b = 59)) = 0 from rfl) ?_
  unfold f_X10_readsBoats_b248
  rw [nI_1]
  exact hk
/-- a wrong byte -/
theorem k_bad {Q : Int32 × Mem → Prop} (hi : i < n) (hn : n ≤ 63) (hc : c ≤ 6) (hb : b < 256) (hB : σ.1 69 (64 + i) = nI b) (hj : σ.1 64 9 = nI j) (hj8 : j ≤ 8) (h1 : (!e && isM b && decide (c < 6) && decide (j < 8)) = false) (h2 : (!e && isD b && decide (j < 8)) = false) (h3 : (e && decide (b = 59)) = false) (hk : Q (nI i, ms σ 64 9 0)) : wp (f_X10_readsBoats_b24 (m + 1) σ (nI n) (nI c) (zz e) (nI i)) Q := by
  rw [h24 hi hn hc hb hB hj hj8, h1, h2, h3]
  unfold f_X10_readsBoats_b134
  exact wp_it rfl (wp_it rfl (wp_it rfl (wp_lt (wp_some.mpr hk))))
theorem bares_loop (hj : j < 8) : ∀ (q a : Nat) (τ : Mem), a ≤ 7 → 7 < a + q → MX [72] [9] σ τ → τ.1 64 = σ.1 64 → (∀ x, (x < 7 * j ∨ 7 * j + 7 ≤ x) → τ.1 72 x = σ.1 72 x) → (∀ x, x < a → τ.1 72 (7 * j + x) = 0) → wp (f_X10_bares_b2 q τ (nI j) (nI a)) (fun υ => MX [72] [9] σ υ ∧ υ.1 64 = σ.1 64 ∧ (∀ x, (x < 7 * j ∨ 7 * j + 7 ≤ x) → υ.1 72 x = σ.1 72 x) ∧ ∀ x, x < 7 → υ.1 72 (7 * j + x) = 0) := by
  intro q
  induction q with
  | zero => intro a τ h1 h2; omega
  | succ q ih =>
    intro a τ h1 h2 hF h64 ho hz
    rw [f_X10_bares_b2]
    refine wp_ite (fun c => ?_) (fun c => ?_)
    · have c' : 7 ≤ a := (nI_leI (a := 7) (by omega) (by omega)).mp c
      exact wp_some.mpr ⟨hF, h64, ho, fun x hx => hz x (by omega)⟩
    · have ha : a < 7 := nI_not_le (a := 7) c (by omega) (by omega)
      have ex : (7 : Int32) * nI j + nI a = nI (7 * j + a) := by rw [nI_lit 7, pk_mul, nI_add]
      rw [ex, nI_clamp (by omega), nI_1]
      refine wp_ckN (by omega) (by omega) (wp_lt (ih (a + 1) _ (by omega) (by omega) (hF.row (by simp) (by decide)) (by rw [ms_ne (by decide)]; exact h64) (fun x hx => ?_) (fun x hx => ?_)))
      · rw [ms_same, upd_n (by omega)]
        exact ho x hx
      · rw [ms_same]
        by_cases e : x = a
        · rw [e, upd_s]
        · rw [upd_n (by omega)]
          exact hz x (by omega)
theorem bares_wp (hj : j < 8) : wp (f_X10_bares σ (nI j)) (fun υ => MX [72] [9] σ υ ∧ υ.1 64 = σ.1 64 ∧ (∀ x, (x < 7 * j ∨ 7 * j + 7 ≤ x) → υ.1 72 x = σ.1 72 x) ∧ ∀ x, x < 7 → υ.1 72 (7 * j + x) = 0) := by
  unfold f_X10_bares
  exact bares_loop hj 300 0 σ (by omega) (by omega) MX.rf rfl (fun _ _ => rfl) (fun x hx => by omega)
/-- a ';' -/
theorem k_next {Q : Int32 × Mem → Prop} (hi : i < n) (hn : n ≤ 63) (hc : c ≤ 6) (hB : σ.1 69 (64 + i) = nI 59) (hj : σ.1 64 9 = nI j) (hj8 : j ≤ 8) (hk : j < 8 → ∀ υ : Mem, MX [72] [9] σ υ → υ.1 64 = σ.1 64 → (∀ x, (x < 7 * j ∨ 7 * j + 7 ≤ x) → υ.1 72 x = σ.1 72 x) → (∀ x, x < 7 → υ.1 72 (7 * j + x) = 0) → wp (f_X10_readsBoats_b24 m υ (nI n) (nI 0) (zz false) (nI (i + 1))) Q) (hk8 : j = 8 → wp (f_X10_readsBoats_b24 m σ (nI n) (nI c) (zz false) (nI (i + 1))) Q) : wp (f_X10_readsBoats_b24 (m + 1) σ (nI n) (nI c) (zz true) (nI i)) Q := by
  rw [h24 (e := true) hi hn hc (by omega) hB hj hj8]
  unfold f_X10_readsBoats_b134
  refine wp_it rfl (wp_it rfl (wp_ie (by decide) ?_))
  unfold f_X10_readsBoats_b159
  refine wp_it rfl ?_
  unfold f_X10_readsBoats_b189
  refine wp_it rfl ?_
  unfold f_X10_readsBoats_b224
  refine wp_ie (by decide) ?_
  rw [hj]
  refine wp_ite (fun c8 => ?_) (fun c8 => ?_)
  · have : 8 ≤ j := (nI_leI (a := 8) (by omega) (by omega)).mp c8
    unfold f_X10_readsBoats_b248
    rw [nI_1]
    exact hk8 (by omega)
  · have : j < 8 := nI_not_le (a := 8) c8 (by omega) (by omega)
    refine wp_bv (wp_mono (bares_wp this) (fun υ h => ?_))
    unfold f_X10_readsBoats_b248
    rw [nI_1]
    exact hk this υ h.1 h.2.1 h.2.2.1 h.2.2.2
/-- the end of the text -/
theorem k_end {Q : Int32 × Mem → Prop} (hn : n ≤ 63) (h0 : 0 < n) (hk : e = true → Q ((-1 : Int32), σ)) (hk2 : e = false → Q (nI n, ms σ 64 9 0)) : wp (f_X10_readsBoats_b24 (m + 1) σ (nI n) (nI c) (zz e) (nI n)) Q := by
  rw [f_X10_readsBoats_b24]
  refine wp_it ((nI_leI (by omega) (by omega)).mpr (Nat.le_refl _)) (wp_ie (nI_nle h0 (by omega)) ?_)
  cases e with
  | true => exact wp_ie (by decide) (wp_some.mpr (hk rfl))
  | false => exact wp_it rfl (wp_lt (wp_some.mpr (hk2 rfl)))
theorem marksM (hn : n ≤ 63) (hj8 : j < 8) {Q : Int32 × Mem → Prop} (hk : ∀ (q : Nat) (τ : Mem), 100 ≤ q + (pl + mkc n t pl) → MX [72] [9] σ τ → τ.1 64 = σ.1 64 → (∀ x, (x < 7 * j ∨ 7 * j + 7 ≤ x) → τ.1 72 x = σ.1 72 x) → (∀ m, m < 6 → τ.1 72 (7 * j + m) = nI (bcnt t pl (mkc n t pl) m)) → wp (f_X10_readsBoats_b24 q τ (nI n) (nI (mkc n t pl)) (zz false) (nI (pl + mkc n t pl))) Q) :
    ∀ (d c q : Nat) (τ : Mem), c + d = mkc n t pl → 100 ≤ q + (pl + c) → Mtx τ n0 t0 n t → τ.1 64 9 = nI j → MX [72] [9] σ τ → τ.1 64 = σ.1 64 → (∀ x, (x < 7 * j ∨ 7 * j + 7 ≤ x) → τ.1 72 x = σ.1 72 x) → (∀ m, m < 6 → τ.1 72 (7 * j + m) = nI (bcnt t pl c m)) → wp (f_X10_readsBoats_b24 q τ (nI n) (nI c) (zz false) (nI (pl + c))) Q := by
  intro d
  have h6 := mkc_le (n := n) (t := t) (pl := pl)
  induction d with
  | zero =>
    intro c q τ h1 h2 hT h9 hF h64 ho hz
    have e : c = mkc n t pl := by omega
    rw [e]
    exact hk q τ (by omega) hF h64 ho (fun m hm => by rw [← e]; exact hz m hm)
  | succ d ih =>
    intro c q τ h1 h2 hT h9 hF h64 ho hz
    obtain ⟨a1, a2⟩ := mkc_yes (n := n) (t := t) (pl := pl) (i := c) (by omega)
    obtain ⟨q, rfl⟩ : ∃ z, q = z + 1 := ⟨q - 1, by omega⟩
    obtain ⟨eb, hb⟩ := hT.2.2.2.2.2 (pl + c) a1
    have am := a2
    unfold isM at am
    rw [decide_eq_true_iff] at am
    refine k_mark a1 hn (by omega) hb eb h9 hj8 a2 ?_
    have f1 : MX [72] [9] τ (ms τ 72 (7 * j + (t (pl + c) - 97)) (τ.1 72 (7 * j + (t (pl + c) - 97)) + 1)) := MX.rf.row (by simp) (by decide)
    refine ih (c + 1) q _ (by omega) (by omega) (hT.fr f1 (by decide) (by decide)) (by rw [ms_ne (by decide)]; exact h9) (hF.tr f1) (by rw [ms_ne (by decide)]; exact h64) (fun x hx => ?_) (fun m hm => ?_)
    · rw [ms_same, upd_n (by omega)]
      exact ho x hx
    · rw [ms_same, bcnt_succ]
      by_cases e2 : m = t (pl + c) - 97
      · rw [e2, upd_s, hz _ (by omega), nI_1, if_pos (by omega)]
      · rw [upd_n (by omega), hz m hm, if_neg (by omega), Nat.add_zero]
theorem readsK_loop (hn : n ≤ 63) (h0 : 0 < n) : ∀ (f j pl c q : Nat) (σ : Mem), f + j = 8 → 100 ≤ q + pl → pl = bps n t j → pl ≤ n → Mtx σ n0 t0 n t → σ.1 64 9 = nI j → (∀ k, k < j → (∀ m, m < 6 → σ.1 72 (7 * k + m) = nI (maK n t k m)) ∧ σ.1 72 (7 * k + 6) = nI (bsK n t k) ∧ bsK n t k < 10) → (j < 8 → c = 0 ∧ ∀ x, x < 7 → σ.1 72 (7 * j + x) = 0) → c ≤ 6 →
    wp (f_X10_readsBoats_b24 q σ (nI n) (nI c) (zz false) (nI pl)) (fun o => o.1 = (bpr n t f pl j).1 ∧ MX [72] [9] σ o.2 ∧ o.2.1 64 9 = nI (bpr n t f pl j).2 ∧ (bpr n t f pl j).2 ≤ 8 ∧ ∀ k, k < (bpr n t f pl j).2 → (∀ m, m < 6 → o.2.1 72 (7 * k + m) = nI (maK n t k m)) ∧ o.2.1 72 (7 * k + 6) = nI (bsK n t k) ∧ bsK n t k < 10) := by
  intro f
  induction f with
  | zero =>
    intro j pl c q σ h1 h2 hpl hle hT h9 hrow hbare hc
    have ej : j = 8 := by omega
    subst ej
    obtain ⟨q, rfl⟩ : ∃ z, q = z + 1 := ⟨q - 1, by omega⟩
    have fin : (nI pl, ms σ 64 9 0).1 = (bpr n t 0 pl 8).1 ∧ MX [72] [9] σ (nI pl, ms σ 64 9 0).2 ∧ (nI pl, ms σ 64 9 0).2.1 64 9 = nI (bpr n t 0 pl 8).2 ∧ (bpr n t 0 pl 8).2 ≤ 8 ∧ ∀ k, k < (bpr n t 0 pl 8).2 → (∀ m, m < 6 → (nI pl, ms σ 64 9 0).2.1 72 (7 * k + m) = nI (maK n t k m)) ∧ (nI pl, ms σ 64 9 0).2.1 72 (7 * k + 6) = nI (bsK n t k) ∧ bsK n t k < 10 := by
      refine ⟨rfl, MX.rf.fld (by simp), ?_, Nat.zero_le _, fun k hk => absurd hk (Nat.not_lt_zero _)⟩
      show (ms σ 64 9 0).1 64 9 = nI 0
      rw [ms_same, upd_s]
      rfl
    by_cases e : pl = n
    · rw [e] at fin ⊢
      exact k_end hn h0 (fun q => by cases q) (fun _ => fin)
    · obtain ⟨eb, hb⟩ := hT.2.2.2.2.2 pl (by omega)
      exact k_bad (e := false) (by omega) hn hc hb eb h9 (Nat.le_refl _) (by simp) (by simp) (by simp) fin
  | succ f ih =>
    intro j pl c q σ h1 h2 hpl hle hT h9 hrow hbare hc
    have hj8 : j < 8 := by omega
    obtain ⟨ec, hz⟩ := hbare hj8
    subst ec
    have h6 := mkc_le (n := n) (t := t) (pl := pl)
    have hkeep : ∀ τ : Mem, (∀ x, (x < 7 * j ∨ 7 * j + 7 ≤ x) → τ.1 72 x = σ.1 72 x) → ∀ k, k < j → (∀ m, m < 6 → τ.1 72 (7 * k + m) = nI (maK n t k m)) ∧ τ.1 72 (7 * k + 6) = nI (bsK n t k) ∧ bsK n t k < 10 := fun τ ho k hk => by
      obtain ⟨r1, r2⟩ := hrow k hk
      refine ⟨fun m hm => ?_, ?_⟩
      · rw [ho _ (by omega)]
        exact r1 m hm
      · rw [ho _ (by omega)]
        exact r2
    refine marksM (pl := pl) (j := j) (t := t) (n0 := n0) (t0 := t0) (σ := σ) hn hj8 ?_ (mkc n t pl) 0 q σ (by omega) (by omega) hT h9 MX.rf rfl (fun _ _ => rfl) (fun m hm => ?_)
    · intro q τ hq hF h64 ho hm
      have hT2 := hT.fr hF (by decide) (by decide)
      have h9t : τ.1 64 9 = nI j := by rw [h64]; exact h9
      rw [bpr]
      have hno := mkc_no (n := n) (t := t) (pl := pl)
      have ebs : bsK n t j = t (pl + mkc n t pl) - 48 := by unfold bsK; rw [← hpl]
      have ema : ∀ i, maK n t j i = bcnt t pl (mkc n t pl) i := fun i => by unfold maK; rw [← hpl]
      have hsn : pl + mkc n t pl ≤ n := by
        by_cases e : mkc n t pl = 0
        · omega
        · have := (mkc_yes (n := n) (t := t) (pl := pl) (i := mkc n t pl - 1) (by omega)).1
          omega
      have hnx : bps n t (j + 1) = pl + mkc n t pl + 2 := by show bps n t j + mkc n t (bps n t j) + 2 = _; rw [← hpl]
      generalize hc' : mkc n t pl = C at *
      generalize hs : pl + C = s at *
      have zero : ∀ υ : Mem, MX [72] [9] σ υ → ∀ v : Nat, (nI v, ms υ 64 9 0).1 = ((nI v, 0) : Int32 × Nat).1 ∧ MX [72] [9] σ (nI v, ms υ 64 9 0).2 ∧ (nI v, ms υ 64 9 0).2.1 64 9 = nI ((nI v, 0) : Int32 × Nat).2 ∧ ((nI v, 0) : Int32 × Nat).2 ≤ 8 ∧ ∀ k, k < ((nI v, 0) : Int32 × Nat).2 → (∀ m, m < 6 → (nI v, ms υ 64 9 0).2.1 72 (7 * k + m) = nI (maK n t k m)) ∧ (nI v, ms υ 64 9 0).2.1 72 (7 * k + 6) = nI (bsK n t k) ∧ bsK n t k < 10 := by
        intro υ hυ v
        refine ⟨rfl, hυ.fld (by simp), ?_, Nat.zero_le _, fun k hk => absurd hk (Nat.not_lt_zero _)⟩
        show (ms υ 64 9 0).1 64 9 = nI 0
        rw [ms_same, upd_s]
        rfl
      obtain ⟨q, rfl⟩ : ∃ z, q = z + 1 := ⟨q - 1, by omega⟩
      by_cases kd : s < n ∧ isD (t s) = true
      · rw [if_pos kd]
        obtain ⟨eb, hb⟩ := hT2.2.2.2.2.2 s kd.1
        have hd2 := kd.2
        unfold isD at hd2
        rw [decide_eq_true_iff] at hd2
        refine k_start kd.1 hn h6 hb eb h9t hj8 kd.2 ?_
        have f2 : MX [72] [9] τ (ms (ms τ 72 (7 * j + 6) (nI (t s - 48))) 64 9 (nI (j + 1))) := (MX.rf.row (by simp) (by decide)).fld (by simp)
        have hF2 := hF.tr f2
        have hT3 := hT.fr hF2 (by decide) (by decide)
        have h93 : (ms (ms τ 72 (7 * j + 6) (nI (t s - 48))) 64 9 (nI (j + 1))).1 64 9 = nI (j + 1) := by rw [ms_same, upd_s]
        have hrow3 : ∀ k, k < j + 1 → (∀ m, m < 6 → (ms (ms τ 72 (7 * j + 6) (nI (t s - 48))) 64 9 (nI (j + 1))).1 72 (7 * k + m) = nI (maK n t k m)) ∧ (ms (ms τ 72 (7 * j + 6) (nI (t s - 48))) 64 9 (nI (j + 1))).1 72 (7 * k + 6) = nI (bsK n t k) ∧ bsK n t k < 10 := by
          intro k hk
          rw [ms_ne (show (72 : Nat) ≠ 64 by decide), ms_same]
          by_cases e : k = j
          · subst e
            refine ⟨fun m hm6 => ?_, by rw [upd_s, ebs], by rw [ebs]; omega⟩
            rw [upd_n (by omega), ema]
            exact hm m hm6
          · obtain ⟨r1, r2, r3⟩ := hkeep τ ho k (by omega)
            refine ⟨fun m hm6 => ?_, ?_, r3⟩
            · rw [upd_n (by omega)]
              exact r1 m hm6
            · rw [upd_n (by omega)]
              exact r2
        obtain ⟨q, rfl⟩ : ∃ z, q = z + 1 := ⟨q - 1, by omega⟩
        by_cases e1 : s + 1 = n
        · rw [if_pos e1, e1]
          refine k_end (e := true) hn h0 (fun _ => ⟨rfl, hF2, h93, by show j + 1 ≤ 8; omega, hrow3⟩) (fun q => by cases q)
        · rw [if_neg e1]
          obtain ⟨eb1, hb1⟩ := hT3.2.2.2.2.2 (s + 1) (by omega)
          by_cases e59 : t (s + 1) = 59
          · rw [if_pos e59]
            rw [e59] at eb1
            refine k_next (by omega) hn h6 eb1 h93 (by omega) (fun hlt υ g1 g2 g3 g4 => ?_) (fun e8 => ?_)
            · have hF3 := hF2.tr g1
              refine wp_mono (ih (j + 1) (s + 2) 0 q υ (by omega) (by omega) (by omega) (by omega) (hT.fr hF3 (by decide) (by decide)) (by rw [g2]; exact h93) (fun k hk => ?_) (fun _ => ⟨rfl, g4⟩) (by omega)) (fun o h => ⟨h.1, hF3.tr h.2.1, h.2.2⟩)
              obtain ⟨r1, r2⟩ := hrow3 k hk
              refine ⟨fun m hm6 => ?_, ?_⟩
              · rw [g3 _ (by omega)]
                exact r1 m hm6
              · rw [g3 _ (by omega)]
                exact r2
            · refine wp_mono (ih (j + 1) (s + 2) C q _ (by omega) (by omega) (by omega) (by omega) hT3 h93 hrow3 (fun w => by omega) h6) (fun o h => ⟨h.1, hF2.tr h.2.1, h.2.2⟩)
          · rw [if_neg e59]
            exact k_bad (e := true) (by omega) hn h6 hb1 eb1 h93 (by omega) (by simp) (by simp) (by simp [e59]) (zero _ hF2 (s + 1))
      · rw [if_neg kd]
        by_cases es : s = n
        · rw [es]
          exact k_end (e := false) hn h0 (fun q => by cases q) (fun _ => zero _ hF n)
        · obtain ⟨eb, hb⟩ := hT2.2.2.2.2.2 s (by omega)
          have nd : isD (t s) = false := by
            rcases hq : isD (t s) with _ | _
            · rfl
            · exact absurd ⟨by omega, hq⟩ kd
          refine k_bad (e := false) (by omega) hn h6 hb eb h9t (by omega) ?_ (by rw [nd]; simp) (by simp) (zero _ hF s)
          by_cases e6 : C < 6
          · have : isM (t s) = false := by
              rcases hq : isM (t s) with _ | _
              · rfl
              · exact absurd ⟨by omega, hq⟩ (hno e6)
            rw [this]
            simp
          · rw [decide_eq_false e6]
            simp
    · have := hz m (by omega)
      rw [this]
      rfl
theorem readsK_wp (hT : Mtx σ n0 t0 n t) : wp (f_X10_readsBoats σ) (fun o => o.1 = pfK n t ∧ MX [72] [9] σ o.2 ∧ Mk o.2 (nkK n t) (maK n t) (bsK n t)) := by
  have hn := hT.2.2.2.1
  have hma : ∀ k i, maK n t k i < 100 := fun k i => by
    have h1 := bcnt_le (t := t) (pl := bps n t k) (c := mkc n t (bps n t k)) (m := i)
    have h2 := mkc_le (n := n) (t := t) (pl := bps n t k)
    unfold maK
    omega
  unfold f_X10_readsBoats
  have f0 : MX [72] [9] σ (ms σ 64 9 0) := MX.rf.fld (by simp)
  have hT0 := hT.fr f0 (by decide) (by decide)
  have c1 : (1 : Int32).toNatClampNeg = 1 := by decide
  refine wp_lt (wp_ck (vp_in_nI (n := 1) (by decide) (by decide)) (wp_bv (wp_mono (bares_wp (j := 0) (by omega)) (fun τ h => ?_))))
  rw [c1, hT0.2.1]
  obtain ⟨g1, g2, g3, g4⟩ := h
  have hF := f0.tr g1
  have hTt := hT.fr hF (by decide) (by decide)
  have h9 : τ.1 64 9 = nI 0 := by rw [g2, ms_same, upd_s]; rfl
  by_cases e : n = 0
  · have e1 : pfK n t = (-1 : Int32) := by unfold pfK; rw [if_pos e]
    have e2 : nkK n t = 0 := by unfold nkK; rw [if_pos e]
    rw [e1, e2, f_X10_readsBoats_b24, e]
    exact wp_it (by decide) (wp_it (by decide) (wp_some.mpr ⟨rfl, hF, by omega, h9, fun k hk => by omega⟩))
  · have e1 : pfK n t = (bpr n t 8 0 0).1 := by unfold pfK; rw [if_neg e]
    have e2 : nkK n t = (bpr n t 8 0 0).2 := by unfold nkK; rw [if_neg e]
    rw [e1, e2]
    refine wp_mono (readsK_loop (n0 := n0) (t0 := t0) hn (by omega) 8 0 0 0 300 τ rfl (by omega) rfl (Nat.zero_le _) hTt h9 (fun k hk => by omega) (fun _ => ⟨rfl, g4⟩) (by omega)) (fun o h => ?_)
    obtain ⟨a1, a2, a3, a4, a5⟩ := h
    exact ⟨a1, hF.tr a2, a4, a3, fun k hk => ⟨fun m hm => ⟨(a5 k hk).1 m hm, hma k m⟩, (a5 k hk).2⟩⟩
/-- the reference finds what the texts tell -/
theorem find_wp (hT : Mtx σ n0 t0 n t) : wp (f_X10_find σ) (fun τ => MX [71, 72] [7, 9] σ τ ∧ Mb τ (nbB n0 t0) (kdB t0) (mkB t0) (mnB t0) ∧ Mk τ (nkK n t) (maK n t) (bsK n t)) := by
  unfold f_X10_find
  refine wp_bi (wp_mono (readsB_wp hT) (fun o h => wp_bi (wp_mono (readsK_wp (hT.fr h.2.1 (by decide) (by decide))) (fun o2 g => wp_some.mpr ?_))))
  refine ⟨(h.2.1.wide (by simp) (by simp)).tr (g.2.1.wide (by simp) (by simp)), ?_, g.2.2⟩
  have hb := h.2.2
  unfold Mb at hb ⊢
  rw [g.2.1.1 71 (by decide) (by decide), g.2.1.2.1 7 (by decide)]
  exact hb
end RK
