/-! 10p: longs; parts of a whole -/
theorem lN_z {n : Nat} (h : n < 2 ^ 63) : (lN n).toInt = (n : Int) := Int64.toInt_ofNat_of_lt h
theorem lN_or (a b : Nat) : lN a ||| lN b = lN (a ||| b) := by
  apply Int64.toBitVec_inj.mp
  show BitVec.ofNat 64 a ||| BitVec.ofNat 64 b = BitVec.ofNat 64 (a ||| b)
  exact BitVec.ofNat_or.symm
theorem lN_and (a b : Nat) : lN a &&& lN b = lN (a &&& b) := by
  apply Int64.toBitVec_inj.mp
  show BitVec.ofNat 64 a &&& BitVec.ofNat 64 b = BitVec.ofNat 64 (a &&& b)
  apply BitVec.eq_of_getLsbD_eq
  intro i hi
  simp [BitVec.getLsbD_and, BitVec.getLsbD_ofNat, Nat.testBit_and, hi]
theorem smod64 : ∀ s, s < 64 → ((lN s).toBitVec.smod 64).toNat = s := by decide +kernel
theorem lN_shl {a s : Nat} (hs : s < 64) : lN a <<< lN s = lN (a <<< s) := by
  apply Int64.toBitVec_inj.mp
  rw [Int64.toBitVec_shiftLeft, BitVec.shiftLeft_eq', smod64 s hs]
  show BitVec.ofNat 64 a <<< s = BitVec.ofNat 64 (a <<< s)
  apply BitVec.eq_of_toNat_eq
  rw [BitVec.toNat_shiftLeft, BitVec.toNat_ofNat, BitVec.toNat_ofNat, Nat.shiftLeft_eq, Nat.shiftLeft_eq, Nat.mod_mul_mod]
theorem lN_shr {a s : Nat} (ha : a < 2 ^ 63) (hs : s < 64) : lN a >>> lN s = lN (a >>> s) := by
  apply Int64.toBitVec_inj.mp
  rw [Int64.toBitVec_shiftRight]
  show (BitVec.ofNat 64 a).sshiftRight ((lN s).toBitVec.smod 64).toNat = BitVec.ofNat 64 (a >>> s)
  rw [smod64 s hs, BitVec.sshiftRight_eq_of_msb_false]
  · apply BitVec.eq_of_toNat_eq
    rw [BitVec.toNat_ushiftRight, BitVec.toNat_ofNat, BitVec.toNat_ofNat, Nat.mod_eq_of_lt (by omega), Nat.mod_eq_of_lt]
    have : a >>> s ≤ a := Nat.shiftRight_le a s
    omega
  · rw [BitVec.msb_eq_false_iff_two_mul_lt, BitVec.toNat_ofNat, Nat.mod_eq_of_lt (by omega)]
    omega
theorem sh8 : ∀ k, k < 8 → (((8 : Int32) * nI k).toInt64 &&& 63) = lN (8 * k) ∧ ((nI (8 * k)).toInt64 &&& 63) = lN (8 * k) := by decide +kernel
theorem two_pow32 : ∀ n, n ≤ 8 → ((1 : Int32) <<< (nI n &&& 31)) = nI (2 ^ n) := by decide +kernel
theorem two_pow64 : ∀ n, n ≤ 8 → ((1 : Int64) <<< (((4 : Int32) * nI n).toInt64 &&& 63)) = lN (16 ^ n) := by decide +kernel
/-- numbers below 256, packed -/
def pkn (v : Nat → Nat) : Nat → Nat
  | 0 => 0
  | j + 1 => pkn v j + v j * 2 ^ (8 * j)
theorem pkn_lt {v : Nat → Nat} (hv : ∀ k, v k < 128) : ∀ j, pkn v j < 2 ^ (8 * j) := by
  intro j
  induction j with
  | zero => show 0 < 1; decide
  | succ j ih =>
    rw [pkn]
    have h1 : v j * 2 ^ (8 * j) ≤ 127 * 2 ^ (8 * j) := Nat.mul_le_mul_right _ (by have := hv j; omega)
    have h2 : 2 ^ (8 * (j + 1)) = 256 * 2 ^ (8 * j) := by rw [Nat.mul_add, Nat.pow_add, Nat.mul_comm]
    omega
theorem pkn_lt63 {v : Nat → Nat} (hv : ∀ k, v k < 128) : ∀ j, j ≤ 8 → pkn v j < 2 ^ 63 := by
  intro j hj
  rcases (show j < 8 ∨ j = 8 by omega) with h | h
  · have h1 := pkn_lt hv j
    have h2 : 2 ^ (8 * j) ≤ 2 ^ 56 := Nat.pow_le_pow_right (by decide) (by omega)
    omega
  · subst h
    rw [pkn]
    have h1 := pkn_lt hv 7
    have h2 : v 7 * 2 ^ (8 * 7) ≤ 127 * 2 ^ (8 * 7) := Nat.mul_le_mul_right _ (by have := hv 7; omega)
    omega
theorem pkn_or {v : Nat → Nat} (hv : ∀ k, v k < 128) (j : Nat) : pkn v j ||| (v j <<< (8 * j)) = pkn v (j + 1) := by
  rw [pkn, Nat.shiftLeft_eq, Nat.mul_comm (v j), Nat.or_comm, ← Nat.two_pow_add_eq_or_of_lt (pkn_lt hv j), Nat.add_comm]
theorem pkn_get {v : Nat → Nat} (hv : ∀ k, v k < 128) : ∀ n k, k < n → (pkn v n >>> (8 * k)) &&& 255 = v k := by
  intro n
  induction n with
  | zero => intro k hk; omega
  | succ n ih =>
    intro k hk
    have hmod : ∀ x : Nat, x &&& 255 = x % 256 := fun x => Nat.and_two_pow_sub_one_eq_mod x 8
    rw [hmod, Nat.shiftRight_eq_div_pow, pkn]
    by_cases c : k = n
    · subst c
      rw [Nat.add_mul_div_right _ _ (Nat.pow_pos (by decide)), Nat.div_eq_of_lt (pkn_lt hv k), Nat.zero_add, Nat.mod_eq_of_lt]
      have := hv k
      omega
    · have I := ih k (by omega)
      rw [hmod, Nat.shiftRight_eq_div_pow] at I
      have e : v n * 2 ^ (8 * n) = (v n * 2 ^ (8 * (n - k - 1)) * 256) * 2 ^ (8 * k) := by
        rw [Nat.mul_assoc, Nat.mul_assoc, ← Nat.mul_assoc (2 ^ (8 * (n - k - 1))), show (256 : Nat) = 2 ^ 8 from rfl, ← Nat.pow_add, ← Nat.pow_add]
        congr 2
        omega
      rw [e, Nat.add_mul_div_right _ _ (Nat.pow_pos (by decide)), Nat.add_mul_mod_self_right]
      exact I
theorem lN_div {a b : Nat} (ha : a < 2 ^ 62) (hb : b < 2 ^ 62) : lN a / lN b = lN (a / b) := by
  apply Int64.toInt_inj.mp
  have h : a / b ≤ a := Nat.div_le_self a b
  have e : ((a : Int).tdiv (b : Int)) = ((a / b : Nat) : Int) := (Int.ofNat_tdiv a b).symm
  rw [Int64.toInt_div, lN_z (show a < 2 ^ 63 by omega), lN_z (show b < 2 ^ 63 by omega), lN_z (show a / b < 2 ^ 63 by omega), e]
  generalize a / b = c at h
  rw [Int.bmod_eq_of_le] <;> omega
theorem lN_rem {a b : Nat} (ha : a < 2 ^ 62) (hb : b < 2 ^ 62) : lN a - lN a / lN b * lN b = lN (a % b) := by
  rw [lN_div ha hb, lN_mul, lN_sub (Nat.div_mul_le_self a b), Nat.mod_eq_sub_div_mul]
theorem lN_eqz {a b : Nat} (ha : a < 2 ^ 63) (hb : b < 2 ^ 63) : lN a = lN b ↔ a = b := by
  rw [← Int64.toInt_inj, lN_z ha, lN_z hb]
  omega
theorem gcd_two {a m : Nat} (h : a % 2 = 1) : Nat.gcd a (2 ^ m) = 1 := by
  apply Nat.Coprime.pow_right
  show Nat.gcd a 2 = 1
  rw [Nat.gcd_comm, Nat.gcd_rec, h]
  rfl
theorem gcd_even {a m : Nat} (h : a % 2 = 0) : Nat.gcd a (2 ^ (m + 1)) = 2 * Nat.gcd (a / 2) (2 ^ m) := by
  have e : a = 2 * (a / 2) := by omega
  conv => lhs; rw [e, Nat.pow_succ, Nat.mul_comm (2 ^ m)]
  exact Nat.gcd_mul_left 2 (a / 2) (2 ^ m)
section PRT
variable {σ : Mem}
/-- halved while both may be -/
theorem halve_eq {w : Nat} (hw : w < 2) : ∀ (q m a : Nat), m < q → a < 2 ^ 62 → m ≤ 60 → f_X9_believed_b64 q σ (nI w) (lN a) (lN (2 ^ m)) = some (lN ((if w = 0 then a else 2 ^ m) / Nat.gcd a (2 ^ m)), σ) := by
  intro q
  induction q with
  | zero => intro m a h; omega
  | succ q ih =>
    intro m a hq ha hm
    have hp : 2 ^ m ≤ 2 ^ 60 := Nat.pow_le_pow_right (by decide) hm
    have fin : Nat.gcd a (2 ^ m) = 1 → f_X9_believed_b101 σ (nI w) (lN a) (lN (2 ^ m)) = some (lN ((if w = 0 then a else 2 ^ m) / Nat.gcd a (2 ^ m)), σ) := by
      intro hg
      unfold f_X9_believed_b101
      rw [hg, Nat.div_one]
      rcases (show w = 0 ∨ w = 1 by omega) with rfl | rfl
      · rw [if_pos (show nI 0 = (0 : Int32) from rfl), if_pos rfl]
      · rw [if_neg (show ¬ nI 1 = (0 : Int32) by decide), if_neg (by decide)]
    rw [f_X9_believed_b64]
    have c1 : (lg_cmp (lN (2 ^ m)) (1 : Int64) ≤ (0 : Int32)) ↔ m = 0 := by
      rw [← Int32.not_lt, lg_cmp_gt, Int64.lt_iff_toInt_lt, lN_z (by omega)]
      show ¬ (1 : Int) < _ ↔ _
      cases m with
      | zero => simp
      | succ m =>
        have : 0 < 2 ^ m := Nat.pow_pos (by decide)
        rw [Nat.pow_succ]
        omega
    by_cases c : m = 0
    · rw [if_pos (c1.mpr c)]
      exact fin (by rw [c, Nat.pow_zero, Nat.gcd_one_right])
    · rw [if_neg (fun z => c (c1.mp z)), show (2 : Int64) = lN 2 from rfl, lN_rem ha (by decide), lN_div ha (by decide), lN_div (by omega) (by decide)]
      have c2 : (lg_cmp (lN (a % 2)) (0 : Int64) = (0 : Int32)) ↔ a % 2 = 0 := by
        rw [lg_cmp_eq, show (0 : Int64) = lN 0 from rfl, lN_eqz (by omega) (by decide)]
      by_cases c3 : a % 2 = 0
      · obtain ⟨m, rfl⟩ : ∃ n, m = n + 1 := ⟨m - 1, by omega⟩
        rw [if_pos (c2.mpr c3), show 2 ^ (m + 1) / 2 = 2 ^ m by rw [Nat.pow_succ]; omega, ih m (a / 2) (by omega) (by omega) (by omega), gcd_even c3]
        rcases (show w = 0 ∨ w = 1 by omega) with rfl | rfl
        · rw [if_pos rfl, if_pos rfl]
          conv => rhs; rw [show a = 2 * (a / 2) by omega]
          rw [Nat.mul_div_mul_left _ _ (by decide), Nat.mul_div_cancel_left _ (by decide)]
        · rw [if_neg (by decide), if_neg (by decide), Nat.pow_succ, Nat.mul_comm (2 ^ m), Nat.mul_div_mul_left _ _ (by decide)]
      · rw [if_neg (fun z => c3 (c2.mp z))]
        exact fin (gcd_two (by omega))
theorem part_end {x y g w : Nat} (hw : w < 2) (hx : x < 2 ^ 62) (hy : y < 2 ^ 62) (hg : g < 2 ^ 62) (h0 : 0 < g) : (if nI w = (0 : Int32) then f_X10_part_b41 σ (lN g) (lN x) else f_X10_part_b41 σ (lN g) (lN y)) = some (lN ((if w = 0 then x else y) / g)) := by
  have hne : ¬ lN g = (0 : Int64) := fun z => by
    have := (lN_eqz (show g < 2 ^ 63 by omega) (show (0 : Nat) < 2 ^ 63 by decide)).mp z
    omega
  unfold f_X10_part_b41 czl
  rw [if_neg hne, if_neg hne, lN_div hx hg, lN_div hy hg]
  rcases (show w = 0 ∨ w = 1 by omega) with rfl | rfl
  · rfl
  · rfl
theorem part_loop {x y w : Nat} (hw : w < 2) (hx : x < 2 ^ 62) (hy : y < 2 ^ 62) : ∀ (j q a b : Nat), b < a → a < 2 ^ 62 → b < 2 ^ j → 2 * j + 1 ≤ q → f_X10_part_b6 σ q (lN x) (lN y) (nI w) (lN a) (lN b) = some (lN ((if w = 0 then x else y) / Nat.gcd a b)) := by
  have zc : ∀ b, b < 2 ^ 62 → ((lg_cmp (lN b) (0 : Int64) = (0 : Int32)) ↔ b = 0) := fun b hb => by
    rw [lg_cmp_eq, show (0 : Int64) = lN 0 from rfl, lN_eqz (by omega) (by decide)]
  have nz : ∀ b, b < 2 ^ 62 → b ≠ 0 → ¬ lN b = (0 : Int64) := fun b hb h z => h ((lN_eqz (show b < 2 ^ 63 by omega) (show (0 : Nat) < 2 ^ 63 by decide)).mp z)
  have stop : ∀ q a, 0 < a → a < 2 ^ 62 → f_X10_part_b6 σ (q + 1) (lN x) (lN y) (nI w) (lN a) (lN 0) = some (lN ((if w = 0 then x else y) / Nat.gcd a 0)) := by
    intro q a h0 ha
    rw [f_X10_part_b6, if_pos ((zc 0 (by decide)).mpr rfl), Nat.gcd_zero_right]
    exact part_end hw hx hy ha h0
  have go : ∀ q a b, b ≠ 0 → b < 2 ^ 62 → a < 2 ^ 62 → f_X10_part_b6 σ (q + 1) (lN x) (lN y) (nI w) (lN a) (lN b) = f_X10_part_b6 σ q (lN x) (lN y) (nI w) (lN b) (lN (a % b)) := by
    intro q a b h0 hb ha
    rw [f_X10_part_b6, if_neg (fun z => h0 ((zc b hb).mp z)), czl, if_neg (nz b hb h0), lN_rem ha hb]
  intro j
  induction j with
  | zero =>
    intro q a b hab ha hb hq
    have : b = 0 := by omega
    subst this
    obtain ⟨q, rfl⟩ : ∃ n, q = n + 1 := ⟨q - 1, by omega⟩
    exact stop q a (by omega) ha
  | succ j ih =>
    intro q a b hab ha hb hq
    obtain ⟨q, rfl⟩ : ∃ n, q = n + 1 + 1 := ⟨q - 2, by omega⟩
    by_cases c : b = 0
    · subst c
      exact stop (q + 1) a (by omega) ha
    · rw [go (q + 1) a b c (by omega) ha]
      have h1 : a % b < b := Nat.mod_lt a (by omega)
      have g1 : Nat.gcd a b = Nat.gcd b (a % b) := by rw [Nat.gcd_comm, Nat.gcd_rec, Nat.gcd_comm]
      rw [g1]
      generalize hr : a % b = r at h1 ⊢
      by_cases c2 : r = 0
      · subst c2
        exact stop q b (by omega) (by omega)
      · rw [go q b r c2 (by omega) (by omega)]
        have h2 : b % r < r := Nat.mod_lt b (by omega)
        have g2 : Nat.gcd b r = Nat.gcd r (b % r) := by rw [Nat.gcd_comm, Nat.gcd_rec, Nat.gcd_comm]
        rw [g2]
        refine ih q r (b % r) h2 (by omega) ?_ (by omega)
        have h3 := Nat.div_add_mod b r
        have h4 : 1 ≤ b / r := by
          rw [Nat.le_div_iff_mul_le (by omega)]
          omega
        have h5 : r * 1 ≤ r * (b / r) := Nat.mul_le_mul_left r h4
        rw [Nat.pow_succ] at hb
        omega
theorem part_eq {a b w : Nat} (hw : w < 2) (ha : a < 2 ^ 62) (hb : b ≤ 2 ^ 60) (h0 : 0 < b) : f_X10_part σ (lN a) (lN b) (nI w) = some (lN ((if w = 0 then a else b) / Nat.gcd a b)) := by
  unfold f_X10_part
  have hne : ¬ lN b = (0 : Int64) := fun z => by
    have := (lN_eqz (show b < 2 ^ 63 by omega) (show (0 : Nat) < 2 ^ 63 by decide)).mp z
    omega
  have zc : ¬ (lg_cmp (lN b) (0 : Int64) = (0 : Int32)) := by
    rw [lg_cmp_eq]
    exact hne
  rw [show (300 : Nat) = 299 + 1 from rfl, f_X10_part_b6, if_neg zc, czl, if_neg hne, lN_rem ha (by omega)]
  have h1 : a % b < b := Nat.mod_lt a h0
  have g1 : Nat.gcd a b = Nat.gcd b (a % b) := by rw [Nat.gcd_comm, Nat.gcd_rec, Nat.gcd_comm]
  rw [g1]
  exact part_loop hw ha (by omega) 60 299 b (a % b) h1 (by omega) (by omega) (by decide)
end PRT
