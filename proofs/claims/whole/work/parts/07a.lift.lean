/-! 07a: for whom a bridge lifts: the rule, and the reference's -/
def shc (sb sm : Nat → Nat) (bl ns k m : Nat) : Nat := smn (fun i => if bl.testBit i = true ∧ sb i = k ∧ sm i = m then 1 else 0) ns
def wth (f : Nat → Nat) : Nat := smn (fun m => f m * (m + 1)) 6
def lrl (kd mk mn : Nat) (ev : Bool) (ma sh : Nat → Nat) : Bool :=
  if kd = 0 then decide (mn ≤ ma mk + (if ev = true then sh mk else 0)) else if kd = 1 then decide (ma mk + (if ev = true then sh mk else 0) < mn) else decide (3 * mn ≤ wth ma + (if ev = true then wth sh else 0)) && decide (0 < ma mk + (if ev = true then sh mk else 0))
def Mb (σ : Mem) (nb : Nat) (kd mk mn : Nat → Nat) : Prop := nb ≤ 8 ∧ σ.1 64 7 = nI nb ∧ ∀ b, b < nb → σ.1 71 (3 * b) = nI (kd b) ∧ σ.1 71 (3 * b + 1) = nI (mk b) ∧ σ.1 71 (3 * b + 2) = nI (mn b) ∧ kd b < 3 ∧ mk b < 6 ∧ mn b < 10
def Mk (σ : Mem) (nk : Nat) (ma : Nat → Nat → Nat) (bs : Nat → Nat) : Prop := nk ≤ 8 ∧ σ.1 64 9 = nI nk ∧ ∀ k, k < nk → (∀ m, m < 6 → σ.1 72 (7 * k + m) = nI (ma k m) ∧ ma k m < 100) ∧ σ.1 72 (7 * k + 6) = nI (bs k) ∧ bs k < 10
def Ms (σ : Mem) (ns : Nat) (sb sm : Nat → Nat) : Prop := ns ≤ 8 ∧ σ.1 64 11 = nI ns ∧ ∀ i, i < ns → σ.1 73 (2 * i) = nI (sb i) ∧ σ.1 73 (2 * i + 1) = nI (sm i) ∧ sb i < 8 ∧ sm i < 6
def Mo (σ : Mem) (bl nb aw : Nat) : Prop := σ.1 64 13 = nI bl ∧ bl < 256 ∧ σ.1 64 14 = if aw < nb then nI aw else (-1 : Int32)
/-- what the steps of the reference may change -/
def MF (σ τ : Mem) : Prop := (∀ r, r ∉ [64, 74, 75, 76, 77] → τ.1 r = σ.1 r) ∧ (∀ i, i ∉ [19, 20, 21] → τ.1 64 i = σ.1 64 i) ∧ τ.2 = σ.2
theorem MF.rf {σ : Mem} : MF σ σ := ⟨fun _ _ => rfl, fun _ _ => rfl, rfl⟩
theorem MF.tr {σ τ υ : Mem} (h1 : MF σ τ) (h2 : MF τ υ) : MF σ υ := ⟨fun r h => (h2.1 r h).trans (h1.1 r h), fun i h => (h2.2.1 i h).trans (h1.2.1 i h), h2.2.2.trans h1.2.2⟩
theorem MF.row {σ τ : Mem} {r i : Nat} {x : Int32} (h : MF σ τ) (hr : r ∈ [74, 75, 76, 77]) : MF σ (ms τ r i x) := by
  have h64 : (64 : Nat) ≠ r := by
    simp only [List.mem_cons, List.not_mem_nil, or_false] at hr
    omega
  refine ⟨fun q hq => ?_, fun j hj => ?_, h.2.2⟩
  · rw [ms_ne (show q ≠ r from fun e => hq (by rw [e]; exact List.mem_cons_of_mem _ hr))]
    exact h.1 q hq
  · rw [ms_ne h64]
    exact h.2.1 j hj
theorem MF.fld {σ τ : Mem} {i : Nat} {x : Int32} (h : MF σ τ) (hi : i ∈ [19, 20, 21]) : MF σ (ms τ 64 i x) := by
  refine ⟨fun q hq => ?_, fun j hj => ?_, h.2.2⟩
  · rw [ms_ne (show q ≠ 64 from fun e => hq (by rw [e]; simp))]
    exact h.1 q hq
  · rw [ms_same, upd_n (show j ≠ i from fun e => hj (by rw [e]; exact hi))]
    exact h.2.1 j hj
theorem Mb.fr {σ τ : Mem} {nb : Nat} {kd mk mn : Nat → Nat} (h : Mb σ nb kd mk mn) (f : MF σ τ) : Mb τ nb kd mk mn := by
  unfold Mb at h ⊢
  rw [f.1 71 (by decide), f.2.1 7 (by decide)]
  exact h
theorem Mk.fr {σ τ : Mem} {nk : Nat} {ma : Nat → Nat → Nat} {bs : Nat → Nat} (h : Mk σ nk ma bs) (f : MF σ τ) : Mk τ nk ma bs := by
  unfold Mk at h ⊢
  rw [f.1 72 (by decide), f.2.1 9 (by decide)]
  exact h
theorem Ms.fr {σ τ : Mem} {ns : Nat} {sb sm : Nat → Nat} (h : Ms σ ns sb sm) (f : MF σ τ) : Ms τ ns sb sm := by
  unfold Ms at h ⊢
  rw [f.1 73 (by decide), f.2.1 11 (by decide)]
  exact h
theorem Mo.fr {σ τ : Mem} {bl nb aw : Nat} (h : Mo σ bl nb aw) (f : MF σ τ) : Mo τ bl nb aw := by
  unfold Mo at h ⊢
  rw [f.2.1 13 (by decide), f.2.1 14 (by decide)]
  exact h
theorem shc_le {sb sm : Nat → Nat} {bl ns k m : Nat} : shc sb sm bl ns k m ≤ ns := by
  have := smn_le (f := fun i => if bl.testBit i = true ∧ sb i = k ∧ sm i = m then 1 else 0) (c := 1) (n := ns) (fun i _ => by
    show (if _ then 1 else 0) ≤ 1
    split <;> omega)
  unfold shc
  omega
section LIFT
variable {σ : Mem} {nb nk ns bl aw : Nat} {kd mk mn bs sb sm : Nat → Nat} {ma : Nat → Nat → Nat}
theorem isIn_eq {x : Int32} {f : Nat → Bool} {k : Nat} (h : bt x f) (hk : k < 8) : f_X10_isIn σ x (nI k) = some (if f k = true then 1 else 0) := by
  unfold f_X10_isIn
  rw [bt_tst h hk]
  cases f k <;> rfl
theorem bt_self {m : Nat} (h : m < 256) : bt (nI m) m.testBit := ⟨m, h, rfl, fun _ _ => rfl⟩
theorem carries_odd (hs : Ms σ ns sb sm) {b k m : Nat} {x : Int32} (hb : b < 1000) (cb : ¬ b % 2 = 0) : ∀ (q i : Nat), i ≤ ns → ns < i + q → f_X10_carries_b16 σ q (nI b) (nI k) (nI m) x (nI i) = some x := by
  intro q
  obtain ⟨h8, e11, hsh⟩ := hs
  induction q with
  | zero => intro i h1 h2; omega
  | succ q ih =>
    intro i h1 h2
    rw [f_X10_carries_b16, e11]
    by_cases c : ns ≤ i
    · rw [if_pos ((nI_leI (by omega) (by omega)).mpr c)]
    · rw [if_neg (fun z => c ((nI_leI (by omega) (by omega)).mp z))]
      have e2 : nI b - nI b / (2 : Int32) * (2 : Int32) = nI (b % 2) := pk_rem (d := 2) (by omega) (by omega) (by omega)
      rw [e2, if_neg (nI_ne0 (by omega) (by omega))]
      unfold f_X10_carries_b77 f_X10_carries_b78
      rw [nI_1, Int32.add_zero]
      exact ih (i + 1) (by omega) (by omega)
theorem carries_even (hs : Ms σ ns sb sm) (ho : Mo σ bl nb aw) {b k m z : Nat} (hb : b < 1000) (hk : k < 1000) (hm : m < 1000) (hz : z < 1000) (cb : b % 2 = 0) : ∀ (q i : Nat), i ≤ ns → ns < i + q →
    f_X10_carries_b16 σ q (nI b) (nI k) (nI m) (nI (z + smn (fun i => if bl.testBit i = true ∧ sb i = k ∧ sm i = m then 1 else 0) i)) (nI i) = some (nI (z + shc sb sm bl ns k m)) := by
  intro q
  obtain ⟨h8, e11, hsh⟩ := hs
  induction q with
  | zero => intro i h1 h2; omega
  | succ q ih =>
    intro i h1 h2
    rw [f_X10_carries_b16, e11]
    by_cases c : ns ≤ i
    · rw [if_pos ((nI_leI (by omega) (by omega)).mpr c)]
      have e : i = ns := by omega
      subst e
      rfl
    · rw [if_neg (fun z => c ((nI_leI (by omega) (by omega)).mp z))]
      obtain ⟨s1, s2, s3, s4⟩ := hsh i (by omega)
      have e2 : nI b - nI b / (2 : Int32) * (2 : Int32) = 0 := by
        have : nI b - nI b / (2 : Int32) * (2 : Int32) = nI (b % 2) := pk_rem (d := 2) (by omega) (by omega) (by omega)
        rw [this, cb]
        rfl
      have ihn := ih (i + 1) (by omega) (by omega)
      have hsm : smn (fun i => if bl.testBit i = true ∧ sb i = k ∧ sm i = m then 1 else 0) (i + 1) = smn (fun i => if bl.testBit i = true ∧ sb i = k ∧ sm i = m then 1 else 0) i + (if bl.testBit i = true ∧ sb i = k ∧ sm i = m then 1 else 0) := rfl
      rw [hsm] at ihn
      generalize smn (fun i => if bl.testBit i = true ∧ sb i = k ∧ sm i = m then 1 else 0) i = G at ihn ⊢
      have e3 : (2 : Int32) * nI i = nI (2 * i) := pk_mul 2 i
      rw [if_pos e2, ho.1, isIn_eq (bt_self ho.2.1) (by omega), bp_some]
      unfold f_X10_carries_b77 f_X10_carries_b78
      rw [nI_1, e3, nI_1, ck_N (by omega) (by omega), ck_N (by omega) (by omega), nI_clamp (by omega), nI_clamp (by omega), s1, s2, Int32.add_zero]
      by_cases t1 : bl.testBit i = true
      · rw [if_pos t1, if_neg (show ¬ (1 : Int32) = 0 by decide)]
        by_cases t2 : sb i = k
        · rw [if_pos (show nI (sb i) = nI k by rw [t2])]
          by_cases t3 : sm i = m
          · rw [if_pos (show nI (sm i) = nI m by rw [t3])]
            rw [if_pos ⟨t1, t2, t3⟩, ← Nat.add_assoc] at ihn
            rw [nI_1]
            exact ihn
          · rw [if_neg (fun w => t3 ((nI_eq (by omega) (by omega)).mp w))]
            rw [if_neg (fun w => t3 w.2.2)] at ihn
            exact ihn
        · rw [if_neg (fun w => t2 ((nI_eq (by omega) (by omega)).mp w))]
          rw [if_neg (fun w => t2 w.2.1)] at ihn
          exact ihn
      · rw [if_neg t1, if_pos rfl]
        rw [if_neg (fun w => t1 w.1)] at ihn
        exact ihn
theorem carries_eq (hk : Mk σ nk ma bs) (hs : Ms σ ns sb sm) (ho : Mo σ bl nb aw) {b k m : Nat} (hb : b < 9) (hk2 : k < nk) (hm : m < 6) : f_X10_carries σ (nI b) (nI k) (nI m) = some (nI (ma k m + if b % 2 = 0 then shc sb sm bl ns k m else 0)) := by
  obtain ⟨h8, -, hbo⟩ := hk
  obtain ⟨e, hl⟩ := (hbo k hk2).1 m hm
  unfold f_X10_carries
  have e1 : (7 : Int32) * nI k + nI m = nI (7 * k + m) := by rw [nI_lit 7, pk_mul, nI_add]
  rw [e1, ck_N (by omega) (by omega), nI_clamp (by omega), e]
  by_cases cb : b % 2 = 0
  · rw [if_pos cb]
    exact carries_even hs ho (b := b) (k := k) (m := m) (z := ma k m) (by omega) (by omega) (by omega) (by omega) cb 300 0 (Nat.zero_le _) (by have := hs.1; omega)
  · rw [if_neg cb]
    exact carries_odd hs (b := b) (k := k) (m := m) (by omega) cb 300 0 (Nat.zero_le _) (by have := hs.1; omega)
theorem worth_loop (hk : Mk σ nk ma bs) (hs : Ms σ ns sb sm) (ho : Mo σ bl nb aw) {b k c0 mn0 : Nat} (hb : b < 9) (hk2 : k < nk) (hc : c0 < 1000) (hmn : mn0 < 10) : ∀ (q i : Nat), i ≤ 6 → 6 < i + q →
    f_X10_isLifted_b83 σ q (nI b) (nI k) (nI c0) (nI mn0) (nI (smn (fun m => (m + 1) * (ma k m + if b % 2 = 0 then shc sb sm bl ns k m else 0)) i)) (nI i) = some (if 3 * mn0 ≤ smn (fun m => (m + 1) * (ma k m + if b % 2 = 0 then shc sb sm bl ns k m else 0)) 6 ∧ 0 < c0 then 1 else 0) := by
  intro q
  have hv : ∀ m, m < 6 → (m + 1) * (ma k m + if b % 2 = 0 then shc sb sm bl ns k m else 0) ≤ 1000 := fun m hm => by
    have h1 := ((hk.2.2 k hk2).1 m hm).2
    have h2 := shc_le (sb := sb) (sm := sm) (bl := bl) (ns := ns) (k := k) (m := m)
    have h3 := hs.1
    have h4 : (ma k m + if b % 2 = 0 then shc sb sm bl ns k m else 0) ≤ 108 := by split <;> omega
    calc (m + 1) * (ma k m + if b % 2 = 0 then shc sb sm bl ns k m else 0) ≤ 6 * 108 := Nat.mul_le_mul (by omega) h4
      _ ≤ 1000 := by decide
  have hsum := smn_le (n := 6) hv
  induction q with
  | zero => intro i h1 h2; omega
  | succ q ih =>
    intro i h1 h2
    rw [f_X10_isLifted_b83]
    by_cases c : 6 ≤ i
    · have e : i = 6 := by omega
      subst e
      have e3 : (3 : Int32) * nI mn0 = nI (3 * mn0) := pk_mul 3 mn0
      rw [if_pos (by decide), e3]
      by_cases c1 : smn (fun m => (m + 1) * (ma k m + if b % 2 = 0 then shc sb sm bl ns k m else 0)) 6 < 3 * mn0
      · rw [if_pos ((nI_ltI (by omega) (by omega)).mpr c1), if_neg (by omega)]
      · rw [if_neg (fun z => c1 ((nI_ltI (by omega) (by omega)).mp z))]
        by_cases c2 : c0 = 0
        · rw [if_pos (by rw [c2]; decide), if_neg (by omega)]
        · rw [if_neg (nI_nle (by omega) (by omega)), if_pos (by omega)]
    · rw [show (6 : Int32) = nI 6 from rfl, if_neg (fun z => c ((nI_leI (by omega) (by omega)).mp z)), carries_eq hk hs ho hb hk2 (by omega), bp_some, nI_1, pk_mul, nI_add]
      exact ih (i + 1) (by omega) (by omega)
theorem wth_split {f g : Nat → Nat} (ev : Bool) : smn (fun m => (m + 1) * (f m + if ev = true then g m else 0)) 6 = wth f + (if ev = true then wth g else 0) := by
  have h : ∀ n, smn (fun m => (m + 1) * (f m + if ev = true then g m else 0)) n = smn (fun m => f m * (m + 1)) n + (if ev = true then smn (fun m => g m * (m + 1)) n else 0) := by
    intro n
    induction n with
    | zero => show 0 = 0 + _; split <;> rfl
    | succ n ih =>
      show smn _ n + (n + 1) * (f n + if ev = true then g n else 0) = smn _ n + f n * (n + 1) + (if ev = true then smn _ n + g n * (n + 1) else 0)
      rw [ih]
      cases ev with
      | true => simp only [if_true]; rw [Nat.mul_add, Nat.mul_comm (n + 1) (f n), Nat.mul_comm (n + 1) (g n)]; omega
      | false => simp only [Bool.false_eq_true, if_false, Nat.add_zero]; rw [Nat.mul_comm (n + 1) (f n)]
  exact h 6
/-- the reference's bridge lifts by the rule -/
theorem lift_eq (hbr : Mb σ nb kd mk mn) (hk : Mk σ nk ma bs) (hs : Ms σ ns sb sm) (ho : Mo σ bl nb aw) {b k : Nat} (hb : b < nb) (hk2 : k < nk) : f_X10_isLifted σ (nI b) (nI k) = some (if lrl (kd b) (mk b) (mn b) (decide (b % 2 = 0)) (ma k) (shc sb sm bl ns k) = true then 1 else 0) := by
  obtain ⟨h8, -, hx⟩ := hbr
  obtain ⟨e0, e1, e2, l0, l1, l2⟩ := hx b hb
  unfold f_X10_isLifted
  have a0 : (3 : Int32) * nI b = nI (3 * b) := pk_mul 3 b
  have a2 : nI (3 * b) + (2 : Int32) = nI (3 * b + 2) := nI_add (3 * b) 2
  rw [a0, nI_1, a2, ck_N (by omega) (by omega), nI_clamp (by omega), nI_clamp (by omega), nI_clamp (by omega), e0, e1, e2, carries_eq hk hs ho (by omega) hk2 l1, bp_some, ck_N (by omega) (by omega), ck_N (by omega) (by omega)]
  have hma := ((hk.2.2 k hk2).1 (mk b) l1).2
  have hsh := shc_le (sb := sb) (sm := sm) (bl := bl) (ns := ns) (k := k) (m := mk b)
  have h3 := hs.1
  have hev : (if decide (b % 2 = 0) = true then shc sb sm bl ns k (mk b) else 0) = if b % 2 = 0 then shc sb sm bl ns k (mk b) else 0 := by
    by_cases c : b % 2 = 0 <;> simp [c]
  have hcl : (ma k (mk b) + if b % 2 = 0 then shc sb sm bl ns k (mk b) else 0) < 1000 := by split <;> omega
  unfold lrl
  rw [hev]
  generalize (ma k (mk b) + if b % 2 = 0 then shc sb sm bl ns k (mk b) else 0) = C at hcl ⊢
  have n2 : ¬ (2 : Int32) ≤ nI 0 := by decide
  have n21 : ¬ (2 : Int32) ≤ nI 1 := by decide
  rcases (show kd b = 0 ∨ kd b = 1 ∨ kd b = 2 by omega) with c | c | c
  · rw [c, if_neg n2, if_pos (show (0 : Nat) = 0 from rfl)]
    have hb5 : ∀ y : Int32, f_X10_isLifted_b52 σ (nI b) y = if y = 1 then some 1 else some 0 := fun y => by
      unfold f_X10_isLifted_b52 f_X10_isLifted_b68
      rw [a0, ck_N (by omega) (by omega), nI_clamp (by omega), e0, c, if_pos (show nI 0 = (0 : Int32) from rfl)]
    by_cases c2 : C < mn b
    · rw [if_pos ((nI_ltI (by omega) (by omega)).mpr c2), hb5, if_neg (show ¬ (0 : Int32) = 1 by decide), decide_eq_false (show ¬ mn b ≤ C by omega)]
      rfl
    · rw [if_neg (fun z => c2 ((nI_ltI (by omega) (by omega)).mp z)), hb5, if_pos rfl, decide_eq_true (show mn b ≤ C by omega)]
      rfl
  · rw [c, if_neg n21, if_neg (show ¬ (1 : Nat) = 0 by decide), if_pos (show (1 : Nat) = 1 from rfl)]
    have hb5 : ∀ y : Int32, f_X10_isLifted_b52 σ (nI b) y = if y = 0 then some 1 else some 0 := fun y => by
      unfold f_X10_isLifted_b52 f_X10_isLifted_b68
      rw [a0, ck_N (by omega) (by omega), nI_clamp (by omega), e0, c, if_neg (show ¬ nI 1 = (0 : Int32) by decide)]
    by_cases c2 : C < mn b
    · rw [if_pos ((nI_ltI (by omega) (by omega)).mpr c2), hb5, if_pos rfl, decide_eq_true c2]
      rfl
    · rw [if_neg (fun z => c2 ((nI_ltI (by omega) (by omega)).mp z)), hb5, if_neg (show ¬ (1 : Int32) = 0 by decide), decide_eq_false c2]
      rfl
  · rw [c, if_pos (by decide), if_neg (show ¬ (2 : Nat) = 0 by decide), if_neg (show ¬ (2 : Nat) = 1 by decide)]
    have hw := worth_loop hk hs ho (b := b) (k := k) (c0 := C) (mn0 := mn b) (by omega) hk2 hcl l2 300 0 (by omega) (by omega)
    have e6 : smn (fun m => (m + 1) * (ma k m + if b % 2 = 0 then shc sb sm bl ns k m else 0)) 6 = wth (ma k) + (if decide (b % 2 = 0) = true then wth (shc sb sm bl ns k) else 0) := by
      rw [← wth_split]
      refine smn_congr (fun m _ => ?_)
      by_cases c : b % 2 = 0 <;> simp [c]
    rw [e6] at hw
    refine Eq.trans hw ?_
    generalize (wth (ma k) + (if decide (b % 2 = 0) = true then wth (shc sb sm bl ns k) else 0)) = Z
    congr 1
    by_cases c1 : 3 * mn b ≤ Z ∧ 0 < C
    · rw [if_pos c1, if_pos (by rw [decide_eq_true c1.1, decide_eq_true c1.2]; rfl)]
    · rw [if_neg c1, if_neg (fun z => c1 (by rw [Bool.and_eq_true, decide_eq_true_iff, decide_eq_true_iff] at z; exact z))]
end LIFT
