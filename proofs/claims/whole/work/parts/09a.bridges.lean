/-! 09a: the text of bridges, read by both -/
def okB (i b : Nat) : Bool := if i % 4 = 0 then decide (b = 108 ∨ b = 109 ∨ b = 110) else if i % 4 = 1 then decide (97 ≤ b ∧ b ≤ 102) else if i % 4 = 2 then decide (49 ≤ b ∧ b ≤ 57) else decide (b = 59)
def vB (i b : Nat) : Nat := if i % 4 = 0 then (if b = 108 then 0 else if b = 110 then 1 else 2) else if i % 4 = 1 then b - 97 else if i % 4 = 2 then b - 48 else 0
def fB (n : Nat) (t : Nat → Nat) : Nat := lst (fun i => !okB i (t i)) n
def pfB (n : Nat) (t : Nat → Nat) : Int32 := if fB n t < n then nI (fB n t) else if 0 < n ∧ n % 4 ≠ 3 then nI n else (-1 : Int32)
def nbB (n : Nat) (t : Nat → Nat) : Nat := if fB n t < n ∨ (0 < n ∧ n % 4 ≠ 3) then 0 else (n + 1) / 4
def kdB (t : Nat → Nat) (b : Nat) : Nat := vB (4 * b) (t (4 * b))
def mkB (t : Nat → Nat) (b : Nat) : Nat := vB (4 * b + 1) (t (4 * b + 1))
def mnB (t : Nat → Nat) (b : Nat) : Nat := vB (4 * b + 2) (t (4 * b + 2))
def Ctx (σ : Mem) (r n : Nat) (t : Nat → Nat) : Prop := isText r ∧ σ.1 r 1 = nI n ∧ n ≤ tlen r ∧ ∀ i, i < n → σ.1 (r + 1) i = nI (t i) ∧ t i < 256
theorem tlen_le {r : Nat} : tlen r ≤ 63 := by unfold tlen; split <;> omega
section PB
variable {σ τ : Mem} {r n : Nat} {t : Nat → Nat}
theorem Ctx.fr {rs : List Nat} (h : Ctx σ r n t) (hf : Fr rs σ τ) (h0 : r ∉ rs) (h1 : r + 1 ∉ rs) : Ctx τ r n t := by
  unfold Ctx at h ⊢
  rw [hf.1 r h0, hf.1 _ h1]
  exact h
theorem from_eq {i : Nat} {z : Int32} (h : Ctx σ r n t) (hi : i < 1000) : f_X7_from σ r (nI i) z = some (if i < n then nI (t i) - z else (-257 : Int32)) := by
  obtain ⟨-, e1, hl, hb⟩ := h
  have := tlen_le (r := r)
  unfold f_X7_from f_X7_from_b23
  rw [if_neg (nI_pos (by omega)), e1]
  by_cases c : i < n
  · rw [if_neg (fun q => by have := (nI_leI (by omega) (by omega)).mp q; omega), if_pos c, ck_N (by omega) (by omega), nI_clamp (by omega), (hb i c).1]
  · rw [if_pos ((nI_leI (by omega) (by omega)).mpr (by omega)), if_neg c]
theorem within_eq {x : Int32} {d : Nat} (hd : d < 2 ^ 31) : f_X9_isWithin σ x (nI d) = some (if 0 ≤ x.toInt ∧ x.toInt < d then 1 else 0) := by
  unfold f_X9_isWithin
  have h0 : x < 0 ↔ x.toInt < 0 := Int32.lt_iff_toInt_lt
  have h1 : nI d ≤ x ↔ (d : Int) ≤ x.toInt := by rw [Int32.le_iff_toInt_le, nI_toInt hd]
  by_cases c : x.toInt < 0
  · rw [if_pos (h0.mpr c), if_neg (by omega)]
  · rw [if_neg (fun q => c (h0.mp q))]
    by_cases c2 : (d : Int) ≤ x.toInt
    · rw [if_pos (h1.mpr c2), if_neg (by omega)]
    · rw [if_neg (fun q => c2 (h1.mp q)), if_pos (by omega)]
theorem subI {b c : Nat} (hb : b < 1000) (hc : c < 1000) : (nI b - nI c).toInt = (b : Int) - c := pk_sub_toInt (by omega) (by omega)
theorem sub_eq {b c d : Nat} (hb : b < 1000) (hc : c < 1000) (hd : d < 1000) : nI b - nI c = nI d ↔ b = c + d := by
  rw [← Int32.toInt_inj, subI hb hc, nI_toInt (by omega)]
  omega
theorem vB_lt {i b : Nat} (h : okB i b = true) : (i % 4 = 0 → vB i b < 3) ∧ (i % 4 = 1 → vB i b < 6) ∧ (i % 4 = 2 → vB i b < 10) := by
  refine ⟨fun e => ?_, fun e => ?_, fun e => ?_⟩
  · unfold vB
    rw [if_pos e]
    split
    · omega
    · split <;> omega
  · unfold okB at h
    unfold vB
    rw [if_neg (by omega), if_pos e, decide_eq_true_iff] at h
    rw [if_neg (by omega), if_pos e]
    omega
  · unfold okB at h
    unfold vB
    rw [if_neg (by omega), if_neg (by omega), if_pos e, decide_eq_true_iff] at h
    rw [if_neg (by omega), if_neg (by omega), if_pos e]
    omega
theorem okB0 {b c : Nat} : okB (4 * b) c = decide (c = 108 ∨ c = 109 ∨ c = 110) := by
  unfold okB
  rw [if_pos (by omega)]
theorem okB1 {b c : Nat} : okB (4 * b + 1) c = decide (97 ≤ c ∧ c ≤ 102) := by
  unfold okB
  rw [if_neg (by omega), if_pos (by omega)]
theorem okB2 {b c : Nat} : okB (4 * b + 2) c = decide (49 ≤ c ∧ c ≤ 57) := by
  unfold okB
  rw [if_neg (by omega), if_neg (by omega), if_pos (by omega)]
theorem okB3 {b c : Nat} : okB (4 * b + 3) c = decide (c = 59) := by
  unfold okB
  rw [if_neg (by omega), if_neg (by omega), if_neg (by omega)]
/-- a fault at the place i: all before are well, and i is a wrong byte or the end where none may be -/
theorem pfB_at {i : Nat} (hi : i ≤ n) (h0 : 0 < n) (hok : ∀ j, j < i → okB j (t j) = true) (hbad : (i < n ∧ okB i (t i) = false) ∨ (i = n ∧ n % 4 ≠ 3)) : pfB n t = nI i ∧ nbB n t = 0 := by
  rcases hbad with ⟨h1, h2⟩ | ⟨h1, h2⟩
  · have e : fB n t = i := lst_eq h1 (by simp [h2]) (fun j hj => by simp [hok j hj])
    unfold pfB nbB
    rw [e, if_pos h1, if_pos (Or.inl h1)]
    exact ⟨rfl, rfl⟩
  · have e : fB n t = n := lst_none (fun j hj => by simp [hok j (by omega)])
    unfold pfB nbB
    rw [e, if_neg (Nat.lt_irrefl _), if_pos ⟨h0, h2⟩, if_pos (Or.inr ⟨h0, h2⟩), h1]
    exact ⟨rfl, rfl⟩
theorem pfB_ok (h3 : n % 4 = 3 ∨ n = 0) (hok : ∀ j, j < n → okB j (t j) = true) : pfB n t = (-1 : Int32) ∧ nbB n t = (n + 1) / 4 := by
  have e : fB n t = n := lst_none (fun j hj => by simp [hok j hj])
  unfold pfB nbB
  rw [e, if_neg (Nat.lt_irrefl _), if_neg (by omega), if_neg (by omega)]
  exact ⟨rfl, rfl⟩
theorem kindAt_eq {b : Nat} (h : Ctx σ r n t) (hb : b < 100) : f_X2_kindAt σ r (nI (4 * b)) = some (if 4 * b < n ∧ okB (4 * b) (t (4 * b)) = true then nI (kdB t b) else (-1 : Int32)) := by
  unfold f_X2_kindAt
  rw [from_eq h (by omega), bp_some, okB0]
  by_cases c : 4 * b < n
  · have hl := (h.2.2.2 _ c).2
    have hkd : kdB t b = if t (4 * b) = 108 then 0 else if t (4 * b) = 110 then 1 else 2 := by
      unfold kdB vB
      rw [if_pos (show 4 * b % 4 = 0 by omega)]
    rw [if_pos c, hkd]
    have e : ∀ d, d < 1000 → (nI (t (4 * b)) - (108 : Int32) = nI d ↔ t (4 * b) = 108 + d) := fun d hd => sub_eq (c := 108) (by omega) (by omega) hd
    by_cases c0 : t (4 * b) = 108
    · rw [if_pos (show nI (t (4 * b)) - (108 : Int32) = 0 from (e 0 (by omega)).mpr (by omega)), if_pos (by simp [c, c0]), if_pos c0]
      rfl
    · rw [if_neg (show ¬ nI (t (4 * b)) - (108 : Int32) = 0 from fun q => c0 ((e 0 (by omega)).mp q))]
      by_cases c1 : t (4 * b) = 109
      · rw [if_pos (show nI (t (4 * b)) - (108 : Int32) = 1 from (e 1 (by omega)).mpr (by omega)), if_pos (by simp [c, c1]), if_neg c0, if_neg (by omega)]
        rfl
      · rw [if_neg (show ¬ nI (t (4 * b)) - (108 : Int32) = 1 from fun q => c1 ((e 1 (by omega)).mp q))]
        by_cases c2 : t (4 * b) = 110
        · rw [if_pos (show nI (t (4 * b)) - (108 : Int32) = 2 from (e 2 (by omega)).mpr (by omega)), if_pos (by simp [c, c2]), if_neg c0, if_pos c2]
          rfl
        · rw [if_neg (show ¬ nI (t (4 * b)) - (108 : Int32) = 2 from fun q => c2 ((e 2 (by omega)).mp q)), if_neg (by simp [c0, c1, c2])]
  · rw [if_neg c, if_neg (show ¬ (-257 : Int32) = 0 by decide), if_neg (show ¬ (-257 : Int32) = 1 by decide), if_neg (show ¬ (-257 : Int32) = 2 by decide), if_neg (fun q => c q.1)]
theorem parseB_loop (hn0 : 0 < n) (hn : n ≤ 31) : ∀ (m b : Nat) (σ : Mem), b ≤ 8 → 8 < b + m → 4 * b ≤ n → Ctx σ 2 n t → (∀ j, j < 4 * b → okB j (t j) = true) → (∀ j, j < b → σ.1 7 j = nI (kdB t j) ∧ σ.1 8 j = nI (mkB t j) ∧ σ.1 9 j = nI (mnB t j)) →
    wp (f_X2_parseAll_b4 m σ 2 (nI (4 * b)) (nI b)) (fun o => Fr [6, 7, 8, 9] σ o.2 ∧ o.2.1 6 4 = σ.1 6 4 ∧ o.1 = pfB n t ∧ (pfB n t = (-1 : Int32) → o.2.1 6 3 = nI (nbB n t) ∧ ∀ j, j < nbB n t → (o.2.1 7 j = nI (kdB t j) ∧ o.2.1 8 j = nI (mkB t j) ∧ o.2.1 9 j = nI (mnB t j)) ∧ kdB t j < 3 ∧ mkB t j < 6 ∧ mnB t j < 10)) := by
  intro m
  induction m with
  | zero => intro b σ h1 h2; omega
  | succ m ih =>
    intro b σ h1 h2 hb hT hok hrow
    have hb7 : b < 8 := by omega
    have neg : ∀ i, i < 1000 → nI i = (-1 : Int32) → False := fun i hi q => nI_neg1 (by omega) q
    rw [f_X2_parseAll_b4, show (8 : Int32) = nI 8 from rfl]
    refine wp_ie (fun q => by have := (nI_leI (by omega) (by omega)).mp q; omega) (wp_bpE (kindAt_eq hT (by omega)) (wp_ckN (by omega) (by omega) (wp_lt (wp_ckN (by omega) (by omega) ?_))))
    rw [nI_clamp (by omega), ms_same, upd_s]
    have f1 : ∀ x, Fr [6, 7, 8, 9] σ (ms σ 7 b x) := fun x => Fr.rf.ms (by simp)
    have g1 : ∀ x, (ms σ 7 b x).1 6 4 = σ.1 6 4 := fun x => by rw [ms_ne (by decide)]
    by_cases k0 : 4 * b < n ∧ okB (4 * b) (t (4 * b)) = true
    · rw [if_pos k0]
      have hk3 := (vB_lt k0.2).1 (by omega)
      refine wp_ie (fun q => neg _ (by unfold kdB at q ⊢; omega) q) ?_
      have hT1 : Ctx (ms σ 7 b (nI (kdB t b))) 2 n t := hT.fr (f1 _) (by decide) (by decide)
      have hok1 : ∀ j, j < 4 * b + 1 → okB j (t j) = true := fun j hj => by
        by_cases e : j = 4 * b
        · rw [e]; exact k0.2
        · exact hok j (by omega)
      rw [nI_1]
      refine wp_bpE (from_eq hT1 (by omega)) (wp_ckN (by omega) (by omega) (wp_lt (wp_ckN (by omega) (by omega) ?_)))
      rw [ms_same, upd_s, show (6 : Int32) = nI 6 from rfl, within_eq (by omega), bp_some]
      have f2 : ∀ x y, Fr [6, 7, 8, 9] σ (ms (ms σ 7 b x) 8 b y) := fun x y => (f1 x).ms (by simp)
      have g2 : ∀ x y, (ms (ms σ 7 b x) 8 b y).1 6 4 = σ.1 6 4 := fun x y => by rw [ms_ne (by decide), ms_ne (by decide)]
      by_cases k1 : 4 * b + 1 < n ∧ okB (4 * b + 1) (t (4 * b + 1)) = true
      · have hv := hT.2.2.2 _ k1.1
        have ho := k1.2
        rw [okB1, decide_eq_true_iff] at ho
        have e97 : nI (t (4 * b + 1)) - (97 : Int32) = nI (mkB t b) := by
          refine (sub_eq (c := 97) (by omega) (by omega) ?_).mpr ?_
          · unfold mkB vB; rw [if_neg (by omega), if_pos (by omega)]; omega
          · unfold mkB vB; rw [if_neg (by omega), if_pos (by omega)]; omega
        have hm6 : mkB t b < 6 := (vB_lt k1.2).2.1 (by omega)
        rw [if_pos k1.1, e97, if_pos (show 0 ≤ (nI (mkB t b)).toInt ∧ (nI (mkB t b)).toInt < (6 : Nat) by rw [nI_toInt (by omega)]; omega)]
        refine wp_ie (by decide) ?_
        have hT2 : Ctx (ms (ms σ 7 b (nI (kdB t b))) 8 b (nI (mkB t b))) 2 n t := hT.fr (f2 _ _) (by decide) (by decide)
        have hok2 : ∀ j, j < 4 * b + 2 → okB j (t j) = true := fun j hj => by
          by_cases e : j = 4 * b + 1
          · rw [e]; exact k1.2
          · exact hok1 j (by omega)
        have e2 : nI (4 * b) + (2 : Int32) = nI (4 * b + 2) := nI_add _ 2
        rw [e2]
        refine wp_bpE (from_eq hT2 (by omega)) (wp_ckN (by omega) (by omega) (wp_lt (wp_ckN (by omega) (by omega) ?_)))
        rw [ms_same, upd_s]
        have f3 : ∀ x y z, Fr [6, 7, 8, 9] σ (ms (ms (ms σ 7 b x) 8 b y) 9 b z) := fun x y z => (f2 x y).ms (by simp)
        have g3 : ∀ x y z, (ms (ms (ms σ 7 b x) 8 b y) 9 b z).1 6 4 = σ.1 6 4 := fun x y z => by rw [ms_ne (by decide), ms_ne (by decide), ms_ne (by decide)]
        have bad : ∀ z, (4 * b + 2 < n ∧ okB (4 * b + 2) (t (4 * b + 2)) = false) ∨ (4 * b + 2 = n ∧ n % 4 ≠ 3) → wp (f_X2_parseAll_b102 (ms (ms (ms σ 7 b (nI (kdB t b))) 8 b (nI (mkB t b))) 9 b z) (nI (4 * b))) (fun o => Fr [6, 7, 8, 9] σ o.2 ∧ o.2.1 6 4 = σ.1 6 4 ∧ o.1 = pfB n t ∧ (pfB n t = (-1 : Int32) → o.2.1 6 3 = nI (nbB n t) ∧ ∀ j, j < nbB n t → (o.2.1 7 j = nI (kdB t j) ∧ o.2.1 8 j = nI (mkB t j) ∧ o.2.1 9 j = nI (mnB t j)) ∧ kdB t j < 3 ∧ mkB t j < 6 ∧ mnB t j < 10)) := by
          intro z hbad
          obtain ⟨q1, -⟩ := pfB_at (by omega) hn0 hok2 hbad
          unfold f_X2_parseAll_b102
          rw [e2]
          refine wp_some.mpr ⟨f3 _ _ _, g3 _ _ _, q1.symm, fun q => ?_⟩
          rw [q1] at q
          exact (neg _ (by omega) q).elim
        by_cases k2 : 4 * b + 2 < n ∧ okB (4 * b + 2) (t (4 * b + 2)) = true
        · have hv2 := hT.2.2.2 _ k2.1
          have ho2 := k2.2
          rw [okB2, decide_eq_true_iff] at ho2
          have e48 : nI (t (4 * b + 2)) - (48 : Int32) = nI (mnB t b) := by
            refine (sub_eq (c := 48) (by omega) (by omega) ?_).mpr ?_
            · unfold mnB vB; rw [if_neg (by omega), if_neg (by omega), if_pos (by omega)]; omega
            · unfold mnB vB; rw [if_neg (by omega), if_neg (by omega), if_pos (by omega)]; omega
          have hmn : mnB t b < 10 := (vB_lt k2.2).2.2 (by omega)
          have hmn1 : 1 ≤ mnB t b := by unfold mnB vB; rw [if_neg (by omega), if_neg (by omega), if_pos (by omega)]; omega
          rw [if_pos k2.1, e48, show (1 : Int32) = nI 1 from rfl, show (9 : Int32) = nI 9 from rfl]
          refine wp_ie (fun q => by have := (nI_ltI (by omega) (by omega)).mp q; omega) (wp_ckN (by omega) (by omega) (wp_it ((nI_leI (by omega) (by omega)).mpr (by omega)) (wp_lt ?_)))
          have f4 : ∀ x y z w, Fr [6, 7, 8, 9] σ (ms (ms (ms (ms σ 7 b x) 8 b y) 9 b z) 6 3 w) := fun x y z w => (f3 x y z).ms (by simp)
          have g4 : ∀ x y z w, (ms (ms (ms (ms σ 7 b x) 8 b y) 9 b z) 6 3 w).1 6 4 = σ.1 6 4 := fun x y z w => by rw [ms_same, upd_n (by decide), ms_ne (by decide), ms_ne (by decide), ms_ne (by decide)]
          have hT4 := hT.fr (f4 (nI (kdB t b)) (nI (mkB t b)) (nI (mnB t b)) (nI b + nI 1)) (by decide) (by decide)
          have hok3 : ∀ j, j < 4 * b + 3 → okB j (t j) = true := fun j hj => by
            by_cases e : j = 4 * b + 2
            · rw [e]; exact k2.2
            · exact hok2 j (by omega)
          have e3 : nI (4 * b) + (3 : Int32) = nI (4 * b + 3) := nI_add _ 3
          have hrow4 : ∀ j, j < b + 1 → ((ms (ms (ms (ms σ 7 b (nI (kdB t b))) 8 b (nI (mkB t b))) 9 b (nI (mnB t b))) 6 3 (nI b + nI 1)).1 7 j = nI (kdB t j) ∧ (ms (ms (ms (ms σ 7 b (nI (kdB t b))) 8 b (nI (mkB t b))) 9 b (nI (mnB t b))) 6 3 (nI b + nI 1)).1 8 j = nI (mkB t j) ∧ (ms (ms (ms (ms σ 7 b (nI (kdB t b))) 8 b (nI (mkB t b))) 9 b (nI (mnB t b))) 6 3 (nI b + nI 1)).1 9 j = nI (mnB t j)) := by
            intro j hj
            rw [ms_ne (show (7 : Nat) ≠ 6 by decide), ms_ne (show (7 : Nat) ≠ 9 by decide), ms_ne (show (7 : Nat) ≠ 8 by decide), ms_same, ms_ne (show (8 : Nat) ≠ 6 by decide), ms_ne (show (8 : Nat) ≠ 9 by decide), ms_same, ms_ne (show (8 : Nat) ≠ 7 by decide), ms_ne (show (9 : Nat) ≠ 6 by decide), ms_same, ms_ne (show (9 : Nat) ≠ 8 by decide), ms_ne (show (9 : Nat) ≠ 7 by decide)]
            by_cases e : j = b
            · subst e
              rw [upd_s, upd_s, upd_s]
              exact ⟨rfl, rfl, rfl⟩
            · rw [upd_n e, upd_n e, upd_n e]
              exact hrow j (by omega)
          rw [e3, hT4.2.1]
          refine wp_ite (fun c => ?_) (fun c => ?_)
          · have c' : 4 * b + 3 = n := (nI_eq (by omega) (by omega)).mp c
            obtain ⟨q1, q2⟩ := pfB_ok (n := n) (t := t) (Or.inl (by omega)) (fun j hj => hok3 j (by omega))
            have q3 : nbB n t = b + 1 := by omega
            refine wp_some.mpr ⟨f4 _ _ _ _, g4 _ _ _ _, q1.symm, fun _ => ?_⟩
            rw [q3]
            refine ⟨by rw [ms_same, upd_s, nI_add], fun j hj => ⟨hrow4 j hj, (vB_lt (hok3 (4 * j) (by omega))).1 (by omega), (vB_lt (hok3 (4 * j + 1) (by omega))).2.1 (by omega), (vB_lt (hok3 (4 * j + 2) (by omega))).2.2 (by omega)⟩⟩
          · have c' : ¬ 4 * b + 3 = n := fun e => c (by rw [e])
            have hlt : 4 * b + 3 < n := by omega
            refine wp_bpE (from_eq hT4 (by omega)) ?_
            rw [if_pos hlt]
            have hv3 := (hT.2.2.2 _ hlt).2
            refine wp_ite (fun c3 => ?_) (fun c3 => ?_)
            · have c3' : t (4 * b + 3) = 59 + 0 := (sub_eq (c := 59) (d := 0) (by omega) (by omega) (by omega)).mp c3
              have e4 : nI (4 * b + 3) + nI 1 = nI (4 * (b + 1)) := by rw [nI_add, show 4 * b + 3 + 1 = 4 * (b + 1) by omega]
              rw [e4, nI_add]
              refine wp_mono (ih (b + 1) _ (by omega) (by omega) (by omega) hT4 (fun j hj => ?_) (by rw [nI_add] at hrow4; exact hrow4)) (fun o h => ⟨(f4 _ _ _ _).tr h.1, h.2.1.trans (g4 _ _ _ _), h.2.2⟩)
              by_cases e : j = 4 * b + 3
              · rw [e, okB3, decide_eq_true_iff]; omega
              · exact hok3 j (by omega)
            · have c3' : ¬ t (4 * b + 3) = 59 := fun e => c3 ((sub_eq (c := 59) (d := 0) (by omega) (by omega) (by omega)).mpr (by omega))
              obtain ⟨q1, -⟩ := pfB_at (i := 4 * b + 3) (by omega) hn0 hok3 (Or.inl ⟨hlt, by rw [okB3]; exact decide_eq_false c3'⟩)
              refine wp_some.mpr ⟨f4 _ _ _ _, g4 _ _ _ _, q1.symm, fun q => ?_⟩
              rw [q1] at q
              exact (neg _ (by omega) q).elim
        · have hbad : (4 * b + 2 < n ∧ okB (4 * b + 2) (t (4 * b + 2)) = false) ∨ (4 * b + 2 = n ∧ n % 4 ≠ 3) := by
            by_cases e : 4 * b + 2 < n
            · exact Or.inl ⟨e, by rcases ho : okB (4 * b + 2) (t (4 * b + 2)) with _ | _; rfl; exact absurd ⟨e, ho⟩ k2⟩
            · exact Or.inr (by omega)
          by_cases c : 4 * b + 2 < n
          · have hv2 := (hT.2.2.2 _ c).2
            have hno : ¬ (49 ≤ t (4 * b + 2) ∧ t (4 * b + 2) ≤ 57) := fun w => k2 ⟨c, by rw [okB2]; exact decide_eq_true w⟩
            rw [if_pos c]
            refine wp_ite (fun _ => bad _ hbad) (fun c1 => wp_ckN (by omega) (by omega) (wp_ie (fun c2 => ?_) (bad _ hbad)))
            have i0 : (nI (t (4 * b + 2)) - (48 : Int32)).toInt = (t (4 * b + 2) : Int) - (48 : Nat) := subI (c := 48) (by omega) (by omega)
            have i1 : ¬ (nI (t (4 * b + 2)) - (48 : Int32)).toInt < 1 := fun w => c1 (Int32.lt_iff_toInt_lt.mpr w)
            have i2 : (nI (t (4 * b + 2)) - (48 : Int32)).toInt ≤ 9 := Int32.le_iff_toInt_le.mp c2
            omega
          · rw [if_neg c]
            exact wp_it (by decide) (bad _ hbad)
      · have hbad : (4 * b + 1 < n ∧ okB (4 * b + 1) (t (4 * b + 1)) = false) ∨ (4 * b + 1 = n ∧ n % 4 ≠ 3) := by
          by_cases e : 4 * b + 1 < n
          · exact Or.inl ⟨e, by rcases ho : okB (4 * b + 1) (t (4 * b + 1)) with _ | _; rfl; exact absurd ⟨e, ho⟩ k1⟩
          · exact Or.inr (by omega)
        obtain ⟨q1, -⟩ := pfB_at (by omega) hn0 hok1 hbad
        have hw : ¬ (0 ≤ (if 4 * b + 1 < n then nI (t (4 * b + 1)) - (97 : Int32) else (-257 : Int32)).toInt ∧ (if 4 * b + 1 < n then nI (t (4 * b + 1)) - (97 : Int32) else (-257 : Int32)).toInt < (6 : Nat)) := by
          by_cases c : 4 * b + 1 < n
          · have hv := (hT.2.2.2 _ c).2
            have hno : ¬ (97 ≤ t (4 * b + 1) ∧ t (4 * b + 1) ≤ 102) := fun w => k1 ⟨c, by rw [okB1]; exact decide_eq_true w⟩
            have i0 : (nI (t (4 * b + 1)) - (97 : Int32)).toInt = (t (4 * b + 1) : Int) - (97 : Nat) := subI (c := 97) (by omega) (by omega)
            rw [if_pos c, i0]
            omega
          · rw [if_neg c]
            decide
        rw [if_neg hw]
        refine wp_it rfl (wp_some.mpr ⟨f2 _ _, g2 _ _, q1.symm, fun q => ?_⟩)
        rw [q1] at q
        exact (neg _ (by omega) q).elim
    · rw [if_neg k0]
      have hbad : (4 * b < n ∧ okB (4 * b) (t (4 * b)) = false) ∨ (4 * b = n ∧ n % 4 ≠ 3) := by
        by_cases e : 4 * b < n
        · exact Or.inl ⟨e, by rcases ho : okB (4 * b) (t (4 * b)) with _ | _; rfl; exact absurd ⟨e, ho⟩ k0⟩
        · exact Or.inr (by omega)
      obtain ⟨q1, -⟩ := pfB_at hb hn0 hok hbad
      refine wp_it rfl (wp_some.mpr ⟨f1 _, g1 _, q1.symm, fun q => ?_⟩)
      rw [q1] at q
      exact (neg _ (by omega) q).elim
theorem nbB_le (hn : n ≤ 31) : nbB n t ≤ 8 := by
  unfold nbB
  split <;> omega
theorem pfB_no (h : ¬ pfB n t = (-1 : Int32)) : nbB n t = 0 := by
  unfold pfB at h
  unfold nbB
  by_cases c : fB n t < n
  · rw [if_pos (Or.inl c)]
  · rw [if_neg c] at h
    by_cases c2 : 0 < n ∧ n % 4 ≠ 3
    · rw [if_pos (Or.inr c2)]
    · rw [if_neg c2] at h
      exact absurd rfl h
theorem parseB_wp (h : Ctx σ 2 n t) : wp (f_X2_parse σ 2) (fun τ => Fr [6, 7, 8, 9] σ τ ∧ τ.1 6 4 = pfB n t ∧ Cb τ (nbB n t) (kdB t) (mkB t) (mnB t)) := by
  have hn : n ≤ 31 := h.2.2.1
  have hle := nbB_le (t := t) hn
  unfold f_X2_parse
  refine wp_lt ?_
  have f0 : Fr [6, 7, 8, 9] σ (ms σ 6 3 0) := Fr.rf.ms (by simp)
  have h1 := h.fr f0 (by decide) (by decide)
  rw [h1.2.1]
  have tail : ∀ (σ5 : Mem) (v : Int32), Fr [6, 7, 8, 9] σ σ5 → v = pfB n t → (pfB n t = (-1 : Int32) → σ5.1 6 3 = nI (nbB n t) ∧ ∀ j, j < nbB n t → (σ5.1 7 j = nI (kdB t j) ∧ σ5.1 8 j = nI (mkB t j) ∧ σ5.1 9 j = nI (mnB t j)) ∧ kdB t j < 3 ∧ mkB t j < 6 ∧ mnB t j < 10) → wp (f_X2_parse_b22 σ5 v) (fun τ => Fr [6, 7, 8, 9] σ τ ∧ τ.1 6 4 = pfB n t ∧ Cb τ (nbB n t) (kdB t) (mkB t) (mnB t)) := by
    intro σ5 v g1 g2 g3
    unfold f_X2_parse_b22
    refine wp_lt ?_
    rw [ms_same, upd_s]
    refine wp_ite (fun c => ?_) (fun c => wp_lt ?_)
    · obtain ⟨g4, g5⟩ := g3 (by rw [← g2]; exact c)
      refine wp_some.mpr ⟨g1.ms (by simp), by rw [ms_same, upd_s, g2], hle, by rw [ms_same, upd_n (by decide)]; exact g4, fun b hb => ?_⟩
      rw [ms_ne (show (7 : Nat) ≠ 6 by decide), ms_ne (show (8 : Nat) ≠ 6 by decide), ms_ne (show (9 : Nat) ≠ 6 by decide)]
      obtain ⟨⟨a1, a2, a3⟩, a4⟩ := g5 b hb
      exact ⟨a1, a2, a3, a4⟩
    · have e0 : nbB n t = 0 := pfB_no (fun q => c (g2.trans q))
      refine wp_some.mpr ⟨(g1.ms (by simp)).ms (by simp), by rw [ms_same, upd_n (by decide), ms_same, upd_s, g2], hle, by rw [ms_same, upd_s, e0]; rfl, fun b hb => by omega⟩
  refine wp_ite (fun c => ?_) (fun c => ?_)
  · have c' : n = 0 := (nI_eq (b := 0) (by omega) (by omega)).mp c
    obtain ⟨q1, q2⟩ := pfB_ok (n := n) (t := t) (Or.inr c') (fun j hj => by omega)
    refine tail _ _ f0 q1.symm (fun _ => ⟨?_, fun j hj => by omega⟩)
    rw [ms_same, upd_s, q2, c']
    rfl
  · have c' : 0 < n := by
      rcases Nat.eq_zero_or_pos n with e | e
      · rw [e] at c; exact absurd rfl c
      · exact e
    unfold f_X2_parseAll
    refine wp_bi (wp_mono (parseB_loop c' hn 300 0 _ (by omega) (by omega) (by omega) h1 (fun j hj => by omega) (fun j hj => by omega)) (fun o g => ?_))
    exact tail o.2 o.1 (f0.tr g.1) g.2.2.1 g.2.2.2
end PB
/-- what of the reference's memory stays -/
def MX (rs is : List Nat) (σ τ : Mem) : Prop := (∀ r, r ≠ 64 → r ∉ rs → τ.1 r = σ.1 r) ∧ (∀ i, i ∉ is → τ.1 64 i = σ.1 64 i) ∧ τ.2 = σ.2
section MXS
variable {rs is qs js : List Nat} {σ τ υ : Mem} {r i : Nat} {x : Int32}
theorem MX.rf : MX rs is σ σ := ⟨fun _ _ _ => rfl, fun _ _ => rfl, rfl⟩
theorem MX.tr (h1 : MX rs is σ τ) (h2 : MX rs is τ υ) : MX rs is σ υ := ⟨fun r h0 h => (h2.1 r h0 h).trans (h1.1 r h0 h), fun i h => (h2.2.1 i h).trans (h1.2.1 i h), h2.2.2.trans h1.2.2⟩
theorem MX.wide (h : MX rs is σ τ) (h1 : ∀ r, r ∈ rs → r ∈ qs) (h2 : ∀ i, i ∈ is → i ∈ js) : MX qs js σ τ := ⟨fun r h0 hr => h.1 r h0 (fun q => hr (h1 r q)), fun i hi => h.2.1 i (fun q => hi (h2 i q)), h.2.2⟩
theorem MX.row (h : MX rs is σ τ) (hr : r ∈ rs) (h64 : r ≠ 64) : MX rs is σ (ms τ r i x) := by
  refine ⟨fun q h0 hq => ?_, fun j hj => ?_, h.2.2⟩
  · rw [ms_ne (show q ≠ r from fun e => hq (by rw [e]; exact hr))]
    exact h.1 q h0 hq
  · rw [ms_ne (Ne.symm h64)]
    exact h.2.1 j hj
theorem MX.fld (h : MX rs is σ τ) (hi : i ∈ is) : MX rs is σ (ms τ 64 i x) := by
  refine ⟨fun q h0 hq => ?_, fun j hj => ?_, h.2.2⟩
  · rw [ms_ne h0]
    exact h.1 q h0 hq
  · rw [ms_same, upd_n (show j ≠ i from fun e => hj (by rw [e]; exact hi))]
    exact h.2.1 j hj
theorem MF.toX (h : MF σ τ) : MX [74, 75, 76, 77] [19, 20, 21] σ τ := ⟨fun r h0 hr => h.1 r (fun q => (List.mem_cons.mp q).elim h0 hr), h.2.1, h.2.2⟩
end MXS
def Mtx (σ : Mem) (n0 : Nat) (t0 : Nat → Nat) (n1 : Nat) (t1 : Nat → Nat) : Prop := σ.1 70 0 = nI n0 ∧ σ.1 70 1 = nI n1 ∧ n0 ≤ 31 ∧ n1 ≤ 63 ∧ (∀ i, i < n0 → σ.1 69 i = nI (t0 i) ∧ t0 i < 256) ∧ ∀ i, i < n1 → σ.1 69 (64 + i) = nI (t1 i) ∧ t1 i < 256
section RB
variable {σ τ : Mem} {n n1 : Nat} {t t1 : Nat → Nat}
theorem Mtx.fr {rs is : List Nat} (h : Mtx σ n t n1 t1) (hf : MX rs is σ τ) (h0 : 69 ∉ rs) (h1 : 70 ∉ rs) : Mtx τ n t n1 t1 := by
  unfold Mtx at h ⊢
  rw [hf.1 69 (by decide) h0, hf.1 70 (by decide) h1]
  exact h
theorem in_lit {x : Int32} {a b : Nat} {A B : Int64} (hA : A.toInt = a) (hB : B.toInt = b) : f_X10_in σ x.toInt64 A B = some (if (a : Int) ≤ x.toInt ∧ x.toInt ≤ b then 1 else 0) := by
  unfold f_X10_in
  have h1 : (lg_cmp x.toInt64 A < 0) ↔ x.toInt < a := by rw [lg_cmp_lt, Int64.lt_iff_toInt_lt, Int32.toInt_toInt64, hA]
  have h2 : (0 < lg_cmp x.toInt64 B) ↔ (b : Int) < x.toInt := by rw [lg_cmp_gt, Int64.lt_iff_toInt_lt, Int32.toInt_toInt64, hB]
  by_cases c1 : x.toInt < a
  · rw [if_pos (h1.mpr c1), if_neg (by omega)]
  · rw [if_neg (fun q => c1 (h1.mp q))]
    by_cases c2 : (b : Int) < x.toInt
    · rw [if_pos (h2.mpr c2), if_neg (by omega)]
    · rw [if_neg (fun q => c2 (h2.mp q)), if_pos (by omega)]
theorem bridgeOf_eq {i b : Nat} (hb : b < 256) : f_X10_bridgeOf σ (nI (i % 4)) (nI b) = some (if okB i b = true then nI (vB i b) else (-9 : Int32)) := by
  unfold f_X10_bridgeOf okB vB
  have eb : (nI b).toInt = (b : Int) := nI_toInt (by omega)
  have l1 : ∀ c d, d < 1000 → c < 1000 → (nI c = nI d ↔ c = d) := fun c d h1 h2 => nI_eq (by omega) (by omega)
  rcases (show i % 4 = 0 ∨ i % 4 = 1 ∨ i % 4 = 2 ∨ i % 4 = 3 by omega) with e | e | e | e
  · rw [e, if_pos (show nI 0 = (0 : Int32) from rfl), if_pos (show (0 : Nat) = 0 from rfl), if_pos (show (0 : Nat) = 0 from rfl)]
    by_cases c0 : b = 108
    · rw [if_pos (show nI b = (108 : Int32) by rw [c0]; rfl), if_pos (by simp [c0]), if_pos c0]
      rfl
    · rw [if_neg (show ¬ nI b = (108 : Int32) from fun q => c0 ((l1 b 108 (by omega) (by omega)).mp q))]
      by_cases c1 : b = 110
      · rw [if_pos (show nI b = (110 : Int32) by rw [c1]; rfl), if_pos (by simp [c1]), if_neg c0, if_pos c1]
        rfl
      · rw [if_neg (show ¬ nI b = (110 : Int32) from fun q => c1 ((l1 b 110 (by omega) (by omega)).mp q))]
        by_cases c2 : b = 109
        · rw [if_pos (show nI b = (109 : Int32) by rw [c2]; rfl), if_pos (by simp [c2]), if_neg c0, if_neg c1]
          rfl
        · rw [if_neg (show ¬ nI b = (109 : Int32) from fun q => c2 ((l1 b 109 (by omega) (by omega)).mp q)), if_neg (by simp [c0, c1, c2])]
  · rw [e, if_neg (show ¬ nI 1 = (0 : Int32) by decide), if_pos (show nI 1 = (1 : Int32) from rfl), in_lit (a := 97) (b := 102) (by decide) (by decide), bp_some, eb, if_neg (show ¬ (1 : Nat) = 0 by decide), if_pos (show (1 : Nat) = 1 from rfl), if_neg (show ¬ (1 : Nat) = 0 by decide), if_pos (show (1 : Nat) = 1 from rfl)]
    by_cases c : 97 ≤ b ∧ b ≤ 102
    · rw [if_pos (show ((97 : Nat) : Int) ≤ (b : Int) ∧ (b : Int) ≤ ((102 : Nat) : Int) by omega), if_neg (show ¬ (1 : Int32) = 0 by decide), decide_eq_true c, if_pos rfl]
      congr 1
      exact pk_sub (a := b) (b := 97) (by omega)
    · rw [if_neg (show ¬ (((97 : Nat) : Int) ≤ (b : Int) ∧ (b : Int) ≤ ((102 : Nat) : Int)) by omega), if_pos rfl, decide_eq_false c]
      rfl
  · rw [e, if_neg (show ¬ nI 2 = (0 : Int32) by decide), if_neg (show ¬ nI 2 = (1 : Int32) by decide), if_pos (show nI 2 = (2 : Int32) from rfl), in_lit (a := 49) (b := 57) (by decide) (by decide), bp_some, eb, if_neg (show ¬ (2 : Nat) = 0 by decide), if_neg (show ¬ (2 : Nat) = 1 by decide), if_pos (show (2 : Nat) = 2 from rfl), if_neg (show ¬ (2 : Nat) = 0 by decide), if_neg (show ¬ (2 : Nat) = 1 by decide), if_pos (show (2 : Nat) = 2 from rfl)]
    by_cases c : 49 ≤ b ∧ b ≤ 57
    · rw [if_pos (show ((49 : Nat) : Int) ≤ (b : Int) ∧ (b : Int) ≤ ((57 : Nat) : Int) by omega), if_neg (show ¬ (1 : Int32) = 0 by decide), decide_eq_true c, if_pos rfl]
      congr 1
      exact pk_sub (a := b) (b := 48) (by omega)
    · rw [if_neg (show ¬ (((49 : Nat) : Int) ≤ (b : Int) ∧ (b : Int) ≤ ((57 : Nat) : Int)) by omega), if_pos rfl, decide_eq_false c]
      rfl
  · rw [e, if_neg (show ¬ nI 3 = (0 : Int32) by decide), if_neg (show ¬ nI 3 = (1 : Int32) by decide), if_neg (show ¬ nI 3 = (2 : Int32) by decide), if_neg (show ¬ (3 : Nat) = 0 by decide), if_neg (show ¬ (3 : Nat) = 1 by decide), if_neg (show ¬ (3 : Nat) = 2 by decide), if_neg (show ¬ (3 : Nat) = 0 by decide), if_neg (show ¬ (3 : Nat) = 1 by decide), if_neg (show ¬ (3 : Nat) = 2 by decide)]
    by_cases c : b = 59
    · rw [if_pos (show nI b = (59 : Int32) by rw [c]; rfl), decide_eq_true c]
      rfl
    · rw [if_neg (show ¬ nI b = (59 : Int32) from fun q => c ((l1 b 59 (by omega) (by omega)).mp q)), decide_eq_false c]
      rfl
theorem readsB_loop (hn : n ≤ 31) : ∀ (m i : Nat) (σ : Mem), i ≤ n → n < i + m → Mtx σ n t n1 t1 → (∀ j, j < i → okB j (t j) = true) → σ.1 64 7 = nI ((i + 1) / 4) → (∀ j, j < i → j % 4 < 3 → σ.1 71 (3 * (j / 4) + j % 4) = nI (vB j (t j))) →
    wp (f_X10_readsBridges_b14 m σ (nI n) (nI i)) (fun o => o.1 = pfB n t ∧ MX [71] [7] σ o.2 ∧ Mb o.2 (nbB n t) (kdB t) (mkB t) (mnB t)) := by
  intro m
  have hle := nbB_le (t := t) hn
  induction m with
  | zero => intro i σ h1 h2; omega
  | succ m ih =>
    intro i σ h1 h2 hT hok h7 hrow
    have e4 : ∀ z, z < 1000 → nI z - nI z / (4 : Int32) * (4 : Int32) = nI (z % 4) := fun z hz => pk_rem (d := 4) (by omega) (by omega) (by omega)
    rw [f_X10_readsBridges_b14, e4 n (by omega), e4 i (by omega)]
    refine wp_ite (fun c => ?_) (fun c => ?_)
    · rw [nI_leI (by omega) (by omega)] at c
      have ei : i = n := by omega
      subst ei
      have good : (i % 4 = 3 ∨ i = 0) → wp (some ((-1 : Int32), σ)) (fun o => o.1 = pfB i t ∧ MX [71] [7] σ o.2 ∧ Mb o.2 (nbB i t) (kdB t) (mkB t) (mnB t)) := by
        intro hg
        obtain ⟨q1, q2⟩ := pfB_ok (t := t) hg hok
        refine wp_some.mpr ⟨q1.symm, MX.rf, hle, by rw [q2]; exact h7, fun b hb => ?_⟩
        have r0 := hrow (4 * b) (by omega) (by omega)
        have r1 := hrow (4 * b + 1) (by omega) (by omega)
        have r2 := hrow (4 * b + 2) (by omega) (by omega)
        rw [show 3 * (4 * b / 4) + 4 * b % 4 = 3 * b by omega] at r0
        rw [show 3 * ((4 * b + 1) / 4) + (4 * b + 1) % 4 = 3 * b + 1 by omega] at r1
        rw [show 3 * ((4 * b + 2) / 4) + (4 * b + 2) % 4 = 3 * b + 2 by omega] at r2
        exact ⟨r0, r1, r2, (vB_lt (hok (4 * b) (by omega))).1 (by omega), (vB_lt (hok (4 * b + 1) (by omega))).2.1 (by omega), (vB_lt (hok (4 * b + 2) (by omega))).2.2 (by omega)⟩
      refine wp_ite (fun c2 => ?_) (fun c2 => ?_)
      · have c0 : i = 0 := by
          rcases Nat.eq_zero_or_pos i with e | e
          · exact e
          · exact absurd c2 (nI_nle e (by omega))
        exact good (Or.inr c0)
      · refine wp_ite (fun c3 => ?_) (fun c3 => ?_)
        · exact good (Or.inl ((nI_eq (b := 3) (by omega) (by omega)).mp c3))
        · have hne : i % 4 ≠ 3 := fun e => c3 (by rw [e]; rfl)
          have hpos : 0 < i := by
            rcases Nat.eq_zero_or_pos i with e | e
            · rw [e] at c2; exact absurd (by decide) c2
            · exact e
          obtain ⟨q1, q2⟩ := pfB_at (n := i) (t := t) (Nat.le_refl _) hpos hok (Or.inr ⟨rfl, hne⟩)
          refine wp_lt (wp_some.mpr ⟨q1.symm, MX.rf.fld (by simp), hle, by rw [ms_same, upd_s, q2]; rfl, fun b hb => by omega⟩)
    · have hi := nI_not_le c (by omega) (by omega)
      obtain ⟨eb, hb⟩ := hT.2.2.2.2.1 i hi
      refine wp_ckN (by omega) (by omega) ?_
      rw [nI_clamp (by omega), eb]
      refine wp_bpE (bridgeOf_eq hb) ?_
      cases ho : okB i (t i) with
      | false =>
        rw [if_neg (show ¬ false = true by decide)]
        obtain ⟨q1, q2⟩ := pfB_at (t := t) h1 (by omega) hok (Or.inl ⟨hi, ho⟩)
        exact wp_it rfl (wp_lt (wp_some.mpr ⟨q1.symm, MX.rf.fld (by simp), hle, by rw [ms_same, upd_s, q2]; rfl, fun b hb => by omega⟩))
      | true =>
        rw [if_pos rfl]
        have hv := vB_lt ho
        have hok2 : ∀ j, j < i + 1 → okB j (t j) = true := fun j hj => by
          by_cases e : j = i
          · rw [e]; exact ho
          · exact hok j (by omega)
        have nvB : vB i (t i) < 1000 := by
          rcases (show i % 4 = 0 ∨ i % 4 = 1 ∨ i % 4 = 2 ∨ i % 4 = 3 by omega) with e | e | e | e
          · have := hv.1 e; omega
          · have := hv.2.1 e; omega
          · have := hv.2.2 e; omega
          · unfold vB; rw [if_neg (by omega), if_neg (by omega), if_neg (by omega)]; omega
        refine wp_ie (fun q => ?_) ?_
        · have h9 : (-9 : Int32).toInt = -9 := by decide
          have := nI_toInt (n := vB i (t i)) (by omega)
          rw [q] at this
          omega
        have next : ∀ (σ' : Mem) (y : Nat), MX [71] [7] σ σ' → σ'.1 64 7 = nI ((i + 1) / 4) → (∀ j, j < i + 1 → j % 4 < 3 → σ'.1 71 (3 * (j / 4) + j % 4) = nI (vB j (t j))) → (i + 1) / 4 + y = (i + 1 + 1) / 4 → wp (f_X10_readsBridges_b83 (f_X10_readsBridges_b14 m) σ' (nI n) (nI i) (nI y) (σ'.1 64 7)) (fun o => o.1 = pfB n t ∧ MX [71] [7] σ o.2 ∧ Mb o.2 (nbB n t) (kdB t) (mkB t) (mnB t)) := by
          intro σ' y g1 g2 g3 g4
          unfold f_X10_readsBridges_b83
          refine wp_lt ?_
          rw [g2, nI_add, nI_1, g4]
          have f2 : MX [71] [7] σ' (ms σ' 64 7 (nI ((i + 1 + 1) / 4))) := MX.rf.fld (by simp)
          refine wp_mono (ih (i + 1) _ (by omega) (by omega) (hT.fr (g1.tr f2) (by decide) (by decide)) hok2 (by rw [ms_same, upd_s]) (fun j hj h3 => by rw [ms_ne (by decide)]; exact g3 j hj h3)) (fun o h => ⟨h.1, (g1.tr f2).tr h.2.1, h.2.2⟩)
        have tail : ∀ σ' : Mem, MX [71] [7] σ σ' → σ'.1 64 7 = nI ((i + 1) / 4) → (∀ j, j < i + 1 → j % 4 < 3 → σ'.1 71 (3 * (j / 4) + j % 4) = nI (vB j (t j))) → wp (f_X10_readsBridges_b68 (f_X10_readsBridges_b14 m) σ' (nI n) (nI i) (nI (i % 4))) (fun o => o.1 = pfB n t ∧ MX [71] [7] σ o.2 ∧ Mb o.2 (nbB n t) (kdB t) (mkB t) (mnB t)) := by
          intro σ' g1 g2 g3
          unfold f_X10_readsBridges_b68
          refine wp_ite (fun c2 => ?_) (fun c2 => ?_)
          · have e2 : i % 4 = 2 := (nI_eq (b := 2) (by omega) (by omega)).mp c2
            exact next σ' 1 g1 g2 g3 (by omega)
          · have e2 : i % 4 ≠ 2 := fun e => c2 (by rw [e]; rfl)
            exact next σ' 0 g1 g2 g3 (by omega)
        refine wp_ite (fun c3 => ?_) (fun c3 => ?_)
        · have e3 : 3 ≤ i % 4 := (nI_leI (a := 3) (by omega) (by omega)).mp c3
          refine tail σ MX.rf h7 (fun j hj h3 => ?_)
          by_cases e : j = i
          · omega
          · exact hrow j (by omega) h3
        · have e3 : i % 4 < 3 := nI_not_le (a := 3) c3 (by omega) (by omega)
          have ed : nI i / (4 : Int32) = nI (i / 4) := pk_div (d := 4) (by omega) (by omega) (by omega)
          have ex : (3 : Int32) * nI (i / 4) + nI (i % 4) = nI (3 * (i / 4) + i % 4) := by rw [nI_lit 3, pk_mul, nI_add]
          rw [ed, ex, nI_clamp (by omega)]
          refine wp_ckN (by omega) (by omega) (wp_lt (tail _ (MX.rf.row (by simp) (by decide)) (by rw [ms_ne (by decide)]; exact h7) (fun j hj h3 => ?_)))
          rw [ms_same]
          by_cases e : j = i
          · rw [e, upd_s]
          · rw [upd_n (by omega)]
            exact hrow j (by omega) h3
theorem readsB_wp (hT : Mtx σ n t n1 t1) : wp (f_X10_readsBridges σ) (fun o => o.1 = pfB n t ∧ MX [71] [7] σ o.2 ∧ Mb o.2 (nbB n t) (kdB t) (mkB t) (mnB t)) := by
  unfold f_X10_readsBridges
  have f0 : MX [71] [7] σ (ms σ 64 7 0) := MX.rf.fld (by simp)
  have hT0 := hT.fr f0 (by decide) (by decide)
  refine wp_lt (wp_ck (vp_in_nI (n := 0) (by decide) (by decide)) ?_)
  rw [c0, hT0.1]
  refine wp_mono (readsB_loop (n1 := n1) (t1 := t1) hT.2.2.1 300 0 _ (by omega) (by have := hT.2.2.1; omega) hT0 (fun j hj => by omega) (by rw [ms_same, upd_s]; rfl) (fun j hj => by omega)) (fun o h => ⟨h.1, f0.tr h.2.1, h.2.2⟩)
end RB
