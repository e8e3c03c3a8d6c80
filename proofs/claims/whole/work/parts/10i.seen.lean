/-! 10i: what was seen: liked, under -/
def un {α : Type} (f : Nat → α) (b : Nat) (v : α) (q : Nat) : α := if q = b then v else f q
theorem un_s {α : Type} {f : Nat → α} {b : Nat} {v : α} : un f b v b = v := if_pos rfl
theorem un_n {α : Type} {f : Nat → α} {b q : Nat} {v : α} (h : q ≠ b) : un f b v q = f q := if_neg h
theorem un_self {α : Type} {f : Nat → α} {b : Nat} : un f b (f b) = f := by
  funext q
  by_cases c : q = b
  · rw [c, un_s]
  · rw [un_n c]
def allb (f : Nat → Bool) : Nat → Bool
  | 0 => true
  | n + 1 => allb f n && f n
theorem allb_no {f : Nat → Bool} {i : Nat} (h : f i = false) : ∀ n, i < n → allb f n = false := by
  intro n
  induction n with
  | zero => intro h; omega
  | succ n ih =>
    intro hi
    rw [allb]
    by_cases c : i = n
    · rw [← c, h, Bool.and_false]
    · rw [ih (by omega), Bool.false_and]
def okS (lf : Nat → Nat → Bool) (nk P : Nat) (st gt gk gb : Nat → Nat) (i : Nat) : Bool := decide (gk i < nk) && decide (sim lf nk P st (gt i + 1) (gk i) = gb i + 1)
abbrev seesB (lf : Nat → Nat → Bool) (nk P : Nat) (st : Nat → Nat) (ng : Nat) (gt gk gb : Nat → Nat) : Bool := allb (okS lf nk P st gt gk gb) ng
def orb (x : Int32) (f : Nat → Bool) : Nat → Int32
  | 0 => x
  | n + 1 => if f n = true then orb x f n ||| ((1 : Int32) <<< (nI n &&& 31)) else orb x f n
def Gok (ng : Nat) (gt gk gb : Nat → Nat) : Prop := ng ≤ 8 ∧ ∀ i, i < ng → gt i < 100 ∧ gk i < 8 ∧ gb i < 9
section SEEN
variable {σ τ : Mem} {lf : Nat → Nat → Bool} {nb nk ns ng P bl aw n0 n1 r : Nat} {st t0 t1 kd mk mn bs sb sm gt gk gb : Nat → Nat} {ma sh : Nat → Nat → Nat}
theorem Cg.ok (h : Cg σ ng gt gk gb) : Gok ng gt gk gb := ⟨h.1, fun i hi => (h.2.2 i hi).2.2.2⟩
theorem hold_loop (hV : Vok σ r lf nk P st) (hG : Cg σ ng gt gk gb) : ∀ (q j : Nat), j ≤ ng → ng < j + q → allb (okS lf nk P st gt gk gb) j = true → f_X6_allHold_b2 σ q r (nI j) = some (if seesB lf nk P st ng gt gk gb = true then 1 else 0) := by
  obtain ⟨g8, e33, hg⟩ := hG
  obtain ⟨p8, k8, e5, e6, -, -⟩ := hV.1
  intro q
  induction q with
  | zero => intro j h1 h2; omega
  | succ q ih =>
    intro j h1 h2 ha
    rw [f_X6_allHold_b2, e33, e6]
    by_cases c : ng ≤ j
    · have e : j = ng := by omega
      subst e
      rw [if_pos ((nI_leI (by omega) (by omega)).mpr (Nat.le_refl _)), if_pos ha]
    · have hj : j < ng := by omega
      obtain ⟨e34, e35, e36, l1, l2, l3⟩ := hg j hj
      rw [if_neg (fun z => c ((nI_leI (by omega) (by omega)).mp z)), ck_N (by omega) (by decide), nI_clamp (by omega), e34, e35, e36]
      by_cases c2 : gk j < nk
      · rw [if_neg (fun z => by have := (nI_leI (by omega) (by omega)).mp z; omega), ck_N (by omega) (by decide), ck_N (by omega) (by decide), placeOf_eq hV l1 c2, bp_some, ck_N (by omega) (by decide)]
        have h9 := sim_le9 (lf := lf) (nk := nk) (st := st) (t := gt j + 1) (k := gk j) p8
        by_cases c3 : sim lf nk P st (gt j + 1) (gk j) = gb j + 1
        · rw [if_pos ((nI_m1_eq (by omega) (by omega)).mpr c3), nI_1]
          refine ih (j + 1) (by omega) (by omega) ?_
          rw [allb, ha, okS, decide_eq_true c2, decide_eq_true c3]
          rfl
        · rw [if_neg (fun z => c3 ((nI_m1_eq (by omega) (by omega)).mp z)), seesB, allb_no (i := j) (by rw [okS, decide_eq_false c3, Bool.and_false]) ng hj]
          rfl
      · rw [if_pos ((nI_leI (by omega) (by omega)).mpr (by omega)), seesB, allb_no (i := j) (by rw [okS, decide_eq_false c2, Bool.false_and]) ng hj]
        rfl
theorem hold_eq (hV : Vok σ r lf nk P st) (hG : Cg σ ng gt gk gb) : f_X6_allHold σ r = some (if seesB lf nk P st ng gt gk gb = true then 1 else 0) := by
  have g8 := hG.1
  exact hold_loop hV hG 300 0 (by omega) (by omega) rfl
theorem seen_loop (hg : Gok ng gt gk gb) : ∀ (q j : Nat) (τ : Mem), j ≤ ng → ng < j + q → MS τ lf nk P st → Mg τ ng gt gk gb → MF σ τ → wp (f_X10_isSeen_b4 q τ (if allb (okS lf nk P st gt gk gb) j = true then 1 else 0) (nI j)) (fun o => o.1 = (if seesB lf nk P st ng gt gk gb = true then 1 else 0) ∧ MF σ o.2) := by
  obtain ⟨g8, hg⟩ := hg
  intro q
  induction q with
  | zero => intro j τ h1 h2; omega
  | succ q ih =>
    intro j τ h1 h2 hS hG hF
    obtain ⟨p8, k8, e9, -, -, -⟩ := hS.at
    rw [f_X10_isSeen_b4, hG.1]
    refine wp_ite (fun c => ?_) (fun c => ?_)
    · have c' := (nI_leI (by omega) (by omega)).mp c
      have e : j = ng := by omega
      subst e
      exact wp_cb (by split <;> simp) (wp_some.mpr ⟨rfl, hF⟩)
    · have hj := nI_not_le c (by omega) (by omega)
      cases ha : allb (okS lf nk P st gt gk gb) j with
      | false =>
        have : seesB lf nk P st ng gt gk gb = false := by
          have mono : ∀ n, j ≤ n → allb (okS lf nk P st gt gk gb) n = false := by
            intro n
            induction n with
            | zero => intro h; have : j = 0 := by omega
                      rw [this] at ha; exact ha
            | succ n ih2 =>
              intro h
              by_cases z : j = n + 1
              · rw [← z]; exact ha
              · rw [allb, ih2 (by omega), Bool.false_and]
          exact mono ng (by omega)
        rw [this]
        exact wp_it rfl (wp_cb (Or.inl rfl) (wp_some.mpr ⟨rfl, hF⟩))
      | true =>
        obtain ⟨e0, e1, e2⟩ := hG.2 j hj
        obtain ⟨l1, l2, l3⟩ := hg j hj
        have x0 : (3 : Int32) * nI j = nI (3 * j) := by rw [nI_lit 3, pk_mul]
        have x1 : (3 : Int32) * nI j + 1 = nI (3 * j + 1) := by rw [x0, nI_1]
        have x2 : (3 : Int32) * nI j + 2 = nI (3 * j + 2) := by rw [x0, nI_lit 2, nI_add]
        rw [x1, x2, x0, nI_clamp (show 3 * j < 2 ^ 31 by omega), nI_clamp (show 3 * j + 1 < 2 ^ 31 by omega), nI_clamp (show 3 * j + 2 < 2 ^ 31 by omega), e0, e1]
        refine wp_ie (by decide) (wp_ckN (by omega) (by decide) (wp_bpE (isBoatM_eq e9 (by omega)) ?_))
        unfold f_X10_isSeen_b72 f_X10_isSeen_b73
        rw [nI_1, nI_toInt (show gk j < 2 ^ 31 by omega)]
        by_cases c2 : gk j < nk
        · rw [if_pos (show (0 : Int) ≤ (gk j : Int) ∧ (gk j : Int) < (nk : Int) by omega)]
          refine wp_ie (by decide) (wp_ckN (by omega) (by decide) (wp_ckN (by omega) (by decide) (wp_bi ?_)))
          unfold f_X10_atOf
          refine wp_bv (wp_mono (lives_wp l1 hS) (fun υ g => wp_ckN (by omega) (by decide) (wp_some.mpr (wp_ckN (by omega) (by decide) ?_))))
          rw [nI_clamp (show gk j < 2 ^ 31 by omega), g.2.1 _ c2, g.1.1 78 (by decide), e2]
          have h9 := sim_le9 (lf := lf) (nk := nk) (st := st) (t := gt j + 1) (k := gk j) p8
          have hS2 := hS.fr g.1
          have hG2 : Mg υ ng gt gk gb := hG.fx g.1.toX (by decide) (by decide)
          have hF2 := hF.tr g.1
          by_cases c3 : sim lf nk P st (gt j + 1) (gk j) = gb j + 1
          · refine wp_it ((nI_m1_eq (by omega) (by omega)).mpr c3) ?_
            have := ih (j + 1) υ (by omega) (by omega) hS2 hG2 hF2
            rw [allb, ha, okS, decide_eq_true c2, decide_eq_true c3] at this
            exact this
          · refine wp_ie (fun z => c3 ((nI_m1_eq (by omega) (by omega)).mp z)) ?_
            have := ih (j + 1) υ (by omega) (by omega) hS2 hG2 hF2
            rw [allb, ha, okS, decide_eq_true c2, decide_eq_false c3] at this
            exact this
        · rw [if_neg (show ¬ ((0 : Int) ≤ (gk j : Int) ∧ (gk j : Int) < (nk : Int)) by omega)]
          refine wp_it rfl ?_
          have := ih (j + 1) τ (by omega) (by omega) hS hG hF
          rw [allb, ha, okS, decide_eq_false c2] at this
          exact this
theorem seen_wp (hS : MS σ lf nk P st) (hG : Mg σ ng gt gk gb) (hg : Gok ng gt gk gb) : wp (f_X10_isSeen σ) (fun o => o.1 = (if seesB lf nk P st ng gt gk gb = true then 1 else 0) ∧ MF σ o.2) := by
  have g8 := hg.1
  exact seen_loop hg 300 0 σ (by omega) (by omega) hS hG MF.rf
theorem CW.fr {rs : List Nat} (h : CW σ nb kd mk mn nk ma bs ns sb sm ng gt gk gb) (f : Fr rs σ τ) (h0 : ∀ r, r ∈ rs → r ∈ [49, 52, 53, 54, 55, 56, 57, 60, 61, 62, 63]) : CW τ nb kd mk mn nk ma bs ns sb sm ng gt gk gb := by
  have f := f.wide h0
  obtain ⟨a1, a2, a3, a4, a5, a6⟩ := h
  refine ⟨a1.fr f (by decide) (by decide) (by decide) (by decide), a2.fr f (by decide) (by decide) (fun k hk => ?_), a3.fr f (by decide) (by decide) (by decide), a4.fr f (fun k hk => ?_), a5.fr f (by decide) (by decide) (by decide) (by decide), a6.fr f (by decide) (by decide) (by decide) (by decide) (by decide)⟩
  · simp only [List.mem_cons, List.not_mem_nil, or_false]; omega
  · simp only [List.mem_cons, List.not_mem_nil, or_false]; omega
theorem CW.V (h : CW σ nb kd mk mn nk ma bs ns sb sm ng gt gk gb) : Vok σ 46 (lfc kd mk mn ma (shc sb sm 255 ns)) nk nb bs := h.2.2.2.2.2
theorem could_wp {b m n : Nat} (C : CW σ nb kd mk mn nk ma bs ns sb sm ng gt gk gb) (hb : b < nb) (hm : m < 6) (hn : n < 10) : wp (f_X9_couldHaveBeen σ (nI b) (nI m) (nI n)) (fun o => o.1 = (if seesB (lfc kd (un mk b m) (un mn b n) ma (shc sb sm 255 ns)) nk nb bs ng gt gk gb = true then 1 else 0) ∧ Fr [52, 53, 54, 55, 56, 57] σ o.2 ∧ Vok o.2 52 (lfc kd (un mk b m) (un mn b n) ma (shc sb sm 255 ns)) nk nb bs) := by
  have b8 := C.1.1
  unfold f_X9_couldHaveBeen
  refine wp_bv (wp_mono (takeOver_wp C.V.1) (fun τ h => ?_))
  obtain ⟨f, hV⟩ := h
  have C2 := C.fr f (by decide)
  refine wp_bp (wp_mono (liftBits_wp C2.1 C2.2.1 C2.2.2.2.1 hb hm hn) (fun v hv => wp_ckN (by omega) (by decide) (wp_lt (wp_bv (Vin_run (lf := lfc kd (un mk b m) (un mn b n) ma (shc sb sm 255 ns)) (nk := nk) (P := nb) (st := bs) ?_ (fun υ g hV3 => ?_))))))
  · rw [nI_clamp (by omega)]
    obtain ⟨p8, k8, e5, e6, hst, hl⟩ := hV
    refine ⟨p8, k8, by rw [ms_ne (by decide)]; exact e5, by rw [ms_ne (by decide)]; exact e6, fun k hk => by rw [ms_ne (by decide)]; exact hst k hk, fun p hp => ?_⟩
    show bt ((ms τ 53 b v).1 53 p) _
    rw [ms_same]
    by_cases c : p = b
    · subst c
      rw [upd_s]
      refine bt_congr hv (fun k _ => ?_)
      rw [lfc, un_s, un_s]
    · rw [upd_n c]
      refine bt_congr (hl p hp) (fun k _ => ?_)
      rw [lfc, lfc, un_n c, un_n c]
  · have F : Fr [52, 53, 54, 55, 56, 57] σ υ := ((f.wide (by decide)).ms (by decide)).tr (g.wide (by decide))
    refine wp_bpE (hold_eq hV3 (C.fr F (by decide)).2.2.2.2.1) (wp_cb (by split <;> simp) (wp_some.mpr ⟨rfl, F, hV3⟩))
def lkM (kd mk mn : Nat → Nat) (nk : Nat) (ma : Nat → Nat → Nat) (bs : Nat → Nat) (nb ns : Nat) (sb sm : Nat → Nat) (ng : Nat) (gt gk gb : Nat → Nat) (b v : Nat) : Bool := seesB (lfc kd (un mk b v) mn ma (shc sb sm 255 ns)) nk nb bs ng gt gk gb
def lkN (kd mk mn : Nat → Nat) (nk : Nat) (ma : Nat → Nat → Nat) (bs : Nat → Nat) (nb ns : Nat) (sb sm : Nat → Nat) (ng : Nat) (gt gk gb : Nat → Nat) (b v : Nat) : Bool := decide (1 ≤ v) && seesB (lfc kd mk (un mn b v) ma (shc sb sm 255 ns)) nk nb bs ng gt gk gb
theorem likedMarks_loop {b : Nat} (hb : b < nb) : ∀ (q j : Nat) (σ : Mem), CW σ nb kd mk mn nk ma bs ns sb sm ng gt gk gb → j ≤ 6 → 6 < j + q → wp (f_X9_likedMarks_b4 q σ (nI b) (orb 0 (lkM kd mk mn nk ma bs nb ns sb sm ng gt gk gb b) j) (nI j)) (fun o => o.1 = orb 0 (lkM kd mk mn nk ma bs nb ns sb sm ng gt gk gb b) 6 ∧ Fr [52, 53, 54, 55, 56, 57] σ o.2) := by
  intro q
  induction q with
  | zero => intro j σ C h1 h2; omega
  | succ q ih =>
    intro j σ C h1 h2
    have b8 := C.1.1
    rw [f_X9_likedMarks_b4, show (6 : Int32) = nI 6 from rfl]
    refine wp_ite (fun c => ?_) (fun c => ?_)
    · have c' := (nI_leI (by omega) (by omega)).mp c
      have e : j = 6 := by omega
      subst e
      exact wp_some.mpr ⟨rfl, Fr.rf⟩
    · have hj := nI_not_le c (by omega) (by omega)
      obtain ⟨-, -, e9, -, -, l9⟩ := C.1.2.2 b hb
      rw [nI_clamp (by omega), e9]
      refine wp_ckN (by omega) (by decide) (wp_bi (wp_mono (could_wp C hb hj l9) (fun o h => ?_)))
      obtain ⟨h1, h2, -⟩ := h
      rw [un_self] at h1
      unfold f_X9_likedMarks_b34
      rw [h1, nI_1]
      have I := ih (j + 1) o.2 (C.fr h2 (by decide)) (by omega) (by omega)
      rw [orb] at I
      have eK : lkM kd mk mn nk ma bs nb ns sb sm ng gt gk gb b j = seesB (lfc kd (un mk b j) mn ma (shc sb sm 255 ns)) nk nb bs ng gt gk gb := rfl
      rw [eK] at I
      cases hv : seesB (lfc kd (un mk b j) mn ma (shc sb sm 255 ns)) nk nb bs ng gt gk gb with
      | true =>
        rw [hv, if_pos rfl] at I
        exact wp_ie (by decide) (wp_mono I (fun o q => ⟨q.1, h2.tr q.2⟩))
      | false =>
        rw [hv, if_neg (by decide)] at I
        exact wp_it (by decide) (wp_mono I (fun o q => ⟨q.1, h2.tr q.2⟩))
theorem likedMarks_wp {b : Nat} (C : CW σ nb kd mk mn nk ma bs ns sb sm ng gt gk gb) (hb : b < nb) : wp (f_X9_likedMarks σ (nI b)) (fun o => o.1 = orb 0 (lkM kd mk mn nk ma bs nb ns sb sm ng gt gk gb b) 6 ∧ Fr [52, 53, 54, 55, 56, 57] σ o.2) := likedMarks_loop hb 300 0 σ C (by omega) (by omega)
theorem likedManies_loop {b : Nat} (hb : b < nb) : ∀ (q j : Nat) (σ : Mem), CW σ nb kd mk mn nk ma bs ns sb sm ng gt gk gb → 1 ≤ j → j ≤ 10 → 10 < j + q → wp (f_X9_likedManies_b4 q σ (nI b) (orb 0 (lkN kd mk mn nk ma bs nb ns sb sm ng gt gk gb b) j) (nI j)) (fun o => o.1 = orb 0 (lkN kd mk mn nk ma bs nb ns sb sm ng gt gk gb b) 10 ∧ Fr [52, 53, 54, 55, 56, 57] σ o.2) := by
  intro q
  induction q with
  | zero => intro j σ C h0 h1 h2; omega
  | succ q ih =>
    intro j σ C h0 h1 h2
    have b8 := C.1.1
    rw [f_X9_likedManies_b4, show (9 : Int32) = nI 9 from rfl]
    refine wp_ite (fun c => ?_) (fun c => ?_)
    · have c' := (nI_ltI (by omega) (by omega)).mp c
      have e : j = 10 := by omega
      subst e
      exact wp_some.mpr ⟨rfl, Fr.rf⟩
    · have hj : j < 10 := by
        rcases Nat.lt_or_ge j 10 with z | z
        · exact z
        · exact absurd ((nI_ltI (by omega) (by omega)).mpr (by omega)) c
      obtain ⟨-, e8, -, -, l8, -⟩ := C.1.2.2 b hb
      rw [nI_clamp (by omega), e8]
      refine wp_ckN (by omega) (by decide) (wp_bi (wp_mono (could_wp C hb l8 hj) (fun o h => ?_)))
      obtain ⟨h3, h4, -⟩ := h
      rw [un_self] at h3
      unfold f_X9_likedManies_b34
      rw [h3, nI_1]
      have I := ih (j + 1) o.2 (C.fr h4 (by decide)) (by omega) (by omega) (by omega)
      rw [orb] at I
      have eK : lkN kd mk mn nk ma bs nb ns sb sm ng gt gk gb b j = seesB (lfc kd mk (un mn b j) ma (shc sb sm 255 ns)) nk nb bs ng gt gk gb := by
        rw [lkN, decide_eq_true h0, Bool.true_and]
      rw [eK] at I
      cases hv : seesB (lfc kd mk (un mn b j) ma (shc sb sm 255 ns)) nk nb bs ng gt gk gb with
      | true =>
        rw [hv, if_pos rfl] at I
        exact wp_ie (by decide) (wp_mono I (fun o q => ⟨q.1, h4.tr q.2⟩))
      | false =>
        rw [hv, if_neg (by decide)] at I
        exact wp_it (by decide) (wp_mono I (fun o q => ⟨q.1, h4.tr q.2⟩))
theorem orb_lkN1 {b : Nat} : orb 0 (lkN kd mk mn nk ma bs nb ns sb sm ng gt gk gb b) 1 = 0 := by
  rw [orb, lkN]
  rfl
theorem likedManies_wp {b : Nat} (C : CW σ nb kd mk mn nk ma bs ns sb sm ng gt gk gb) (hb : b < nb) : wp (f_X9_likedManies σ (nI b)) (fun o => o.1 = orb 0 (lkN kd mk mn nk ma bs nb ns sb sm ng gt gk gb b) 10 ∧ Fr [52, 53, 54, 55, 56, 57] σ o.2) := by
  have := likedManies_loop hb 300 1 σ C (by omega) (by omega) (by omega)
  rw [orb_lkN1] at this
  exact this
end SEEN
