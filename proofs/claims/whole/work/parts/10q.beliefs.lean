/-! 10q: the class's beliefs -/
abbrev CR : List Nat := [25, 26, 27, 28, 29, 30, 31, 32]
abbrev FB : List Nat := [25, 26, 27, 28, 29, 30, 31, 32, 52, 53, 54, 55, 56, 57, 58, 60]
theorem CR_mem {k : Nat} (h : k < 8) : 25 + k ∈ CR := by simp only [List.mem_cons, List.not_mem_nil, or_false]; omega
def Gr (rs : List Nat) (σ τ : Mem) : Prop := ∀ r, r ∉ rs → τ.1 r = σ.1 r
section BELI
variable {σ τ υ : Mem} {lf : Nat → Nat → Bool} {nb nk ns ng P bl k s c n0 n1 : Nat} {st t0 t1 kd mk mn bs sb sm gt gk gb : Nat → Nat} {ma sh : Nat → Nat → Nat}
theorem Fr.g {rs : List Nat} (h : Fr rs σ τ) : Gr rs σ τ := h.1
theorem Gr.tr {rs : List Nat} (h : Gr rs σ τ) (g : Gr rs τ υ) : Gr rs σ υ := fun r hr => (g r hr).trans (h r hr)
theorem Gr.wide {rs qs : List Nat} (h : Gr rs σ τ) (hq : ∀ r, r ∈ rs → r ∈ qs) : Gr qs σ τ := fun r hr => h r (fun z => hr (hq r z))
theorem Gr.fr {rs : List Nat} (h : Gr rs σ τ) : Fr rs σ (τ.1, σ.2) := ⟨h, rfl⟩
theorem carry_add (hS : Cs σ ns sb sm) (hbl : bl < 256) : ∀ (q i : Nat) (τ : Mem), i ≤ ns → ns < i + q → Fr CR σ τ → (∀ k, k < 8 → ∀ m, m < 6 → τ.1 (25 + k) m = nI (shc sb sm bl i k m)) → wp (f_X4_carryOnly_b26 q τ (nI bl) (nI i)) (fun υ => Fr CR σ υ ∧ Cc υ (shc sb sm bl ns)) := by
  obtain ⟨s8, e21, hs⟩ := hS
  intro q
  induction q with
  | zero => intro i τ h1 h2; omega
  | succ q ih =>
    intro i τ h1 h2 F hc
    rw [f_X4_carryOnly_b26, F.1 21 (by decide), e21]
    refine wp_ite (fun c => ?_) (fun c => ?_)
    · have c' := (nI_leI (by omega) (by omega)).mp c
      have e : i = ns := by omega
      subst e
      refine wp_some.mpr ⟨F, fun k hk m hm => ⟨hc k hk m hm, ?_⟩⟩
      have := shc_le (sb := sb) (sm := sm) (bl := bl) (ns := i) (k := k) (m := m)
      omega
    · have hi := nI_not_le c (by omega) (by omega)
      obtain ⟨e22, e23, l1, l2⟩ := hs i hi
      rw [nI_clamp (show i < 2 ^ 31 by omega), F.1 22 (by decide), F.1 23 (by decide), e22, e23, nI_clamp (show sb i < 2 ^ 31 by omega), nI_clamp (show sm i < 2 ^ 31 by omega), hc _ l1 _ l2, bts_tst bl hbl i (by omega), nI_1]
      refine wp_ckN (by omega) (by decide) (wp_ckN l1 (by decide) (wp_ckN (by omega) (by decide) (wp_ckN l2 (by decide) (wp_ckN l2 (by decide) (wp_lt (ih (i + 1) _ (by omega) (by omega) (F.ms (CR_mem l1)) (fun k hk m hm => ?_)))))))
      have es : shc sb sm bl (i + 1) k m = shc sb sm bl i k m + if bl.testBit i = true ∧ sb i = k ∧ sm i = m then 1 else 0 := rfl
      rw [es]
      by_cases ck : k = sb i
      · subst ck
        rw [ms_same]
        by_cases cm : m = sm i
        · subst cm
          rw [upd_s]
          by_cases cb : bl.testBit i = true
          · rw [if_pos cb, if_pos ⟨cb, rfl, rfl⟩, nI_1]
          · rw [if_neg cb, if_neg (fun z => cb z.1), Int32.add_zero]
            rfl
        · rw [upd_n cm, if_neg (fun z => cm z.2.2.symm)]
          exact hc _ hk m hm
      · rw [ms_ne (by omega), if_neg (fun z => ck z.2.1.symm)]
        exact hc k hk m hm
theorem carry_zero {Q : Mem → Prop} (hk : ∀ τ, Fr CR σ τ → (∀ k, k < 8 → ∀ m, m < 6 → τ.1 (25 + k) m = 0) → wp (f_X4_carryOnly_b26 300 τ (nI bl) (0 : Int32)) Q) : ∀ (q j : Nat) (τ : Mem), j ≤ 8 → 8 < j + q → Fr CR σ τ → (∀ k, k < j → ∀ m, m < 6 → τ.1 (25 + k) m = 0) → wp (f_X4_carryOnly_b2 q τ (nI bl) (nI j)) Q := by
  intro q
  induction q with
  | zero => intro j τ h1 h2; omega
  | succ q ih =>
    intro j τ h1 h2 F hz
    rw [f_X4_carryOnly_b2, show (8 : Int32) = nI 8 from rfl]
    refine wp_ite (fun c => ?_) (fun c => ?_)
    · have c' := (nI_leI (by omega) (by omega)).mp c
      exact hk τ F (fun k hk => hz k (by omega))
    · have hj := nI_not_le c (by omega) (by omega)
      rw [nI_clamp (by omega), nI_1]
      refine wp_ckN hj (by decide) (wp_bv (wp_mono (fill_wp (by decide)) (fun υ g => ih (j + 1) υ (by omega) (by omega) (F.tr (g.1.wide (fun r hr => by rw [List.mem_singleton.mp hr]; exact CR_mem hj))) (fun k hk m hm => ?_))))
      by_cases z : k = j
      · rw [z]; exact g.2 m hm
      · rw [g.1.1 _ (by simp only [List.mem_singleton]; omega)]
        exact hz k (by omega) m hm
theorem carry_wp (hS : Cs σ ns sb sm) (hbl : bl < 256) : wp (f_X4_carryOnly σ (nI bl)) (fun υ => Fr CR σ υ ∧ Cc υ (shc sb sm bl ns)) := by
  unfold f_X4_carryOnly
  have s8 := hS.1
  exact carry_zero (fun τ F hz => carry_add hS hbl 300 0 τ (by omega) (by omega) F (fun k hk m hm => hz k hk m hm)) 300 0 σ (by omega) (by omega) Fr.rf (fun k hk => by omega)
theorem lfc_odd {p k : Nat} {sh sh2 : Nat → Nat → Nat} (h : ¬ p % 2 = 0) : lfc kd mk mn ma sh p k = lfc kd mk mn ma sh2 p k := by
  unfold lfc lrl
  rw [decide_eq_false h]
  rfl
theorem lift_loop {x1 : Int32} {K : Mem → Int32 → Option Mem} (hC : Cb σ nb kd mk mn) (hK : Ck σ nk ma bs) (hc : Cc σ (shc sb sm bl ns)) {Q : Mem → Prop} (hk : ∀ υ, Fr [53] σ υ → Vin υ 52 (lfc kd mk mn ma (shc sb sm bl ns)) nk nb bs → wp (bv (f_X8_run υ 52) (fun σ15 => bv (f_X0_keep σ15 x1 52) (fun σ17 => K σ17 (x1 + (1 : Int32))))) Q) : ∀ (q j : Nat) (τ : Mem), j % 2 = 0 → j ≤ nb + 1 → nb + 1 < j + q → Fr [53] σ τ → Vin τ 52 (fun p k => if p < j ∧ p % 2 = 0 then lfc kd mk mn ma (shc sb sm bl ns) p k else lfc kd mk mn ma (shc sb sm 255 ns) p k) nk nb bs → wp (f_X9_fillBeliefs_b61 K q τ x1 (nI j)) Q := by
  intro q
  induction q with
  | zero => intro j τ h0 h1 h2; omega
  | succ q ih =>
    intro j τ h0 h1 h2 F V
    have b8 := hC.1
    rw [f_X9_fillBeliefs_b61, F.1 6 (by decide), hC.2.1]
    refine wp_ite (fun c => ?_) (fun c => ?_)
    · have c' := (nI_leI (by omega) (by omega)).mp c
      refine hk τ F ?_
      obtain ⟨p8, k8, e5, e6, hst, hl⟩ := V
      refine ⟨p8, k8, e5, e6, hst, fun p hp => bt_congr (hl p hp) (fun k _ => ?_)⟩
      dsimp only
      by_cases z : p % 2 = 0
      · rw [if_pos (show p < j ∧ p % 2 = 0 from ⟨by omega, z⟩)]
      · rw [if_neg (show ¬ (p < j ∧ p % 2 = 0) from fun q => z q.2), lfc_odd z]
    · have hj := nI_not_le c (by omega) (by omega)
      obtain ⟨-, e8, e9, -, l8, l9⟩ := hC.2.2 j hj
      rw [nI_clamp (by omega), F.1 8 (by decide), F.1 9 (by decide), e8, e9]
      have hC2 := hC.fr F (by decide) (by decide) (by decide) (by decide)
      have hK2 := hK.fr F (by decide) (by decide) (fun k hk => by simp only [List.mem_singleton]; omega)
      have hc2 := hc.fr F (fun k hk => by simp only [List.mem_singleton]; omega)
      refine wp_ckN (by omega) (by decide) (wp_ckN (by omega) (by decide) (wp_bp (wp_mono (liftBits_wp hC2 hK2 hc2 hj l8 l9) (fun v hv => wp_ckN (by omega) (by decide) (wp_lt ?_)))))
      rw [show nI j + (2 : Int32) = nI (j + 2) by rw [nI_lit 2, nI_add]]
      refine ih (j + 2) _ (by omega) (by omega) (by omega) (F.ms (by simp)) ?_
      obtain ⟨p8, k8, e5, e6, hst, hl⟩ := V
      refine ⟨p8, k8, by rw [ms_ne (by decide)]; exact e5, by rw [ms_ne (by decide)]; exact e6, fun k hk => by rw [ms_ne (by decide)]; exact hst k hk, fun p hp => ?_⟩
      show bt ((ms τ 53 j v).1 53 p) _
      rw [ms_same]
      by_cases z : p = j
      · subst z
        rw [upd_s]
        refine bt_congr hv (fun k _ => ?_)
        dsimp only
        rw [if_pos (show p < p + 2 ∧ p % 2 = 0 from ⟨by omega, h0⟩)]
        rfl
      · rw [upd_n z]
        refine bt_congr (hl p hp) (fun k _ => ?_)
        dsimp only
        by_cases z2 : p < j ∧ p % 2 = 0
        · rw [if_pos z2, if_pos (show p < j + 2 ∧ p % 2 = 0 from ⟨by omega, z2.2⟩)]
        · rw [if_neg z2, if_neg (show ¬ (p < j + 2 ∧ p % 2 = 0) from fun q => z2 ⟨by omega, q.2⟩)]
def thv (lf : Nat → Nat → Bool) (nk P : Nat) (st : Nat → Nat) (k : Nat) : Nat := if k < nk then ths lf nk P st k else 0
theorem ths_le {k : Nat} (hs : st k < 10) : ths lf nk P st k ≤ 100 := by
  unfold ths
  split
  · omega
  · exact pas_100
theorem thv_lt (hs : ∀ k, k < nk → st k < 10) : ∀ k, thv lf nk P st k < 128 := fun k => by
  unfold thv
  by_cases c : k < nk
  · rw [if_pos c]
    have := ths_le (lf := lf) (nk := nk) (P := P) (hs k c)
    omega
  · rw [if_neg c]; decide
theorem keep_loop {w : Nat} (V : Vok σ 52 lf nk P st) (hw : w < 256) : ∀ (q j : Nat), j ≤ nk → nk < j + q → f_X0_keep_b5 q σ (nI w) 52 (lN (pkn (thv lf nk P st) j)) (nI j) = some (mj σ w (lN (pkn (thv lf nk P st) nk))) := by
  obtain ⟨p8, k8, e5, e6, hst, hl⟩ := V.1
  intro q
  induction q with
  | zero => intro j h1 h2; omega
  | succ q ih =>
    intro j h1 h2
    rw [f_X0_keep_b5, e6]
    by_cases c : nk ≤ j
    · have e : j = nk := by omega
      subst e
      rw [if_pos ((nI_leI (by omega) (by omega)).mpr (Nat.le_refl _)), ck_N hw (by decide), nI_clamp (by omega)]
      rfl
    · have hj : j < nk := by omega
      have hle := ths_le (lf := lf) (nk := nk) (P := P) (hst j hj).2
      have ev : (nI (if P = 0 then st j else pas lf nk P st 100 (P - 1) j)).toInt64 = lN (thv lf nk P st j) := by
        rw [show (if P = 0 then st j else pas lf nk P st 100 (P - 1) j) = ths lf nk P st j from rfl, nI_l (by omega), thv, if_pos hj]
      rw [if_neg (fun z => c ((nI_leI (by omega) (by omega)).mp z)), throughStep_eq V hj, bp_some, ev, (sh8 j (by omega)).1, lN_shl (by omega), lN_or, pkn_or (thv_lt (fun k hk => (hst k hk).2)), nI_1]
      exact ih (j + 1) (by omega) (by omega)
theorem keep_eq {w : Nat} (V : Vok σ 52 lf nk P st) (hw : w < 256) : f_X0_keep σ (nI w) 52 = some (mj σ w (lN (pkn (thv lf nk P st) nk))) := by
  have k8 := V.1.2.1
  exact keep_loop V hw 300 0 (by omega) (by omega)
/-- what is kept of the beliefs -/
def Blv (σ : Mem) (kd mk mn : Nat → Nat) (nk : Nat) (ma : Nat → Nat → Nat) (bs : Nat → Nat) (nb ns : Nat) (sb sm : Nat → Nat) (W : Nat) : Prop := ∀ w, w < W → ∀ k, k < nk → (σ.2 w >>> ((nI (8 * k)).toInt64 &&& 63)) &&& 255 = lN (ths (lfc kd mk mn ma (shc sb sm w ns)) nk nb bs k)
theorem fill_loop2 (C : CW σ nb kd mk mn nk ma bs ns sb sm ng gt gk gb) : ∀ (q w : Nat) (τ : Mem), w ≤ 2 ^ ns → 2 ^ ns < w + q → Gr FB σ τ → τ.1 58 2 = nI ns → Blv τ kd mk mn nk ma bs nb ns sb sm w → wp (f_X9_fillBeliefs_b27 q τ (nI w)) (fun υ => Gr FB σ υ ∧ Cc υ (shc sb sm 255 ns) ∧ υ.1 58 2 = nI ns ∧ υ.1 58 3 = 1 ∧ Blv υ kd mk mn nk ma bs nb ns sb sm (2 ^ ns)) := by
  have s8 := C.2.2.1.1
  have hp : 2 ^ ns ≤ 2 ^ 8 := Nat.pow_le_pow_right (by decide) s8
  have b8 := C.1.1
  have k8 := C.2.1.1
  intro q
  induction q with
  | zero => intro w τ h1 h2; omega
  | succ q ih =>
    intro w τ h1 h2 G e58 B
    have Cs2 : Cs τ ns sb sm := C.2.2.1.fr (τ := (τ.1, σ.2)) G.fr (by decide) (by decide) (by decide)
    rw [f_X9_fillBeliefs_b27, Cs2.2.1, two_pow32 ns s8]
    refine wp_ite (fun c => ?_) (fun c => ?_)
    · have c' := (nI_leI (by omega) (by omega)).mp c
      have e : w = 2 ^ ns := by omega
      subst e
      unfold f_X4_carryAll
      rw [show (255 : Int32) = nI 255 from rfl]
      refine wp_bv (wp_bv (wp_mono (carry_wp Cs2 (by decide)) (fun υ h => wp_some.mpr (wp_lt (wp_some.mpr ⟨G.tr ((h.1.g.wide (by decide)).tr (fun r hr => ms_ne (fun e => hr (by rw [e]; decide)))), ?_, ?_, ?_, ?_⟩)))))
      · exact h.2.fr (Fr.rf.ms (r := 58) (rs := [58]) (by simp)) (fun k hk => by simp only [List.mem_singleton]; omega)
      · rw [ms_same, upd_n (by decide), h.1.1 58 (by decide)]; exact e58
      · rw [ms_same, upd_s]
      · intro u hu k hk
        rw [ms_2, h.1.2]
        exact B u hu k hk
    · have hw := nI_not_le c (by omega) (by omega)
      refine wp_bv (wp_mono (carry_wp Cs2 (show w < 256 by omega)) (fun υ h => ?_))
      have G2 : Gr FB σ υ := G.tr (h.1.g.wide (by decide))
      have V46 : Vin υ 46 (lfc kd mk mn ma (shc sb sm 255 ns)) nk nb bs := C.V.1.fr (τ := (υ.1, σ.2)) G2.fr (by decide) (by decide) (by decide)
      refine wp_bv (wp_mono (takeOver_wp V46) (fun υ2 h2 => ?_))
      have G3 : Gr FB σ υ2 := G2.tr (h2.1.g.wide (by decide))
      have Cb3 : Cb υ2 nb kd mk mn := C.1.fr (τ := (υ2.1, σ.2)) G3.fr (by decide) (by decide) (by decide) (by decide)
      have Ck3 : Ck υ2 nk ma bs := C.2.1.fr (τ := (υ2.1, σ.2)) G3.fr (by decide) (by decide) (fun k hk => by simp only [List.mem_cons, List.not_mem_nil, or_false]; omega)
      have Cc3 : Cc υ2 (shc sb sm w ns) := h.2.fr h2.1 (fun k hk => by simp only [List.mem_cons, List.not_mem_nil, or_false]; omega)
      refine lift_loop Cb3 Ck3 Cc3 (fun υ3 F3 V3 => ?_) 300 0 υ2 (by omega) (by omega) (by omega) Fr.rf ?_
      · refine wp_bv (Vin_run V3 (fun υ4 g4 V4 => ?_))
        rw [keep_eq V4 (show w < 256 by omega), bv_some, nI_1]
        have e2 : υ4.2 = τ.2 := by rw [g4.2, F3.2, h2.1.2, h.1.2]
        refine ih (w + 1) _ (by omega) (by omega) (fun r hr => ?_) ?_ (fun u hu k hk => ?_)
        · rw [mj_1]
          exact (G3.tr ((F3.g.wide (by decide)).tr (g4.g.wide (by decide)))) r hr
        · rw [mj_1, g4.1 58 (by decide), F3.1 58 (by decide), h2.1.1 58 (by decide), h.1.1 58 (by decide)]
          exact e58
        · rw [mj_2]
          by_cases z : u = w
          · subst z
            rw [pk_uLs, (sh8 k (by omega)).2, lN_shr (pkn_lt63 (thv_lt (fun k hk => (V4.1.2.2.2.2.1 k hk).2)) nk k8) (by omega), show (255 : Int64) = lN 255 from rfl, lN_and, pkn_get (thv_lt (fun k hk => (V4.1.2.2.2.2.1 k hk).2)) nk k hk, thv, if_pos hk]
          · rw [pk_uLn z, e2]
            exact B u (by omega) k hk
      · obtain ⟨p8, k8', e5, e6, hst, hl⟩ := h2.2
        refine ⟨p8, k8', e5, e6, hst, fun p hp => bt_congr (hl p hp) (fun k _ => ?_)⟩
        dsimp only
        rw [if_neg (show ¬ (p < 0 ∧ p % 2 = 0) from fun q => by omega)]
theorem fill_wp2 (C : CW σ nb kd mk mn nk ma bs ns sb sm ng gt gk gb) (hB : σ.1 58 3 = 0 ∨ (σ.1 58 3 = 1 ∧ σ.1 58 2 = nI ns ∧ Blv σ kd mk mn nk ma bs nb ns sb sm (2 ^ ns))) : wp (f_X9_fillBeliefs σ) (fun υ => Gr FB σ υ ∧ Cc υ (shc sb sm 255 ns) ∧ υ.1 58 2 = nI ns ∧ υ.1 58 3 = 1 ∧ Blv υ kd mk mn nk ma bs nb ns sb sm (2 ^ ns)) := by
  have s8 := C.2.2.1.1
  have hp : 2 ^ ns ≤ 2 ^ 8 := Nat.pow_le_pow_right (by decide) s8
  unfold f_X9_fillBeliefs
  rcases hB with e | ⟨e, e2, B⟩
  · have C2 : CW (ms σ 58 2 (nI ns)) nb kd mk mn nk ma bs ns sb sm ng gt gk gb := by
      obtain ⟨a1, a2, a3, a4, a5, a6⟩ := C
      have F : Fr [58] σ (ms σ 58 2 (nI ns)) := Fr.rf.ms (by simp)
      exact ⟨a1.fr F (by decide) (by decide) (by decide) (by decide), a2.fr F (by decide) (by decide) (fun k hk => by simp only [List.mem_singleton]; omega), a3.fr F (by decide) (by decide) (by decide), a4.fr F (fun k hk => by simp only [List.mem_singleton]; omega), a5.fr F (by decide) (by decide) (by decide) (by decide), a6.fr F (by decide) (by decide) (by decide) (by decide) (by decide)⟩
    rw [e, C.2.2.1.2.1]
    exact wp_it rfl (wp_lt (wp_mono (fill_loop2 C2 300 0 _ (Nat.zero_le _) (by omega) (fun r hr => rfl) (by rw [ms_same, upd_s]) (fun w hw => by omega)) (fun υ h => ⟨(show Gr FB σ (ms σ 58 2 (nI ns)) from fun r hr => ms_ne (fun e => hr (by rw [e]; decide))).tr h.1, h.2⟩)))
  · rw [e]
    exact wp_ie (by decide) (wp_some.mpr ⟨fun r hr => rfl, C.2.2.2.1, e2, e, B⟩)
end BELI
