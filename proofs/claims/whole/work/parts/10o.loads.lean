/-! 10o: loads -/
def ush (x : Int32) : Nat := x.toUInt32.toNat >>> 16
theorem ush_lt (x : Int32) : ush x < 2 ^ 31 := by
  unfold ush
  rw [Nat.shiftRight_eq_div_pow]
  have := x.toUInt32.toNat_lt
  omega
theorem ush_eq (x : Int32) : (x.toUInt32 >>> ((16 : Int32).toUInt32 &&& Int32.toUInt32 31)).toInt32 = nI (ush x) := by
  rw [show (16 : Int32).toUInt32 &&& Int32.toUInt32 31 = 16 from by decide]
  apply Int32.toBitVec_inj.mp
  show (x.toUInt32 >>> 16).toBitVec = BitVec.ofNat 32 (ush x)
  apply BitVec.eq_of_toNat_eq
  rw [BitVec.toNat_ofNat]
  show (x.toUInt32 >>> 16).toNat = _
  rw [UInt32.toNat_shiftRight]
  have := ush_lt x
  rw [Nat.mod_eq_of_lt (show ush x < 2 ^ 32 by omega)]
  rfl
def sq (x : Int32) : Nat → Int32
  | 0 => x
  | i + 1 => (1103515245 : Int32) * sq x i + 12345
def drw (x : Int32) : Nat → Nat → Nat
  | 0 => fun _ => 0
  | i + 1 => more (drw x i) (ush (sq x (i + 1)) % 6)
theorem drw_le (x : Int32) : ∀ i m, drw x i m ≤ i := by
  intro i
  induction i with
  | zero => intro m; exact Nat.le_refl _
  | succ i ih =>
    intro m
    rw [drw]
    exact more_le ih m
section LOA
variable {σ τ υ : Mem} {nb nk ns ng n0 n1 k n w : Nat} {t0 t1 kd mk mn bs sb sm gt gk gb : Nat → Nat} {ma : Nat → Nat → Nat} {x : Int32}
theorem rem6 (y : Int32) : (y.toUInt32 >>> ((16 : Int32).toUInt32 &&& Int32.toUInt32 31)).toInt32 - (y.toUInt32 >>> ((16 : Int32).toUInt32 &&& Int32.toUInt32 31)).toInt32 / (6 : Int32) * (6 : Int32) = nI (ush y % 6) := by
  rw [ush_eq, show (6 : Int32) = nI 6 from rfl, pk_rem (ush_lt y) (by decide) (by decide)]
theorem drawC_loop (hn : n ≤ 6) : ∀ (q i : Nat) (τ : Mem), i ≤ n → n < i + q → Fr [62] σ τ → rw6 τ 62 (drw x i) → wp (f_X9_drawLoad_b13 q τ (nI n) (sq x i) (nI i)) (fun υ => Fr [62] σ υ ∧ rw6 υ 62 (drw x n)) := by
  intro q
  induction q with
  | zero => intro i τ h1 h2; omega
  | succ q ih =>
    intro i τ h1 h2 F L
    rw [f_X9_drawLoad_b13]
    refine wp_ite (fun c => ?_) (fun c => ?_)
    · have c' := (nI_leI (by omega) (by omega)).mp c
      have e : i = n := by omega
      subst e
      exact wp_some.mpr ⟨F, L⟩
    · have hi := nI_not_le c (by omega) (by omega)
      have e1 : (1103515245 : Int32) * sq x i + 12345 = sq x (i + 1) := rfl
      have hm : ush (sq x (i + 1)) % 6 < 6 := Nat.mod_lt _ (by decide)
      rw [e1, rem6, nI_clamp (by omega), (L _ hm).1, nI_1, nI_1]
      refine wp_ckN hm (by decide) (wp_ckN hm (by decide) (wp_lt (ih (i + 1) _ (by omega) (by omega) (F.ms (by simp)) ?_)))
      exact L.mr (fun m => by have := drw_le x i m; omega)
theorem drawC_wp (hn : n ≤ 6) : wp (f_X9_drawLoad σ x (nI n)) (fun υ => Fr [62] σ υ ∧ rw6 υ 62 (drw x n)) := by
  unfold f_X9_drawLoad
  refine wp_bv (wp_mono (fill_wp (by decide)) (fun τ h => drawC_loop hn 300 0 τ (by omega) (by omega) h.1 (fun m hm => ⟨h.2 m hm, by show 0 < 110; decide⟩)))
def ldv (kd mk mn : Nat → Nat) (nk : Nat) (ma : Nat → Nat → Nat) (bs : Nat → Nat) (nb ns : Nat) (sb sm : Nat → Nat) (x : Int32) (n k w : Nat) : Int32 := if w = 0 then nI (sim (lfc kd mk mn (un ma k (drw x n)) (shc sb sm 255 ns)) nk nb bs 100 k) - 1 else nI (wts (lfc kd mk mn (un ma k (drw x n)) (shc sb sm 255 ns)) nk nb bs 100 k)
theorem loadsC_wp (C : CW σ nb kd mk mn nk ma bs ns sb sm ng gt gk gb) (hn : n ≤ 6) (hk : k < nk) (hw : w < 2) : wp (f_X9_loads σ x (nI n) (nI k) (nI w)) (fun o => o.1 = ldv kd mk mn nk ma bs nb ns sb sm x n k w ∧ Fr [52, 53, 54, 55, 56, 57, 62] σ o.2) := by
  have k8 := C.2.1.1
  unfold f_X9_loads ldv
  rw [show (7 : Int32) = nI 7 from rfl, show (2 : Int32) = nI 2 from rfl, show (99 : Int32) = nI 99 from rfl]
  refine wp_bpE (within_eq (by decide)) ?_
  rw [if_pos (nI_rng (show n < 7 by omega) (by decide))]
  refine wp_ie (by decide) (wp_bpE (isBoatC_eq C.2.1.2.1 (by omega)) ?_)
  rw [if_pos (nI_rng hk (by omega))]
  refine wp_ie (by decide) (wp_bpE (within_eq (by decide)) ?_)
  rw [if_pos (nI_rng hw (by decide))]
  refine wp_ie (by decide) (wp_bv (wp_mono (drawC_wp hn) (fun τ h => wp_bv (wp_mono (try_wp (C.fr h.1 (by decide)) hk h.2) (fun υ g => ?_)))))
  have F : Fr [52, 53, 54, 55, 56, 57, 62] σ υ := (h.1.wide (by decide)).tr (g.1.wide (by decide))
  rcases (show w = 0 ∨ w = 1 by omega) with rfl | rfl
  · exact wp_it rfl (wp_bpE (placeOf_eq g.2 (by decide) hk) (wp_some.mpr ⟨by rw [if_pos rfl], F⟩))
  · exact wp_ie (by decide) (wp_bpE (waitOf_eq g.2 hk) (wp_some.mpr ⟨by rw [if_neg (by decide)], F⟩))
-- the reference
def Ld (σ τ : Mem) (k : Nat) (f : Nat → Nat) : Prop := MX [72] [25] σ τ ∧ (∀ i, (i < 7 * k ∨ 7 * k + 6 ≤ i) → τ.1 72 i = σ.1 72 i) ∧ ∀ m, m < 6 → τ.1 72 (7 * k + m) = nI (f m)
theorem loadM_end (T : Mtx σ n0 t0 n1 t1) (M : MW σ nb kd mk mn (nkK n1 t1) (maK n1 t1) (bsK n1 t1) ns sb sm ng gt gk gb) (hk : k < nkK n1 t1) (hn : n ≤ 6) (hw : w < 2) : ∀ (q i : Nat) (τ : Mem), i ≤ n → n < i + q → Ld σ τ k (drw x i) → τ.1 64 25 = sq x i → wp (f_X10_loadsOf_b37 q τ (nI n) (nI k) (nI w) (nI i)) (fun o => o.1 = ldv kd mk mn (nkK n1 t1) (maK n1 t1) (bsK n1 t1) nb ns sb sm x n k w ∧ MX [72, 74, 75, 76, 77] [9, 19, 20, 21, 25] σ o.2 ∧ MW o.2 nb kd mk mn (nkK n1 t1) (maK n1 t1) (bsK n1 t1) ns sb sm ng gt gk gb) := by
  have k8 := M.2.1.1
  obtain ⟨hm72, hb72, hb10⟩ := M.2.1.2.2 k hk
  intro q
  induction q with
  | zero => intro i τ h1 h2; omega
  | succ q ih =>
    intro i τ h1 h2 L e25
    rw [f_X10_loadsOf_b37]
    refine wp_ite (fun c => ?_) (fun c => ?_)
    · have c' := (nI_leI (by omega) (by omega)).mp c
      have e : i = n := by omega
      subst e
      have S : MS τ (lfc kd mk mn (un (maK n1 t1) k (drw x i)) (shc sb sm 255 ns)) (nkK n1 t1) nb (bsK n1 t1) := by
        have := MS_no (M.1.fx L.1 (by decide) (by decide)) (Mk_set (k := k) (s := bsK n1 t1 k) (f := drw x i) M.2.1 (L.1.2.1 9 (by decide)) (fun m hm => ⟨L.2.2 m hm, by have := drw_le x i m; omega⟩) (by rw [L.2.1 _ (by omega)]; exact hb72) hb10 (fun j hj => L.2.1 j (by omega))) (M.2.2.1.fx L.1 (by decide) (by decide)) (M.2.2.2.1.fx L.1 (by decide) (by decide))
        rw [un_self] at this
        exact this
      rw [show (99 : Int32) = nI 99 from rfl]
      refine wp_bv (wp_mono (lives_wp (by decide) S) (fun υ g => ?_))
      have X2 : MX [72, 74, 75, 76, 77] [9, 19, 20, 21, 25] σ υ := (L.1.wide (by simp) (by simp)).tr (g.1.toX.wide (by simp) (by simp))
      refine wp_bi (wp_mono (readsK_wp (T.fr X2 (by decide) (by decide))) (fun o h => ?_))
      have X3 : MX [72, 74, 75, 76, 77] [9, 19, 20, 21, 25] σ o.2 := X2.tr (h.2.1.wide (by simp) (by simp))
      have M3 : MW o.2 nb kd mk mn (nkK n1 t1) (maK n1 t1) (bsK n1 t1) ns sb sm ng gt gk gb := ⟨M.1.fx X3 (by decide) (by decide), h.2.2, M.2.2.1.fx X3 (by decide) (by decide), M.2.2.2.1.fx X3 (by decide) (by decide), M.2.2.2.2.fx X3 (by decide) (by decide)⟩
      rw [nI_clamp (show k < 2 ^ 31 by omega), h.2.1.1 74 (by decide) (by decide), h.2.1.1 77 (by decide) (by decide), g.2.1 k hk, g.2.2.2.2.1 k hk]
      unfold ldv
      rcases (show w = 0 ∨ w = 1 by omega) with rfl | rfl
      · exact wp_it rfl (wp_ckN (by omega) (by decide) (wp_some.mpr ⟨by rw [if_pos rfl], X3, M3⟩))
      · exact wp_ie (by decide) (wp_ckN (by omega) (by decide) (wp_some.mpr ⟨by rw [if_neg (by decide)], X3, M3⟩))
    · have hi := nI_not_le c (by omega) (by omega)
      have hm : ush (sq x (i + 1)) % 6 < 6 := Nat.mod_lt _ (by decide)
      unfold f_X10_lot
      rw [e25, show (1103515245 : Int32) * sq x i + 12345 = sq x (i + 1) from rfl]
      refine wp_bi (wp_lt (wp_cz (by decide) (wp_some.mpr ?_)))
      dsimp only
      rw [show (ms τ 64 25 (sq x (i + 1))).1 64 25 = sq x (i + 1) by rw [ms_same, upd_s], rem6]
      have ex : (7 : Int32) * nI k + nI (ush (sq x (i + 1)) % 6) = nI (7 * k + ush (sq x (i + 1)) % 6) := by rw [nI_lit 7, pk_mul, nI_add]
      rw [ex, nI_clamp (by omega), ms_ne (show (72 : Nat) ≠ 64 by decide), L.2.2 _ hm, nI_1, nI_1]
      refine wp_ckN (by omega) (by decide) (wp_ckN (by omega) (by decide) (wp_lt (ih (i + 1) _ (by omega) (by omega) ⟨(L.1.fld (by simp)).row (by simp) (by decide), fun j hj => ?_, fun m hm2 => ?_⟩ ?_)))
      · rw [ms_same, upd_n (by omega), ms_ne (by decide)]
        exact L.2.1 j hj
      · rw [ms_same]
        by_cases z : m = ush (sq x (i + 1)) % 6
        · rw [z, upd_s, drw, more, un_s]
        · rw [upd_n (by omega), ms_ne (by decide), drw, more, un_n z]
          exact L.2.2 m hm2
      · rw [ms_ne (by decide), ms_same, upd_s]
theorem loadM_zero {Q : Int32 × Mem → Prop} (k8 : k < 8) (hk : ∀ τ, Ld σ τ k (drw x 0) → τ.1 64 = σ.1 64 → wp (f_X10_loadsOf_b37 300 τ (nI n) (nI k) (nI w) (0 : Int32)) Q) : ∀ (q j : Nat) (τ : Mem), j ≤ 6 → 6 < j + q → MX [72] [] σ τ → (∀ i, (i < 7 * k ∨ 7 * k + 6 ≤ i) → τ.1 72 i = σ.1 72 i) → (∀ m, m < j → τ.1 72 (7 * k + m) = 0) → wp (f_X10_loadsOf_b8 q τ (nI n) (nI k) (nI w) (nI j)) Q := by
  intro q
  induction q with
  | zero => intro j τ h1 h2; omega
  | succ q ih =>
    intro j τ h1 h2 X ho hz
    rw [f_X10_loadsOf_b8, show (6 : Int32) = nI 6 from rfl]
    refine wp_ite (fun c => ?_) (fun c => ?_)
    · have c' := (nI_leI (by omega) (by omega)).mp c
      exact hk τ ⟨X.wide (by simp) (by simp), ho, fun m hm => hz m (by omega)⟩ (funext (fun i => X.2.1 i (by simp)))
    · have hj := nI_not_le c (by omega) (by omega)
      have ex : (7 : Int32) * nI k + nI j = nI (7 * k + j) := by rw [nI_lit 7, pk_mul, nI_add]
      rw [ex, nI_clamp (by omega), nI_1]
      refine wp_ckN (by omega) (by decide) (wp_lt (ih (j + 1) _ (by omega) (by omega) (X.row (by simp) (by decide)) (fun i hi => ?_) (fun m hm => ?_)))
      · rw [ms_same, upd_n (by omega)]
        exact ho i hi
      · rw [ms_same]
        by_cases z : m = j
        · rw [z, upd_s]
        · rw [upd_n (by omega)]
          exact hz m (by omega)
theorem loadsOf_wp (T : Mtx σ n0 t0 n1 t1) (M : MW σ nb kd mk mn (nkK n1 t1) (maK n1 t1) (bsK n1 t1) ns sb sm ng gt gk gb) (hk : k < nkK n1 t1) (hn : n ≤ 6) (hw : w < 2) : wp (f_X10_loadsOf σ x (nI n) (nI k) (nI w)) (fun o => o.1 = ldv kd mk mn (nkK n1 t1) (maK n1 t1) (bsK n1 t1) nb ns sb sm x n k w ∧ MX [72, 74, 75, 76, 77] [9, 19, 20, 21, 25] σ o.2 ∧ MW o.2 nb kd mk mn (nkK n1 t1) (maK n1 t1) (bsK n1 t1) ns sb sm ng gt gk gb) := by
  have k8 := M.2.1.1
  unfold f_X10_loadsOf
  refine wp_lt (loadM_zero (σ := ms σ 64 25 x) (x := x) (by omega) (fun τ L e64 => ?_) 300 0 _ (by omega) (by omega) MX.rf (fun _ _ => rfl) (fun m hm => by omega))
  have X0 : MX [72] [25] σ (ms σ 64 25 x) := MX.rf.fld (by simp)
  refine loadM_end T M hk hn hw 300 0 τ (by omega) (by omega) ⟨X0.tr L.1, fun i hi => ?_, L.2.2⟩ (by rw [e64, ms_same, upd_s]; rfl)
  rw [L.2.1 i hi, ms_ne (by decide)]
theorem op_loads (h : INV σ) (x y z u : Int32) : wp (f_X9_loads σ x y z u) (fun o => wp (f_X10_loads o.2 x y z u) (fun o2 => o2.1 = o.1 ∧ INV o2.2)) := by
  obtain ⟨n0, t0, n1, t1, ns, sb, sm, ng, gt, gk, gb, hI⟩ := h
  have hI : IN σ n0 t0 n1 t1 ns sb sm ng gt gk gb := hI
  have C := hI.cw
  have k8 := C.2.1.1
  by_cases c1 : 0 ≤ y.toInt ∧ y.toInt < (7 : Nat)
  · by_cases c2 : 0 ≤ z.toInt ∧ z.toInt < nkK n1 t1
    · by_cases c3 : 0 ≤ u.toInt ∧ u.toInt < (2 : Nat)
      · obtain ⟨n, hn, rfl⟩ := inr c1
        obtain ⟨k, hk, rfl⟩ := inr c2
        obtain ⟨w, hw, rfl⟩ := inr c3
        refine wp_mono (loadsC_wp (x := x) C (show n ≤ 6 by omega) hk hw) (fun o h => ?_)
        have hI2 := hI.keep (h.2.sc (by decide))
        unfold f_X10_loads
        refine hI2.fnd (fun υ f M => wp_bpE (in0_eq (b := 6) (by decide)) ?_)
        rw [if_pos c1]
        refine wp_ie (by decide) (wp_bpE (isBoatM_eq M.2.1.2.1 (by omega)) ?_)
        rw [if_pos c2]
        refine wp_ie (by decide) (wp_bpE isTwo_eq ?_)
        rw [if_pos c3]
        exact wp_ie (by decide) (wp_bi (wp_mono (loadsOf_wp (x := x) (hI2.1.2.2.fr f (by decide) (by decide)) M hk (by omega) hw) (fun o2 q => wp_some.mpr ⟨q.1.trans h.1.symm, (hI2.keep ((f.wide (by decide) (by decide)).tr (q.2.1.wide (by decide) (by decide)))).inv⟩)))
      · unfold f_X9_loads f_X10_loads
        rw [show (7 : Int32) = nI 7 from rfl, show (2 : Int32) = nI 2 from rfl]
        refine wp_bpE (within_eq (by decide)) ?_
        rw [if_pos c1]
        refine wp_ie (by decide) (wp_bpE (isBoatC_eq C.2.1.2.1 (by omega)) ?_)
        rw [if_pos c2]
        refine wp_ie (by decide) (wp_bpE (within_eq (by decide)) ?_)
        rw [if_neg c3]
        refine wp_it rfl (wp_some.mpr (hI.fnd (fun τ f M => wp_bpE (in0_eq (b := 6) (by decide)) ?_)))
        rw [if_pos c1]
        refine wp_ie (by decide) (wp_bpE (isBoatM_eq M.2.1.2.1 (by omega)) ?_)
        rw [if_pos c2]
        refine wp_ie (by decide) (wp_bpE isTwo_eq ?_)
        rw [if_neg c3]
        exact wp_it rfl (wp_some.mpr ⟨rfl, hI.end f⟩)
    · unfold f_X9_loads f_X10_loads
      rw [show (7 : Int32) = nI 7 from rfl]
      refine wp_bpE (within_eq (by decide)) ?_
      rw [if_pos c1]
      refine wp_ie (by decide) (wp_bpE (isBoatC_eq C.2.1.2.1 (by omega)) ?_)
      rw [if_neg c2]
      refine wp_it rfl (wp_some.mpr (hI.fnd (fun τ f M => wp_bpE (in0_eq (b := 6) (by decide)) ?_)))
      rw [if_pos c1]
      refine wp_ie (by decide) (wp_bpE (isBoatM_eq M.2.1.2.1 (by omega)) ?_)
      rw [if_neg c2]
      exact wp_it rfl (wp_some.mpr ⟨rfl, hI.end f⟩)
  · unfold f_X9_loads f_X10_loads
    rw [show (7 : Int32) = nI 7 from rfl]
    refine wp_bpE (within_eq (by decide)) ?_
    rw [if_neg c1]
    refine wp_it rfl (wp_some.mpr (hI.fnd (fun τ f M => wp_bpE (in0_eq (b := 6) (by decide)) ?_)))
    rw [if_neg c1]
    exact wp_it rfl (wp_some.mpr ⟨rfl, hI.end f⟩)
end LOA
