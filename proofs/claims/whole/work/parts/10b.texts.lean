/-! 10b: type, wipe, undo, fault, bridge, boat -/
theorem wp_bpW {α β : Type} {x : Option β} {k : β → Option α} {Q : α → Prop} {P : β → Prop} (h : wp x P) (hk : ∀ b, P b → wp (k b) Q) : wp (bp x k) Q := wp_bp (wp_mono h hk)
section TX
variable {σ σ6 : Mem} {n0 n1 ns ng m0 : Nat} {t0 t1 sb sm gt gk gb u0 : Nat → Nat}
theorem understand0_wp {nk : Nat} {ma sh : Nat → Nat → Nat} {bs : Nat → Nat} (hT : Ctx σ 2 n0 t0) (hk : Ck σ nk ma bs) (hc : Cc σ sh) : wp (f_X9_understand σ (nI 0)) (fun τ => Fr [6, 7, 8, 9, 46, 47, 48, 49, 50, 51, 58] σ τ ∧ τ.1 6 4 = pfB n0 t0 ∧ Cb τ (nbB n0 t0) (kdB t0) (mkB t0) (mnB t0) ∧ Vok τ 46 (lfc (kdB t0) (mkB t0) (mnB t0) ma sh) nk (nbB n0 t0) bs ∧ τ.1 58 3 = 0) := by
  unfold f_X9_understand
  refine wp_it rfl (wp_ck (vp_in_nI (n := 0) (by decide) (by decide)) (wp_bv ?_))
  rw [c0]
  refine wp_mono (parseB_wp hT) (fun τ h => ?_)
  obtain ⟨h1, h2, h3⟩ := h
  unfold f_X9_understand_b33
  refine wp_bv (wp_mono (resail_wp h3 (hk.fr h1 (by decide) (by decide) (fun k hk => by simp only [List.mem_cons, List.not_mem_nil, or_false]; omega)) (hc.fr h1 (fun k hk => by simp only [List.mem_cons, List.not_mem_nil, or_false]; omega))) (fun υ g => wp_some.mpr ?_))
  obtain ⟨g1, g2, g3⟩ := g
  refine ⟨(h1.wide (by simp)).tr (g1.wide (by simp)), by rw [g1.1 6 (by decide)]; exact h2, h3.fr g1 (by decide) (by decide) (by decide) (by decide), g3, by rw [g2, upd_s]⟩
theorem understand1_wp {nb : Nat} {kd mk mn : Nat → Nat} {sh : Nat → Nat → Nat} (hT : Ctx σ 4 n1 t1) (hb : Cb σ nb kd mk mn) (hc : Cc σ sh) : wp (f_X9_understand σ (nI 1)) (fun τ => Fr [10, 12, 13, 14, 15, 16, 17, 18, 19, 20, 46, 47, 48, 49, 50, 51, 58] σ τ ∧ τ.1 10 3 = pfK n1 t1 ∧ Ck τ (nkK n1 t1) (maK n1 t1) (bsK n1 t1) ∧ Vok τ 46 (lfc kd mk mn (maK n1 t1) sh) (nkK n1 t1) nb (bsK n1 t1) ∧ τ.1 58 3 = 0) := by
  unfold f_X9_understand
  have c1 : (1 : Int32).toNatClampNeg = 1 := by decide
  refine wp_ie (by decide) (wp_ck (vp_in_nI (n := 1) (by decide) (by decide)) (wp_bv ?_))
  rw [c1]
  refine wp_mono (parseK_wp hT) (fun τ h => ?_)
  obtain ⟨h1, h2, h3⟩ := h
  unfold f_X9_understand_b33
  refine wp_bv (wp_mono (resail_wp (hb.fr h1 (by decide) (by decide) (by decide) (by decide)) h3 (hc.fr h1 (fun k hk => by simp only [List.mem_cons, List.not_mem_nil, or_false]; omega))) (fun υ g => wp_some.mpr ?_))
  obtain ⟨g1, g2, g3⟩ := g
  refine ⟨(h1.wide (by simp)).tr (g1.wide (by simp)), by rw [g1.1 10 (by decide)]; exact h2, h3.fr g1 (by decide) (by decide) (fun k hk => by simp only [List.mem_cons, List.not_mem_nil, or_false]; omega), g3, by rw [g2, upd_s]⟩
/-- a changed text of bridges, understood: all is well once the reference has the same text -/
theorem retext0 (a1 : TXT σ n0 t0 n1 t1) (a2 : PAR σ n0 t0 n1 t1) (a3 : SHA σ ns sb sm) (a4 : SEE σ ng gt gk gb) (a5 : OTH σ) (F6 : Fr [2, 3] σ σ6) (hC : Ctx σ6 2 m0 u0) : wp (f_X9_understand σ6 (nI 0)) (fun τ => Mtx τ n0 t0 n1 t1 ∧ τ.1 2 = σ6.1 2 ∧ ∀ υ, MX [69, 70] [] τ υ → Mtx υ m0 u0 n1 t1 → INV υ) := by
  have hk6 := a2.2.2.2.fr F6 (by decide) (by decide) (fun k hk => by simp only [List.mem_cons, List.not_mem_nil, or_false]; omega)
  have hc6 := a3.2.2.fr F6 (fun k hk => by simp only [List.mem_cons, List.not_mem_nil, or_false]; omega)
  refine wp_mono (understand0_wp hC hk6 hc6) (fun τ h => ?_)
  obtain ⟨h1, h2, h3, h4, h5⟩ := h
  have FT : Fr [2, 3, 6, 7, 8, 9, 46, 47, 48, 49, 50, 51, 58] σ τ := (F6.wide (by simp)).tr (h1.wide (by simp))
  have X := FT.toX (by decide)
  refine ⟨a1.2.2.fr X (by decide) (by decide), h1.1 2 (by decide), fun υ f hM => ?_⟩
  have F := f.toFr
  have hkT := hk6.fr h1 (by decide) (by decide) (fun k hk => by simp only [List.mem_cons, List.not_mem_nil, or_false]; omega)
  have e10 : τ.1 10 3 = pfK n1 t1 := by rw [FT.1 10 (by decide)]; exact a2.2.1
  refine ⟨m0, u0, n1, t1, ns, sb, sm, ng, gt, gk, gb, ⟨(hC.fr h1 (by decide) (by decide)).fr F (by decide) (by decide), (a1.2.1.fr FT (by decide) (by decide)).fr F (by decide) (by decide), hM⟩, ?_, (a3.fx X (by decide) (by decide)).fx f (by decide) (by decide), (a4.fx X (by decide) (by decide)).fx f (by decide) (by decide), (a5.fx X (by decide) (by decide)).fx f (by decide) (by decide), h4.fr F (by decide) (by decide) (by decide) (by decide) (by decide), Or.inl (by rw [f.1 58 (by decide) (by decide)]; exact h5)⟩
  exact PAR.fx (σ := τ) ⟨h2, e10, h3, hkT⟩ f (by decide)
theorem retext1 (a1 : TXT σ n0 t0 n1 t1) (a2 : PAR σ n0 t0 n1 t1) (a3 : SHA σ ns sb sm) (a4 : SEE σ ng gt gk gb) (a5 : OTH σ) (F6 : Fr [4, 5] σ σ6) (hC : Ctx σ6 4 m0 u0) : wp (f_X9_understand σ6 (nI 1)) (fun τ => Mtx τ n0 t0 n1 t1 ∧ τ.1 4 = σ6.1 4 ∧ ∀ υ, MX [69, 70] [] τ υ → Mtx υ n0 t0 m0 u0 → INV υ) := by
  have hb6 := a2.2.2.1.fr F6 (by decide) (by decide) (by decide) (by decide)
  have hc6 := a3.2.2.fr F6 (fun k hk => by simp only [List.mem_cons, List.not_mem_nil, or_false]; omega)
  refine wp_mono (understand1_wp hC hb6 hc6) (fun τ h => ?_)
  obtain ⟨h1, h2, h3, h4, h5⟩ := h
  have FT : Fr [4, 5, 10, 12, 13, 14, 15, 16, 17, 18, 19, 20, 46, 47, 48, 49, 50, 51, 58] σ τ := (F6.wide (by simp)).tr (h1.wide (by simp))
  have X := FT.toX (by decide)
  refine ⟨a1.2.2.fr X (by decide) (by decide), h1.1 4 (by decide), fun υ f hM => ?_⟩
  have F := f.toFr
  have hbT := hb6.fr h1 (by decide) (by decide) (by decide) (by decide)
  have e6 : τ.1 6 4 = pfB n0 t0 := by rw [FT.1 6 (by decide)]; exact a2.1
  refine ⟨n0, t0, m0, u0, ns, sb, sm, ng, gt, gk, gb, ⟨(a1.1.fr FT (by decide) (by decide)).fr F (by decide) (by decide), (hC.fr h1 (by decide) (by decide)).fr F (by decide) (by decide), hM⟩, ?_, (a3.fx X (by decide) (by decide)).fx f (by decide) (by decide), (a4.fx X (by decide) (by decide)).fx f (by decide) (by decide), (a5.fx X (by decide) (by decide)).fx f (by decide) (by decide), h4.fr F (by decide) (by decide) (by decide) (by decide) (by decide), Or.inl (by rw [f.1 58 (by decide) (by decide)]; exact h5)⟩
  exact PAR.fx (σ := τ) ⟨e6, h2, hbT, h3⟩ f (by decide)
end TX
def up (f : Nat → Nat) (k x : Nat) : Nat → Nat := fun j => if j = k then x else f j
theorem up_s {f : Nat → Nat} {k x : Nat} : up f k x k = x := if_pos rfl
theorem up_n {f : Nat → Nat} {k x j : Nat} (h : j ≠ k) : up f k x j = f j := if_neg h
section TXOPS
variable {σ : Mem}
theorem op_wipe (h : INV σ) (x : Int32) : wp (f_X9_wipe σ x) (fun o => wp (f_X10_wipe o.2 x) (fun o2 => o2.1 = o.1 ∧ INV o2.2)) := by
  obtain ⟨n0, t0, n1, t1, ns, sb, sm, ng, gt, gk, gb, a1, a2, a3, a4, a5, a6, a7⟩ := id h
  unfold f_X9_wipe
  rw [show (2 : Int32) = nI 2 from rfl]
  refine wp_bpE (within_eq (by decide)) ?_
  unfold f_X10_wipe
  by_cases c : 0 ≤ x.toInt ∧ x.toInt < (2 : Nat)
  · rw [if_pos c]
    obtain ⟨j, hj, rfl⟩ := inr c
    refine wp_ie (by decide) (wp_ckN hj (by decide) (wp_ckN hj (by decide) (wp_lt ?_)))
    rw [nI_clamp (by omega)]
    have tail : ∀ (τ : Mem) (v : Int32) (nj : Nat) (hv : v = nI nj) (m0' m1' : Nat), Mtx τ n0 t0 n1 t1 → τ.1 70 j = nI nj → (∀ υ, MX [69, 70] [] τ υ → Mtx υ m0' t0 m1' t1 → INV υ) → Mtx (ms τ 70 j 0) m0' t0 m1' t1 → wp (bp (f_X10_isTwo τ (nI j)) (fun v2 => (if v2 = (0 : Int32) then (some ((-2 : Int32), τ)) else (ck (nI j) 2 (ck (nI j) 2 (lt (ms τ 70 j (0 : Int32)) (fun σ6 => (some ((τ.1 70 j), σ6))))))))) (fun o2 => o2.1 = v ∧ INV o2.2) := by
      intro τ v nj hv m0' m1' g1 g2 g3 g4
      refine wp_bpE isTwo_eq ?_
      rw [if_pos (nI_rng hj (by decide))]
      refine wp_ie (by decide) (wp_ckN hj (by decide) (wp_ckN hj (by decide) (wp_lt (wp_some.mpr ⟨by rw [g2, hv], g3 _ (MX.rf.row (by simp) (by decide)) g4⟩))))
    rcases (show j = 0 ∨ j = 1 by omega) with rfl | rfl
    · have hC : Ctx (ms σ (2 + 2 * 0) 1 0) 2 0 t0 := ⟨a1.1.1, by rw [ms_same, upd_s]; rfl, Nat.zero_le _, fun i hi => by omega⟩
      refine wp_bv (wp_mono (retext0 a1 a2 a3 a4 a5 (Fr.rf.ms (by simp)) hC) (fun τ g => wp_some.mpr ?_))
      obtain ⟨g1, g2, g3⟩ := g
      refine tail τ _ n0 a1.1.2.1 0 n1 g1 g1.1 g3 ?_
      obtain ⟨q1, q2, q3, q4, q5, q6⟩ := g1
      exact ⟨by rw [ms_same, upd_s]; rfl, by rw [ms_same, upd_n (by decide)]; exact q2, by omega, q4, fun i hi => by omega, by rw [ms_ne (by decide)]; exact q6⟩
    · have hC : Ctx (ms σ (2 + 2 * 1) 1 0) 4 0 t1 := ⟨a1.2.1.1, by rw [ms_same, upd_s]; rfl, Nat.zero_le _, fun i hi => by omega⟩
      refine wp_bv (wp_mono (retext1 a1 a2 a3 a4 a5 (Fr.rf.ms (by simp)) hC) (fun τ g => wp_some.mpr ?_))
      obtain ⟨g1, g2, g3⟩ := g
      refine tail τ _ n1 a1.2.1.2.1 n0 0 g1 g1.2.1 g3 ?_
      obtain ⟨q1, q2, q3, q4, q5, q6⟩ := g1
      exact ⟨by rw [ms_same, upd_n (by decide)]; exact q1, by rw [ms_same, upd_s]; rfl, q3, by omega, by rw [ms_ne (by decide)]; exact q5, fun i hi => by omega⟩
  · rw [if_neg c]
    refine wp_it rfl (wp_some.mpr (wp_bpE isTwo_eq ?_))
    rw [if_neg c]
    exact wp_it rfl (wp_some.mpr ⟨rfl, h⟩)
theorem op_undo (h : INV σ) (x : Int32) : wp (f_X9_undo σ x) (fun o => wp (f_X10_undo o.2 x) (fun o2 => o2.1 = o.1 ∧ INV o2.2)) := by
  obtain ⟨n0, t0, n1, t1, ns, sb, sm, ng, gt, gk, gb, a1, a2, a3, a4, a5, a6, a7⟩ := id h
  unfold f_X9_undo
  rw [show (2 : Int32) = nI 2 from rfl]
  refine wp_bpE (within_eq (by decide)) ?_
  unfold f_X10_undo
  by_cases c : 0 ≤ x.toInt ∧ x.toInt < (2 : Nat)
  · rw [if_pos c]
    obtain ⟨j, hj, rfl⟩ := inr c
    refine wp_ie (by decide) (wp_ckN hj (by decide) ?_)
    rw [nI_clamp (by omega)]
    have stay : ∀ τ : Mem, τ.1 70 j = 0 → INV τ → wp (bp (f_X10_isTwo τ (nI j)) (fun v2 => (if v2 = (0 : Int32) then (some ((-2 : Int32), τ)) else (ck (nI j) 2 (if (τ.1 70 j) = (0 : Int32) then (some ((-3 : Int32), τ)) else (ck (nI j) 2 (ck (nI j) 2 (lt (ms τ 70 j ((τ.1 70 j) - (1 : Int32))) (fun σ8 => (ck (nI j) 2 (some ((σ8.1 70 j), σ8)))))))))))) (fun o2 => o2.1 = (-3 : Int32) ∧ INV o2.2) := by
      intro τ g1 g2
      refine wp_bpE isTwo_eq ?_
      rw [if_pos (nI_rng hj (by decide))]
      exact wp_ie (by decide) (wp_ckN hj (by decide) (wp_it g1 (wp_some.mpr ⟨rfl, g2⟩)))
    have tail : ∀ (τ : Mem) (nj m0' m1' : Nat), Mtx τ n0 t0 n1 t1 → τ.1 70 j = nI (nj + 1) → nj < 1000 → (∀ υ, MX [69, 70] [] τ υ → Mtx υ m0' t0 m1' t1 → INV υ) → Mtx (ms τ 70 j (nI nj)) m0' t0 m1' t1 → wp (bp (f_X10_isTwo τ (nI j)) (fun v2 => (if v2 = (0 : Int32) then (some ((-2 : Int32), τ)) else (ck (nI j) 2 (if (τ.1 70 j) = (0 : Int32) then (some ((-3 : Int32), τ)) else (ck (nI j) 2 (ck (nI j) 2 (lt (ms τ 70 j ((τ.1 70 j) - (1 : Int32))) (fun σ8 => (ck (nI j) 2 (some ((σ8.1 70 j), σ8)))))))))))) (fun o2 => o2.1 = nI nj ∧ INV o2.2) := by
      intro τ nj m0' m1' g1 g2 hl g3 g4
      refine wp_bpE isTwo_eq ?_
      rw [if_pos (nI_rng hj (by decide)), g2, nI_pred]
      refine wp_ie (by decide) (wp_ckN hj (by decide) (wp_ie (nI_ne0 (by omega) (by omega)) (wp_ckN hj (by decide) (wp_ckN hj (by decide) (wp_lt (wp_ckN hj (by decide) (wp_some.mpr ⟨by rw [ms_same, upd_s], g3 _ (MX.rf.row (by simp) (by decide)) g4⟩)))))))
    rcases (show j = 0 ∨ j = 1 by omega) with rfl | rfl
    · have e2 : σ.1 (2 + 2 * 0) 1 = nI n0 := a1.1.2.1
      rw [e2]
      have hn := a1.1.2.2.1
      have ht : tlen 2 = 31 := rfl
      refine wp_ite (fun z => ?_) (fun z => wp_lt ?_)
      · exact wp_some.mpr (stay σ (by rw [a1.2.2.1]; exact z) h)
      · obtain ⟨n, rfl⟩ : ∃ n, n0 = n + 1 := ⟨n0 - 1, by have : ¬ n0 = 0 := fun e => z (by rw [e]; rfl); omega⟩
        rw [nI_pred]
        have hC : Ctx (ms σ (2 + 2 * 0) 1 (nI n)) 2 n t0 := ⟨a1.1.1, by rw [ms_same, upd_s], by omega, fun i hi => by rw [ms_ne (by decide)]; exact a1.1.2.2.2 i (by omega)⟩
        refine wp_bv (wp_mono (retext0 a1 a2 a3 a4 a5 (Fr.rf.ms (by simp)) hC) (fun τ g => wp_some.mpr ?_))
        obtain ⟨g1, g2, g3⟩ := g
        have e3 : τ.1 (2 + 2 * 0) 1 = nI n := by rw [show 2 + 2 * 0 = 2 from rfl, g2, ms_same, upd_s]
        rw [e3]
        refine tail τ n n n1 g1 g1.1 (by omega) g3 ?_
        obtain ⟨q1, q2, q3, q4, q5, q6⟩ := g1
        exact ⟨by rw [ms_same, upd_s], by rw [ms_same, upd_n (by decide)]; exact q2, by omega, q4, fun i hi => by rw [ms_ne (by decide)]; exact q5 i (by omega), by rw [ms_ne (by decide)]; exact q6⟩
    · have e2 : σ.1 (2 + 2 * 1) 1 = nI n1 := a1.2.1.2.1
      rw [e2]
      have hn := a1.2.1.2.2.1
      have ht : tlen 4 = 63 := rfl
      refine wp_ite (fun z => ?_) (fun z => wp_lt ?_)
      · exact wp_some.mpr (stay σ (by rw [a1.2.2.2.1]; exact z) h)
      · obtain ⟨n, rfl⟩ : ∃ n, n1 = n + 1 := ⟨n1 - 1, by have : ¬ n1 = 0 := fun e => z (by rw [e]; rfl); omega⟩
        rw [nI_pred]
        have hC : Ctx (ms σ (2 + 2 * 1) 1 (nI n)) 4 n t1 := ⟨a1.2.1.1, by rw [ms_same, upd_s], by omega, fun i hi => by rw [ms_ne (by decide)]; exact a1.2.1.2.2.2 i (by omega)⟩
        refine wp_bv (wp_mono (retext1 a1 a2 a3 a4 a5 (Fr.rf.ms (by simp)) hC) (fun τ g => wp_some.mpr ?_))
        obtain ⟨g1, g2, g3⟩ := g
        have e3 : τ.1 (2 + 2 * 1) 1 = nI n := by rw [show 2 + 2 * 1 = 4 from rfl, g2, ms_same, upd_s]
        rw [e3]
        refine tail τ n n0 n g1 g1.2.1 (by omega) g3 ?_
        obtain ⟨q1, q2, q3, q4, q5, q6⟩ := g1
        exact ⟨by rw [ms_same, upd_n (by decide)]; exact q1, by rw [ms_same, upd_s], q3, by omega, by rw [ms_ne (by decide)]; exact q5, fun i hi => by rw [ms_ne (by decide)]; exact q6 i (by omega)⟩
  · rw [if_neg c]
    refine wp_it rfl (wp_some.mpr (wp_bpE isTwo_eq ?_))
    rw [if_neg c]
    exact wp_it rfl (wp_some.mpr ⟨rfl, h⟩)
theorem in0_eq {x : Int32} {b : Nat} {B : Int64} (hB : B.toInt = b) : f_X10_in σ x.toInt64 (0 : Int64) B = some (if 0 ≤ x.toInt ∧ x.toInt < ((b + 1 : Nat) : Int) then 1 else 0) := by
  rw [in_lit (a := 0) (b := b) (by decide) hB]
  by_cases c : 0 ≤ x.toInt ∧ x.toInt < ((b + 1 : Nat) : Int)
  · rw [if_pos c, if_pos (by omega)]
  · rw [if_neg c, if_neg (by omega)]
theorem type_M {j b nj m0' m1' n0 n1 : Nat} {t0 t1 u0 u1 : Nat → Nat} {τ : Mem} (hj : j < 2) (hb : b < 256) (g2 : τ.1 70 j = nI nj) (hl : nj < if j = 0 then 31 else 63) (g3 : ∀ υ, MX [69, 70] [] τ υ → Mtx υ m0' u0 m1' u1 → INV υ) (g4 : Mtx (ms (ms τ 69 (64 * j + nj) (nI b)) 70 j (nI (nj + 1))) m0' u0 m1' u1) : wp (f_X10_type τ (nI j) (nI b)) (fun o2 => o2.1 = nI (nj + 1) ∧ INV o2.2) := by
  unfold f_X10_type
  refine wp_bpE isTwo_eq ?_
  rw [if_pos (nI_rng hj (by decide))]
  refine wp_ie (by decide) (wp_bpE (in0_eq (b := 255) (by decide)) ?_)
  rw [if_pos (nI_rng hb (by decide))]
  refine wp_ie (by decide) (wp_ckN hj (by decide) ?_)
  rw [nI_clamp (by omega), g2]
  have go : ∀ y : Nat, y < 100 → nj < y → nj < 64 → wp (f_X10_type_b39 τ (nI j) (nI b) (nI y) (nI nj)) (fun o2 => o2.1 = nI (nj + 1) ∧ INV o2.2) := by
    intro y hy hlt h64
    unfold f_X10_type_b39
    have ex : (64 : Int32) * nI j + τ.1 70 (nI j).toNatClampNeg = nI (64 * j + nj) := by rw [nI_clamp (by omega), g2, nI_lit 64, pk_mul, nI_add]
    refine wp_ie (fun q => by have := (nI_eq (by omega) (by omega)).mp q; omega) (wp_ckN hj (by decide) ?_)
    rw [ex, nI_clamp (show 64 * j + nj < 2 ^ 31 by omega), nI_clamp (show j < 2 ^ 31 by omega)]
    refine wp_ckN (by omega) (by omega) (wp_lt (wp_ckN hj (by decide) (wp_ckN hj (by decide) (wp_lt (wp_ckN hj (by decide) (wp_some.mpr ?_))))))
    rw [ms_ne (show (70 : Nat) ≠ 69 by decide), g2, nI_1]
    exact ⟨by rw [ms_same, upd_s], g3 _ ((MX.rf.row (by simp) (by decide)).row (by simp) (by decide)) g4⟩
  rcases (show j = 0 ∨ j = 1 by omega) with rfl | rfl
  · rw [if_pos rfl] at hl
    exact wp_it rfl (go 31 (by omega) hl (by omega))
  · rw [if_neg (by decide)] at hl
    exact wp_ie (by decide) (go 63 (by omega) hl (by omega))
theorem op_type (h : INV σ) (x y : Int32) : wp (f_X9_type σ x y) (fun o => wp (f_X10_type o.2 x y) (fun o2 => o2.1 = o.1 ∧ INV o2.2)) := by
  obtain ⟨n0, t0, n1, t1, ns, sb, sm, ng, gt, gk, gb, a1, a2, a3, a4, a5, a6, a7⟩ := id h
  unfold f_X9_type
  rw [show (2 : Int32) = nI 2 from rfl, show (256 : Int32) = nI 256 from rfl]
  have bad : (¬ (0 ≤ x.toInt ∧ x.toInt < (2 : Nat)) ∨ ¬ (0 ≤ y.toInt ∧ y.toInt < (256 : Nat))) → wp (f_X10_type σ x y) (fun o2 => o2.1 = (-2 : Int32) ∧ INV o2.2) := by
    intro hb
    unfold f_X10_type
    refine wp_bpE isTwo_eq ?_
    by_cases c : 0 ≤ x.toInt ∧ x.toInt < (2 : Nat)
    · rw [if_pos c]
      have c2 : ¬ (0 ≤ y.toInt ∧ y.toInt < (256 : Nat)) := hb.resolve_left (fun q => q c)
      refine wp_ie (by decide) (wp_bpE (in0_eq (b := 255) (by decide)) ?_)
      rw [if_neg c2]
      exact wp_it rfl (wp_some.mpr ⟨rfl, h⟩)
    · rw [if_neg c]
      exact wp_it rfl (wp_some.mpr ⟨rfl, h⟩)
  refine wp_bpE (within_eq (by decide)) ?_
  by_cases c : 0 ≤ x.toInt ∧ x.toInt < (2 : Nat)
  · rw [if_pos c]
    refine wp_ie (by decide) (wp_bpE (within_eq (by decide)) ?_)
    by_cases c2 : 0 ≤ y.toInt ∧ y.toInt < (256 : Nat)
    · rw [if_pos c2]
      obtain ⟨j, hj, rfl⟩ := inr c
      obtain ⟨b, hb, rfl⟩ := inr c2
      refine wp_ie (by decide) (wp_ckN hj (by decide) ?_)
      rw [nI_clamp (by omega)]
      have full : ∀ (nj : Nat), σ.1 70 j = nI nj → (nj = if j = 0 then 31 else 63) → wp (f_X10_type σ (nI j) (nI b)) (fun o2 => o2.1 = (-4 : Int32) ∧ INV o2.2) := by
        intro nj g2 hl
        unfold f_X10_type
        refine wp_bpE isTwo_eq ?_
        rw [if_pos c]
        refine wp_ie (by decide) (wp_bpE (in0_eq (b := 255) (by decide)) ?_)
        rw [if_pos c2]
        refine wp_ie (by decide) (wp_ckN hj (by decide) ?_)
        rw [nI_clamp (by omega), g2, hl]
        unfold f_X10_type_b39
        rcases (show j = 0 ∨ j = 1 by omega) with rfl | rfl
        · exact wp_it rfl (wp_it rfl (wp_some.mpr ⟨rfl, h⟩))
        · exact wp_ie (by decide) (wp_it rfl (wp_some.mpr ⟨rfl, h⟩))
      rcases (show j = 0 ∨ j = 1 by omega) with rfl | rfl
      · have e2 : σ.1 (2 + 2 * 0) 1 = nI n0 := a1.1.2.1
        have hn : n0 ≤ 31 := a1.1.2.2.1
        have ht : tlen (2 + 2 * 0) = 31 := rfl
        unfold f_X7_append f_X7_isFull
        rw [e2, ht, nI_clamp (show n0 < 2 ^ 31 by omega)]
        by_cases cf : n0 < 31
        · rw [if_pos ((nI_ltI (by omega) (by omega)).mpr cf)]
          refine wp_bpE rfl (wp_it rfl (wp_bv (wp_bpE rfl (wp_it rfl (wp_ckN cf (by decide) (wp_lt (wp_lt (wp_some.mpr ?_))))))))
          rw [ms_ne (show 2 + 2 * 0 ≠ 2 + 2 * 0 + 1 by decide), e2, nI_1]
          have hC : Ctx (ms (ms σ (2 + 2 * 0 + 1) n0 (nI b)) (2 + 2 * 0) 1 (nI (n0 + 1))) 2 (n0 + 1) (up t0 n0 b) := ⟨a1.1.1, by rw [ms_same, upd_s], by show n0 + 1 ≤ 31; omega, fun i hi => by
            rw [ms_ne (show 2 + 1 ≠ 2 + 2 * 0 by decide), ms_same]
            by_cases e : i = n0
            · rw [e, upd_s, up_s]; exact ⟨rfl, hb⟩
            · rw [upd_n e, up_n e]; exact a1.1.2.2.2 i (by omega)⟩
          refine wp_bv (wp_mono (retext0 a1 a2 a3 a4 a5 ((Fr.rf.ms (by simp)).ms (by simp)) hC) (fun τ g => wp_some.mpr ?_))
          obtain ⟨g1, g2, g3⟩ := g
          have e3 : τ.1 (2 + 2 * 0) 1 = nI (n0 + 1) := by rw [show 2 + 2 * 0 = 2 from rfl, g2, ms_same, upd_s]
          rw [e3]
          refine type_M (j := 0) (n0 := n0) (n1 := n1) (t0 := t0) (t1 := t1) hj hb g1.1 (by rw [if_pos rfl]; exact cf) g3 ?_
          obtain ⟨q1, q2, q3, q4, q5, q6⟩ := g1
          refine ⟨by rw [ms_same, upd_s], by rw [ms_same, upd_n (by decide), ms_ne (by decide)]; exact q2, by omega, q4, fun i hi => ?_, fun i hi => ?_⟩
          · rw [ms_ne (show (69 : Nat) ≠ 70 by decide), ms_same]
            by_cases e : i = n0
            · rw [e, show 64 * 0 + n0 = n0 by omega, upd_s, up_s]; exact ⟨rfl, hb⟩
            · rw [upd_n (by omega), up_n e]; exact q5 i (by omega)
          · rw [ms_ne (show (69 : Nat) ≠ 70 by decide), ms_same, upd_n (by omega)]
            exact q6 i hi
        · rw [if_neg (fun q => cf ((nI_ltI (by omega) (by omega)).mp q))]
          refine wp_bpE rfl (wp_ie (by decide) (wp_some.mpr (full n0 a1.2.2.1 (by rw [if_pos rfl]; omega))))
      · have e2 : σ.1 (2 + 2 * 1) 1 = nI n1 := a1.2.1.2.1
        have hn : n1 ≤ 63 := a1.2.1.2.2.1
        have ht : tlen (2 + 2 * 1) = 63 := rfl
        unfold f_X7_append f_X7_isFull
        rw [e2, ht, nI_clamp (show n1 < 2 ^ 31 by omega)]
        by_cases cf : n1 < 63
        · rw [if_pos ((nI_ltI (by omega) (by omega)).mpr cf)]
          refine wp_bpE rfl (wp_it rfl (wp_bv (wp_bpE rfl (wp_it rfl (wp_ckN cf (by decide) (wp_lt (wp_lt (wp_some.mpr ?_))))))))
          rw [ms_ne (show 2 + 2 * 1 ≠ 2 + 2 * 1 + 1 by decide), e2, nI_1]
          have hC : Ctx (ms (ms σ (2 + 2 * 1 + 1) n1 (nI b)) (2 + 2 * 1) 1 (nI (n1 + 1))) 4 (n1 + 1) (up t1 n1 b) := ⟨a1.2.1.1, by rw [ms_same, upd_s], by show n1 + 1 ≤ 63; omega, fun i hi => by
            rw [ms_ne (show 4 + 1 ≠ 2 + 2 * 1 by decide), ms_same]
            by_cases e : i = n1
            · rw [e, upd_s, up_s]; exact ⟨rfl, hb⟩
            · rw [upd_n e, up_n e]; exact a1.2.1.2.2.2 i (by omega)⟩
          refine wp_bv (wp_mono (retext1 a1 a2 a3 a4 a5 ((Fr.rf.ms (by simp)).ms (by simp)) hC) (fun τ g => wp_some.mpr ?_))
          obtain ⟨g1, g2, g3⟩ := g
          have e3 : τ.1 (2 + 2 * 1) 1 = nI (n1 + 1) := by rw [show 2 + 2 * 1 = 4 from rfl, g2, ms_same, upd_s]
          rw [e3]
          refine type_M (j := 1) (n0 := n0) (n1 := n1) (t0 := t0) (t1 := t1) hj hb g1.2.1 (by rw [if_neg (by decide)]; exact cf) g3 ?_
          obtain ⟨q1, q2, q3, q4, q5, q6⟩ := g1
          refine ⟨by rw [ms_same, upd_n (by decide), ms_ne (by decide)]; exact q1, by rw [ms_same, upd_s], q3, by omega, fun i hi => ?_, fun i hi => ?_⟩
          · rw [ms_ne (show (69 : Nat) ≠ 70 by decide), ms_same, upd_n (by omega)]
            exact q5 i hi
          · rw [ms_ne (show (69 : Nat) ≠ 70 by decide), ms_same]
            by_cases e : i = n1
            · rw [e, show 64 * 1 + n1 = 64 + n1 by omega, upd_s, up_s]; exact ⟨rfl, hb⟩
            · rw [upd_n (by omega), up_n e]; exact q6 i (by omega)
        · rw [if_neg (fun q => cf ((nI_ltI (by omega) (by omega)).mp q))]
          refine wp_bpE rfl (wp_ie (by decide) (wp_some.mpr (full n1 a1.2.2.2.1 (by rw [if_neg (by decide)]; omega))))
    · rw [if_neg c2]
      exact wp_it rfl (wp_some.mpr (bad (Or.inr c2)))
  · rw [if_neg c]
    exact wp_it rfl (wp_some.mpr (bad (Or.inl c)))
theorem op_fault (h : INV σ) (x : Int32) : wp (f_X9_fault σ x) (fun r => wp (f_X10_fault σ x) (fun o2 => o2.1 = r ∧ INV o2.2)) := by
  obtain ⟨n0, t0, n1, t1, ns, sb, sm, ng, gt, gk, gb, a1, a2, a3, a4, a5, a6, a7⟩ := id h
  unfold f_X9_fault f_X10_fault
  rw [show (2 : Int32) = nI 2 from rfl]
  refine wp_bpE (within_eq (by decide)) ?_
  by_cases c : 0 ≤ x.toInt ∧ x.toInt < (2 : Nat)
  · rw [if_pos c]
    refine wp_ie (by decide) ?_
    refine wp_ite (fun e => ?_) (fun e => ?_)
    · refine wp_some.mpr (wp_bpE isTwo_eq ?_)
      rw [if_pos c]
      refine wp_ie (by decide) (wp_it e (wp_bi (wp_mono (readsB_wp a1.2.2) (fun o g => wp_some.mpr ⟨g.1.trans a2.1.symm, h.keep (g.2.1.wide (by decide) (by decide))⟩))))
    · refine wp_some.mpr (wp_bpE isTwo_eq ?_)
      rw [if_pos c]
      refine wp_ie (by decide) (wp_ie e (wp_bi (wp_mono (readsK_wp a1.2.2) (fun o g => wp_some.mpr ⟨g.1.trans a2.2.1.symm, h.keep (g.2.1.wide (by decide) (by decide))⟩))))
  · rw [if_neg c]
    refine wp_it rfl (wp_some.mpr (wp_bpE isTwo_eq ?_))
    rw [if_neg c]
    exact wp_it rfl (wp_some.mpr ⟨rfl, h⟩)
theorem op_bridge (h : INV σ) (x y : Int32) : wp (f_X9_bridge σ x y) (fun r => wp (f_X10_bridge σ x y) (fun o2 => o2.1 = r ∧ INV o2.2)) := by
  obtain ⟨n0, t0, n1, t1, ns, sb, sm, ng, gt, gk, gb, a1, a2, a3, a4, a5, a6, a7⟩ := id h
  obtain ⟨h8, e6, hrow⟩ := a2.2.2.1
  have fin : ∀ (v : Int32), (∀ τ : Mem, MX [71, 72] [7, 9] σ τ → Mb τ (nbB n0 t0) (kdB t0) (mkB t0) (mnB t0) → wp (bp (f_X10_isBridge τ x) (fun v4 => (if v4 = (0 : Int32) then (some ((-2 : Int32), τ)) else (bp (f_X10_in τ y.toInt64 (0 : Int64) (2 : Int64)) (fun v7 => (if v7 = (0 : Int32) then (some ((-2 : Int32), τ)) else (ck (((3 : Int32) * x) + y) 24 (some ((τ.1 71 (((3 : Int32) * x) + y).toNatClampNeg), τ))))))))) (fun o2 => o2.1 = v ∧ o2.2 = τ)) → wp (f_X10_bridge σ x y) (fun o2 => o2.1 = v ∧ INV o2.2) := by
    intro v hv
    unfold f_X10_bridge
    refine wp_bv (wp_mono (find_wp a1.2.2) (fun τ g => wp_mono (hv τ g.1 g.2.1) (fun o q => ⟨q.1, by rw [q.2]; exact h.keep (g.1.wide (by decide) (by decide))⟩)))
  unfold f_X9_bridge
  refine wp_bpE (isBridgeC_eq e6 (by omega)) ?_
  by_cases c : 0 ≤ x.toInt ∧ x.toInt < (nbB n0 t0 : Int)
  · rw [if_pos c, show (3 : Int32) = nI 3 from rfl]
    refine wp_ie (by decide) (wp_bpE (within_eq (by decide)) ?_)
    by_cases c2 : 0 ≤ y.toInt ∧ y.toInt < (3 : Nat)
    · rw [if_pos c2]
      obtain ⟨b, hb, rfl⟩ := inr c
      obtain ⟨w, hw, rfl⟩ := inr c2
      obtain ⟨r0, r1, r2, -⟩ := hrow b hb
      have key : ∀ v : Int32, (∀ τ : Mem, Mb τ (nbB n0 t0) (kdB t0) (mkB t0) (mnB t0) → τ.1 71 (3 * b + w) = v) → wp (f_X10_bridge σ (nI b) (nI w)) (fun o2 => o2.1 = v ∧ INV o2.2) := by
        intro v hv
        refine fin v (fun τ _ hM => wp_bpE (isBridgeM_eq hM.2.1 (by omega)) ?_)
        rw [if_pos c]
        refine wp_ie (by decide) (wp_bpE (in0_eq (b := 2) (by decide)) ?_)
        have ex : (3 : Int32) * nI b + nI w = nI (3 * b + w) := by rw [nI_lit 3, pk_mul, nI_add]
        rw [if_pos c2, ex, nI_clamp (by omega)]
        exact wp_ie (by decide) (wp_ckN (by omega) (by omega) (wp_some.mpr ⟨hv τ hM, rfl⟩))
      refine wp_ie (by decide) (wp_bp ?_)
      unfold f_X2_part
      rw [show (8 : Int32) = nI 8 from rfl]
      refine wp_bpE (within_eq (by decide)) ?_
      rw [if_pos (nI_rng (by omega) (by decide)), nI_clamp (by omega), r0, r1, r2]
      refine wp_ie (by decide) ?_
      rcases (show w = 0 ∨ w = 1 ∨ w = 2 by omega) with rfl | rfl | rfl
      · exact wp_it rfl (wp_ckN (by omega) (by decide) (wp_some.mpr (wp_some.mpr (key _ (fun τ hM => (hM.2.2 b hb).1)))))
      · exact wp_ie (by decide) (wp_it rfl (wp_ckN (by omega) (by decide) (wp_some.mpr (wp_some.mpr (key _ (fun τ hM => (hM.2.2 b hb).2.1))))))
      · exact wp_ie (by decide) (wp_ie (by decide) (wp_ckN (by omega) (by decide) (wp_some.mpr (wp_some.mpr (key _ (fun τ hM => (hM.2.2 b hb).2.2.1))))))
    · rw [if_neg c2]
      refine wp_it rfl (wp_some.mpr (fin _ (fun τ _ hM => wp_bpE (isBridgeM_eq hM.2.1 (by omega)) ?_)))
      rw [if_pos c]
      refine wp_ie (by decide) (wp_bpE (in0_eq (b := 2) (by decide)) ?_)
      rw [if_neg c2]
      exact wp_it rfl (wp_some.mpr ⟨rfl, rfl⟩)
  · rw [if_neg c]
    refine wp_it rfl (wp_some.mpr (fin _ (fun τ _ hM => wp_bpE (isBridgeM_eq hM.2.1 (by omega)) ?_)))
    rw [if_neg c]
    exact wp_it rfl (wp_some.mpr ⟨rfl, rfl⟩)
theorem op_boat (h : INV σ) (x y : Int32) : wp (f_X9_boat σ x y) (fun r => wp (f_X10_boat σ x y) (fun o2 => o2.1 = r ∧ INV o2.2)) := by
  obtain ⟨n0, t0, n1, t1, ns, sb, sm, ng, gt, gk, gb, a1, a2, a3, a4, a5, a6, a7⟩ := id h
  obtain ⟨h8, e10, hrow⟩ := a2.2.2.2
  have fin : ∀ (v : Int32), (∀ τ : Mem, MX [71, 72] [7, 9] σ τ → Mk τ (nkK n1 t1) (maK n1 t1) (bsK n1 t1) → wp (bp (f_X10_isBoat τ x) (fun v4 => (if v4 = (0 : Int32) then (some ((-2 : Int32), τ)) else (bp (f_X10_in τ y.toInt64 (0 : Int64) (6 : Int64)) (fun v7 => (if v7 = (0 : Int32) then (some ((-2 : Int32), τ)) else (ck (((7 : Int32) * x) + y) 56 (some ((τ.1 72 (((7 : Int32) * x) + y).toNatClampNeg), τ))))))))) (fun o2 => o2.1 = v ∧ o2.2 = τ)) → wp (f_X10_boat σ x y) (fun o2 => o2.1 = v ∧ INV o2.2) := by
    intro v hv
    unfold f_X10_boat
    refine wp_bv (wp_mono (find_wp a1.2.2) (fun τ g => wp_mono (hv τ g.1 g.2.2) (fun o q => ⟨q.1, by rw [q.2]; exact h.keep (g.1.wide (by decide) (by decide))⟩)))
  unfold f_X9_boat
  refine wp_bpE (isBoatC_eq e10 (by omega)) ?_
  by_cases c : 0 ≤ x.toInt ∧ x.toInt < (nkK n1 t1 : Int)
  · rw [if_pos c, show (7 : Int32) = nI 7 from rfl]
    refine wp_ie (by decide) (wp_bpE (within_eq (by decide)) ?_)
    by_cases c2 : 0 ≤ y.toInt ∧ y.toInt < (7 : Nat)
    · rw [if_pos c2]
      obtain ⟨k, hk, rfl⟩ := inr c
      obtain ⟨w, hw, rfl⟩ := inr c2
      obtain ⟨r0, r1, -⟩ := hrow k hk
      have key : ∀ v : Int32, (∀ τ : Mem, Mk τ (nkK n1 t1) (maK n1 t1) (bsK n1 t1) → τ.1 72 (7 * k + w) = v) → wp (f_X10_boat σ (nI k) (nI w)) (fun o2 => o2.1 = v ∧ INV o2.2) := by
        intro v hv
        refine fin v (fun τ _ hM => wp_bpE (isBoatM_eq hM.2.1 (by omega)) ?_)
        rw [if_pos c]
        refine wp_ie (by decide) (wp_bpE (in0_eq (b := 6) (by decide)) ?_)
        have ex : (7 : Int32) * nI k + nI w = nI (7 * k + w) := by rw [nI_lit 7, pk_mul, nI_add]
        rw [if_pos c2, ex, nI_clamp (by omega)]
        exact wp_ie (by decide) (wp_ckN (by omega) (by omega) (wp_some.mpr ⟨hv τ hM, rfl⟩))
      refine wp_ie (by decide) ?_
      rw [nI_clamp (show k < 2 ^ 31 by omega), nI_clamp (show w < 2 ^ 31 by omega)]
      by_cases e6 : w = 6
      · subst e6
        exact wp_it rfl (wp_ckN (by omega) (by decide) (wp_some.mpr (key _ (fun τ hM => by rw [(hM.2.2 k hk).2.1, r1]))))
      · refine wp_ie (fun q => e6 ((nI_eq (b := 6) (by omega) (by omega)).mp q)) (wp_ckN (by omega) (by decide) (wp_ckN (by omega) (by decide) (wp_some.mpr (key _ (fun τ hM => ?_)))))
        rw [((hM.2.2 k hk).1 w (by omega)).1, (r0 w (by omega)).1]
    · rw [if_neg c2]
      refine wp_it rfl (wp_some.mpr (fin _ (fun τ _ hM => wp_bpE (isBoatM_eq hM.2.1 (by omega)) ?_)))
      rw [if_pos c]
      refine wp_ie (by decide) (wp_bpE (in0_eq (b := 6) (by decide)) ?_)
      rw [if_neg c2]
      exact wp_it rfl (wp_some.mpr ⟨rfl, rfl⟩)
  · rw [if_neg c]
    refine wp_it rfl (wp_some.mpr (fin _ (fun τ _ hM => wp_bpE (isBoatM_eq hM.2.1 (by omega)) ?_)))
    rw [if_neg c]
    exact wp_it rfl (wp_some.mpr ⟨rfl, rfl⟩)
end TXOPS
