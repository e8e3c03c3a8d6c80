/-! 10a: what holds between the class and the reference at every call -/
def Mg (σ : Mem) (ng : Nat) (gt gk gb : Nat → Nat) : Prop := σ.1 64 22 = nI ng ∧ ∀ i, i < ng → σ.1 78 (3 * i) = nI (gt i) ∧ σ.1 78 (3 * i + 1) = nI (gk i) ∧ σ.1 78 (3 * i + 2) = nI (gb i)
/-- a sheet on both sides -/
def Sht (σ : Mem) (s : Nat) : Prop := ∃ f z : Nat, f < 3 ∧ z ≤ 60 ∧ σ.1 (38 + 2 * s) 2 = nI z ∧ σ.1 66 s = nI z ∧ (∀ i, i < z → σ.1 (39 + 2 * s) i = σ.1 67 (60 * s + i)) ∧ ((σ.1 (38 + 2 * s) 3 = 1 ∧ σ.1 65 s = (-1 : Int32)) ∨ (σ.1 (38 + 2 * s) 3 = 0 ∧ σ.1 (38 + 2 * s) 1 = nI f ∧ σ.1 65 s = nI f))
def TXT (σ : Mem) (n0 : Nat) (t0 : Nat → Nat) (n1 : Nat) (t1 : Nat → Nat) : Prop := Ctx σ 2 n0 t0 ∧ Ctx σ 4 n1 t1 ∧ Mtx σ n0 t0 n1 t1
def PAR (σ : Mem) (n0 : Nat) (t0 : Nat → Nat) (n1 : Nat) (t1 : Nat → Nat) : Prop := σ.1 6 4 = pfB n0 t0 ∧ σ.1 10 3 = pfK n1 t1 ∧ Cb σ (nbB n0 t0) (kdB t0) (mkB t0) (mnB t0) ∧ Ck σ (nkK n1 t1) (maK n1 t1) (bsK n1 t1)
def SHA (σ : Mem) (ns : Nat) (sb sm : Nat → Nat) : Prop := Cs σ ns sb sm ∧ Ms σ ns sb sm ∧ Cc σ (shc sb sm 255 ns)
def SEE (σ : Mem) (ng : Nat) (gt gk gb : Nat → Nat) : Prop := Cg σ ng gt gk gb ∧ Mg σ ng gt gk gb
def OTH (σ : Mem) : Prop := (∀ s, s < 4 → Sht σ s) ∧ σ.1 0 12 = σ.1 64 4 ∧ σ.1 64 13 = nI 255 ∧ σ.1 64 14 = (-1 : Int32)
abbrev lfA (t0 : Nat → Nat) (n1 : Nat) (t1 : Nat → Nat) (sb sm : Nat → Nat) (bl ns : Nat) : Nat → Nat → Bool := lfc (kdB t0) (mkB t0) (mnB t0) (maK n1 t1) (shc sb sm bl ns)
/-- the step behind which a boat is through -/
def ths (lf : Nat → Nat → Bool) (nk P : Nat) (st : Nat → Nat) (k : Nat) : Nat := if P = 0 then st k else pas lf nk P st 100 (P - 1) k
def BEL (σ : Mem) (n0 : Nat) (t0 : Nat → Nat) (n1 : Nat) (t1 : Nat → Nat) (ns : Nat) (sb sm : Nat → Nat) : Prop := σ.1 58 3 = 0 ∨ (σ.1 58 3 = 1 ∧ σ.1 58 2 = nI ns ∧ ∀ w, w < 2 ^ ns → ∀ k, k < nkK n1 t1 → (σ.2 w >>> ((nI (8 * k)).toInt64 &&& 63)) &&& 255 = lN (ths (lfA t0 n1 t1 sb sm w ns) (nkK n1 t1) (nbB n0 t0) (bsK n1 t1) k))
def INV (σ : Mem) : Prop := ∃ (n0 : Nat) (t0 : Nat → Nat) (n1 : Nat) (t1 : Nat → Nat) (ns : Nat) (sb sm : Nat → Nat) (ng : Nat) (gt gk gb : Nat → Nat), TXT σ n0 t0 n1 t1 ∧ PAR σ n0 t0 n1 t1 ∧ SHA σ ns sb sm ∧ SEE σ ng gt gk gb ∧ OTH σ ∧ Vok σ 46 (lfA t0 n1 t1 sb sm 255 ns) (nkK n1 t1) (nbB n0 t0) (bsK n1 t1) ∧ BEL σ n0 t0 n1 t1 ns sb sm
section FX
variable {rs is : List Nat} {σ τ : Mem}
theorem MX.toFr (h : MX rs is σ τ) : Fr (64 :: rs) σ τ := ⟨fun r hr => h.1 r (fun e => hr (by rw [e]; exact List.mem_cons_self)) (fun q => hr (List.mem_cons_of_mem _ q)), h.2.2⟩
theorem Fr.toX (h : Fr rs σ τ) (h64 : 64 ∉ rs) : MX rs [] σ τ := ⟨fun r _ hr => h.1 r hr, fun i _ => by rw [h.1 64 h64], h.2⟩
theorem Ms.fx {ns : Nat} {sb sm : Nat → Nat} (h : Ms σ ns sb sm) (f : MX rs is σ τ) (h0 : 73 ∉ rs) (h1 : 11 ∉ is) : Ms τ ns sb sm := by
  unfold Ms at h ⊢
  rw [f.1 73 (by decide) h0, f.2.1 11 h1]
  exact h
theorem Mg.fx {ng : Nat} {gt gk gb : Nat → Nat} (h : Mg σ ng gt gk gb) (f : MX rs is σ τ) (h0 : 78 ∉ rs) (h1 : 22 ∉ is) : Mg τ ng gt gk gb := by
  unfold Mg at h ⊢
  rw [f.1 78 (by decide) h0, f.2.1 22 h1]
  exact h
theorem Mb.fx {nb : Nat} {kd mk mn : Nat → Nat} (h : Mb σ nb kd mk mn) (f : MX rs is σ τ) (h0 : 71 ∉ rs) (h1 : 7 ∉ is) : Mb τ nb kd mk mn := by
  unfold Mb at h ⊢
  rw [f.1 71 (by decide) h0, f.2.1 7 h1]
  exact h
theorem Mk.fx {nk : Nat} {ma : Nat → Nat → Nat} {bs : Nat → Nat} (h : Mk σ nk ma bs) (f : MX rs is σ τ) (h0 : 72 ∉ rs) (h1 : 9 ∉ is) : Mk τ nk ma bs := by
  unfold Mk at h ⊢
  rw [f.1 72 (by decide) h0, f.2.1 9 h1]
  exact h
theorem Sht.fx {s : Nat} (h : Sht σ s) (f : MX rs is σ τ) (h0 : 65 ∉ rs ∧ 66 ∉ rs ∧ 67 ∉ rs) (h1 : 38 + 2 * s ∉ rs) (h2 : 39 + 2 * s ∉ rs) (hs : s < 4) : Sht τ s := by
  unfold Sht at h ⊢
  rw [f.1 65 (by decide) h0.1, f.1 66 (by decide) h0.2.1, f.1 67 (by decide) h0.2.2, f.1 (38 + 2 * s) (by omega) h1, f.1 (39 + 2 * s) (by omega) h2]
  exact h
theorem OTH.fx (h : OTH σ) (f : MX rs is σ τ) (h0 : ∀ r, r ∈ [0, 38, 39, 40, 41, 42, 43, 44, 45, 65, 66, 67] → r ∉ rs) (h1 : ∀ i, i ∈ [4, 13, 14] → i ∉ is) : OTH τ := by
  obtain ⟨a1, a2, a3, a4⟩ := h
  refine ⟨fun s hs => (a1 s hs).fx f ⟨h0 65 (by simp), h0 66 (by simp), h0 67 (by simp)⟩ (h0 _ ?_) (h0 _ ?_) hs, ?_, ?_, ?_⟩
  · simp only [List.mem_cons, List.not_mem_nil, or_false]; omega
  · simp only [List.mem_cons, List.not_mem_nil, or_false]; omega
  · rw [f.1 0 (by decide) (h0 0 (by simp)), f.2.1 4 (h1 4 (by simp))]
    exact a2
  · rw [f.2.1 13 (h1 13 (by simp))]
    exact a3
  · rw [f.2.1 14 (h1 14 (by simp))]
    exact a4
theorem Vok.fr {r : Nat} {lf : Nat → Nat → Bool} {nk P : Nat} {st : Nat → Nat} (h : Vok σ r lf nk P st) (f : Fr rs σ τ) (h0 : r ∉ rs) (h1 : r + 1 ∉ rs) (h2 : r + 2 ∉ rs) (h4 : r + 4 ∉ rs) (h5 : r + 5 ∉ rs) : Vok τ r lf nk P st := ⟨h.1.fr f h0 h1 h2, h.2.1.fr f h4, h.2.2.fr f h5⟩
theorem TXT.fx {n0 n1 : Nat} {t0 t1 : Nat → Nat} (h : TXT σ n0 t0 n1 t1) (f : MX rs is σ τ) (h0 : ∀ r, r ∈ [2, 3, 4, 5, 69, 70] → r ∉ rs) : TXT τ n0 t0 n1 t1 := by
  have F := f.toFr
  exact ⟨h.1.fr F (by simp [h0 2 (by simp)]) (by simp [h0 3 (by simp)]), h.2.1.fr F (by simp [h0 4 (by simp)]) (by simp [h0 5 (by simp)]), h.2.2.fr f (h0 69 (by simp)) (h0 70 (by simp))⟩
theorem PAR.fx {n0 n1 : Nat} {t0 t1 : Nat → Nat} (h : PAR σ n0 t0 n1 t1) (f : MX rs is σ τ) (h0 : ∀ r, r ∈ [6, 7, 8, 9, 10, 12, 13, 14, 15, 16, 17, 18, 19, 20] → r ∉ rs) : PAR τ n0 t0 n1 t1 := by
  have F := f.toFr
  obtain ⟨a1, a2, a3, a4⟩ := h
  refine ⟨by rw [f.1 6 (by decide) (h0 6 (by simp))]; exact a1, by rw [f.1 10 (by decide) (h0 10 (by simp))]; exact a2, a3.fr F (by simp [h0 6 (by simp)]) (by simp [h0 7 (by simp)]) (by simp [h0 8 (by simp)]) (by simp [h0 9 (by simp)]), a4.fr F (by simp [h0 10 (by simp)]) (by simp [h0 12 (by simp)]) (fun k hk => ?_)⟩
  have := h0 (13 + k) (by simp only [List.mem_cons, List.not_mem_nil, or_false]; omega)
  simp [this]
  omega
theorem SHA.fx {ns : Nat} {sb sm : Nat → Nat} (h : SHA σ ns sb sm) (f : MX rs is σ τ) (h0 : ∀ r, r ∈ [21, 22, 23, 25, 26, 27, 28, 29, 30, 31, 32, 73] → r ∉ rs) (h1 : 11 ∉ is) : SHA τ ns sb sm := by
  have F := f.toFr
  refine ⟨h.1.fr F (by simp [h0 21 (by simp)]) (by simp [h0 22 (by simp)]) (by simp [h0 23 (by simp)]), h.2.1.fx f (h0 73 (by simp)) h1, h.2.2.fr F (fun k hk => ?_)⟩
  have := h0 (25 + k) (by simp only [List.mem_cons, List.not_mem_nil, or_false]; omega)
  simp [this]
  omega
theorem SEE.fx {ng : Nat} {gt gk gb : Nat → Nat} (h : SEE σ ng gt gk gb) (f : MX rs is σ τ) (h0 : ∀ r, r ∈ [33, 34, 35, 36, 78] → r ∉ rs) (h1 : 22 ∉ is) : SEE τ ng gt gk gb := by
  have F := f.toFr
  exact ⟨h.1.fr F (by simp [h0 33 (by simp)]) (by simp [h0 34 (by simp)]) (by simp [h0 35 (by simp)]) (by simp [h0 36 (by simp)]), h.2.fx f (h0 78 (by simp)) h1⟩
theorem BEL.fx {n0 n1 ns : Nat} {t0 t1 sb sm : Nat → Nat} (h : BEL σ n0 t0 n1 t1 ns sb sm) (f : MX rs is σ τ) (h0 : 58 ∉ rs) : BEL τ n0 t0 n1 t1 ns sb sm := by
  unfold BEL at h ⊢
  rw [f.1 58 (by decide) h0, f.2.2]
  exact h
end FX
/-- scratch: rows and fields that no call leaves anything in -/
abbrev SC : List Nat := [49, 52, 53, 54, 55, 56, 57, 60, 61, 62, 63, 68, 71, 72, 74, 75, 76, 77, 79]
abbrev SI : List Nat := [7, 9, 19, 20, 21, 25]
theorem SC_no {l : List Nat} (h : ∀ r, r ∈ l → r ∉ SC) : ∀ r, r ∈ l → r ∉ SC := h
theorem INV.keep {σ τ : Mem} (h : INV σ) (f : MX SC SI σ τ) : INV τ := by
  obtain ⟨n0, t0, n1, t1, ns, sb, sm, ng, gt, gk, gb, a1, a2, a3, a4, a5, a6, a7⟩ := h
  exact ⟨n0, t0, n1, t1, ns, sb, sm, ng, gt, gk, gb, a1.fx f (by decide), a2.fx f (by decide), a3.fx f (by decide) (by decide), a4.fx f (by decide) (by decide), a5.fx f (by decide) (by decide), a6.fr f.toFr (by decide) (by decide) (by decide) (by decide) (by decide), a7.fx f (by decide)⟩
-- ranges
theorem inr {x : Int32} {n : Nat} (c : 0 ≤ x.toInt ∧ x.toInt < n) : ∃ j, j < n ∧ x = nI j := by
  have hr := x.toInt_lt
  refine ⟨x.toInt.toNat, by omega, ?_⟩
  apply Int32.toInt_inj.mp
  rw [nI_toInt (by omega)]
  omega
theorem nI_rng {j n : Nat} (h : j < n) (hn : n < 2 ^ 31) : 0 ≤ (nI j).toInt ∧ (nI j).toInt < n := by
  rw [nI_toInt (by omega)]
  omega
section RNG
variable {σ : Mem} {x : Int32} {nk nb : Nat}
theorem isTwo_eq : f_X10_isTwo σ x = some (if 0 ≤ x.toInt ∧ x.toInt < (2 : Nat) then 1 else 0) := by
  unfold f_X10_isTwo
  rw [in_lit (a := 0) (b := 1) (by decide) (by decide), bp_some]
  by_cases c : 0 ≤ x.toInt ∧ x.toInt < (2 : Nat)
  · rw [if_pos c, if_pos (show ((0 : Nat) : Int) ≤ x.toInt ∧ x.toInt ≤ ((1 : Nat) : Int) by omega)]; rfl
  · rw [if_neg c, if_neg (show ¬ (((0 : Nat) : Int) ≤ x.toInt ∧ x.toInt ≤ ((1 : Nat) : Int)) by omega)]; rfl
theorem isSheet_eq : f_X10_isSheet σ x = some (if 0 ≤ x.toInt ∧ x.toInt < (4 : Nat) then 1 else 0) := by
  unfold f_X10_isSheet
  rw [in_lit (a := 0) (b := 3) (by decide) (by decide), bp_some]
  by_cases c : 0 ≤ x.toInt ∧ x.toInt < (4 : Nat)
  · rw [if_pos c, if_pos (show ((0 : Nat) : Int) ≤ x.toInt ∧ x.toInt ≤ ((3 : Nat) : Int) by omega)]; rfl
  · rw [if_neg c, if_neg (show ¬ (((0 : Nat) : Int) ≤ x.toInt ∧ x.toInt ≤ ((3 : Nat) : Int)) by omega)]; rfl
theorem isStep_eq : f_X10_isStep σ x = some (if 0 ≤ x.toInt ∧ x.toInt < (100 : Nat) then 1 else 0) := by
  unfold f_X10_isStep
  rw [in_lit (a := 0) (b := 99) (by decide) (by decide), bp_some]
  by_cases c : 0 ≤ x.toInt ∧ x.toInt < (100 : Nat)
  · rw [if_pos c, if_pos (show ((0 : Nat) : Int) ≤ x.toInt ∧ x.toInt ≤ ((99 : Nat) : Int) by omega)]; rfl
  · rw [if_neg c, if_neg (show ¬ (((0 : Nat) : Int) ≤ x.toInt ∧ x.toInt ≤ ((99 : Nat) : Int)) by omega)]; rfl
theorem isBoatM_eq (h : σ.1 64 9 = nI nk) (hn : nk < 1000) : f_X10_isBoat σ x = some (if 0 ≤ x.toInt ∧ x.toInt < nk then 1 else 0) := by
  unfold f_X10_isBoat
  rw [h, in_eq, bp_some, m1_toInt hn]
  by_cases c : 0 ≤ x.toInt ∧ x.toInt < nk
  · rw [if_pos c, if_pos (show 0 ≤ x.toInt ∧ x.toInt ≤ (nk : Int) - 1 by omega)]; rfl
  · rw [if_neg c, if_neg (show ¬ (0 ≤ x.toInt ∧ x.toInt ≤ (nk : Int) - 1) by omega)]; rfl
theorem isBridgeM_eq (h : σ.1 64 7 = nI nb) (hn : nb < 1000) : f_X10_isBridge σ x = some (if 0 ≤ x.toInt ∧ x.toInt < nb then 1 else 0) := by
  unfold f_X10_isBridge
  rw [h, in_eq, bp_some, m1_toInt hn]
  by_cases c : 0 ≤ x.toInt ∧ x.toInt < nb
  · rw [if_pos c, if_pos (show 0 ≤ x.toInt ∧ x.toInt ≤ (nb : Int) - 1 by omega)]; rfl
  · rw [if_neg c, if_neg (show ¬ (0 ≤ x.toInt ∧ x.toInt ≤ (nb : Int) - 1) by omega)]; rfl
theorem isBoatC_eq (h : σ.1 10 2 = nI nk) (hn : nk < 1000) : f_X9_isBoat σ x = some (if 0 ≤ x.toInt ∧ x.toInt < nk then 1 else 0) := by
  unfold f_X9_isBoat
  rw [h, within_eq (by omega), bp_some]
  by_cases c : 0 ≤ x.toInt ∧ x.toInt < nk
  · rw [if_pos c]; rfl
  · rw [if_neg c]; rfl
theorem isBridgeC_eq (h : σ.1 6 3 = nI nb) (hn : nb < 1000) : f_X9_isBridge σ x = some (if 0 ≤ x.toInt ∧ x.toInt < nb then 1 else 0) := by
  unfold f_X9_isBridge
  rw [h, within_eq (by omega), bp_some]
  by_cases c : 0 ≤ x.toInt ∧ x.toInt < nb
  · rw [if_pos c]; rfl
  · rw [if_neg c]; rfl
end RNG
