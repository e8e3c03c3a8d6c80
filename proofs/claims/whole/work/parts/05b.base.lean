/-! 05b: words to reason about the semantics -/
def wp {α : Type} (x : Option α) (Q : α → Prop) : Prop := ∃ a, x = some a ∧ Q a
theorem wp_some {α : Type} {a : α} {Q : α → Prop} : wp (some a) Q ↔ Q a := ⟨fun ⟨_, h, q⟩ => by cases h; exact q, fun h => ⟨a, rfl, h⟩⟩
theorem wp_mono {α : Type} {x : Option α} {P Q : α → Prop} (h : wp x P) (hq : ∀ a, P a → Q a) : wp x Q := by
  obtain ⟨a, h1, h2⟩ := h
  exact ⟨a, h1, hq a h2⟩
theorem wp_ck {α : Type} {i : Int32} {n : Nat} {k : Option α} {Q : α → Prop} (h : vp_in i n) (hk : wp k Q) : wp (ck i n k) Q := by
  unfold ck
  rw [if_neg h]
  exact hk
theorem wp_ckN {α : Type} {j n : Nat} {k : Option α} {Q : α → Prop} (h : j < n) (hn : n < 2 ^ 31) (hk : wp k Q) : wp (ck (nI j) n k) Q := wp_ck (vp_in_nI h hn) hk
theorem wp_cz {α : Type} {i : Int32} {k : Option α} {Q : α → Prop} (h : ¬ i = 0) (hk : wp k Q) : wp (cz i k) Q := by
  unfold cz
  rw [if_neg h]
  exact hk
theorem wp_czl {α : Type} {i : Int64} {k : Option α} {Q : α → Prop} (h : ¬ i = 0) (hk : wp k Q) : wp (czl i k) Q := by
  unfold czl
  rw [if_neg h]
  exact hk
theorem wp_cb {α : Type} {v : Int32} {k : Option α} {Q : α → Prop} (h : v = 0 ∨ v = 1) (hk : wp k Q) : wp (cb v k) Q := by
  unfold cb
  rw [if_pos h]
  exact hk
theorem wp_cp {α : Type} {sp dp n : Int32} {n0 n1 : Nat} {k : Option α} {Q : α → Prop} (h1 : ¬ sp < 0) (h2 : ¬ dp < 0) (h3 : ¬ n < 0) (h4 : sp.toNatClampNeg + n.toNatClampNeg ≤ n0) (h5 : dp.toNatClampNeg + n.toNatClampNeg ≤ n1) (hk : wp k Q) : wp (cp sp dp n n0 n1 k) Q := by
  unfold cp
  rw [if_neg (by rintro (q | q | q | q | q) <;> first | exact h1 q | exact h2 q | exact h3 q | omega)]
  exact hk
theorem wp_lt {α : Type} {a : Mem} {k : Mem → Option α} {Q : α → Prop} (hk : wp (k a) Q) : wp (lt a k) Q := hk
theorem wp_bv {α : Type} {x : Option Mem} {k : Mem → Option α} {Q : α → Prop} (h : wp x (fun u => wp (k u) Q)) : wp (bv x k) Q := by
  obtain ⟨a, h1, h2⟩ := h
  rw [h1]
  exact h2
theorem wp_bp {α β : Type} {x : Option β} {k : β → Option α} {Q : α → Prop} (h : wp x (fun u => wp (k u) Q)) : wp (bp x k) Q := by
  obtain ⟨a, h1, h2⟩ := h
  rw [h1]
  exact h2
theorem wp_bi {α β : Type} {x : Option (β × Mem)} {k : β → Mem → Option α} {Q : α → Prop} (h : wp x (fun u => wp (k u.1 u.2) Q)) : wp (bi x k) Q := by
  obtain ⟨a, h1, h2⟩ := h
  rw [h1]
  exact h2
theorem wp_bpE {α β : Type} {x : Option β} {b : β} {k : β → Option α} {Q : α → Prop} (hx : x = some b) (h : wp (k b) Q) : wp (bp x k) Q := by
  rw [hx]
  exact h
theorem wp_ite {α : Type} {c : Prop} [Decidable c] {a b : Option α} {Q : α → Prop} (h1 : c → wp a Q) (h2 : ¬ c → wp b Q) : wp (if c then a else b) Q := by
  by_cases h : c
  · rw [if_pos h]; exact h1 h
  · rw [if_neg h]; exact h2 h
theorem wp_it {α : Type} {c : Prop} [Decidable c] {a b : Option α} {Q : α → Prop} (h : c) (h1 : wp a Q) : wp (if c then a else b) Q := by rw [if_pos h]; exact h1
theorem wp_ie {α : Type} {c : Prop} [Decidable c] {a b : Option α} {Q : α → Prop} (h : ¬ c) (h1 : wp b Q) : wp (if c then a else b) Q := by rw [if_neg h]; exact h1
theorem ck_in {α : Type} {i : Int32} {n : Nat} {k : Option α} (h : vp_in i n) : ck i n k = k := if_neg h
theorem ck_N {α : Type} {j n : Nat} {k : Option α} (h : j < n) (hn : n < 2 ^ 31) : ck (nI j) n k = k := ck_in (vp_in_nI h hn)
theorem cb_0 {α : Type} {k : Option α} : cb 0 k = k := rfl
theorem cb_1 {α : Type} {k : Option α} : cb 1 k = k := rfl
theorem bp_some {α β : Type} {b : β} {k : β → Option α} : bp (some b) k = k b := rfl
theorem bv_some {α : Type} {b : Mem} {k : Mem → Option α} : bv (some b) k = k b := rfl
theorem bi_some {α β : Type} {b : β} {m : Mem} {k : β → Mem → Option α} : bi (some (b, m)) k = k b m := rfl
theorem lt_eq {α : Type} {a : Mem} {k : Mem → Option α} : lt a k = k a := rfl
-- memory
theorem ms_same {σ : Mem} {r i : Nat} {x : Int32} : (ms σ r i x).1 r = upd (σ.1 r) i x := if_pos rfl
theorem ms_ne {σ : Mem} {r q i : Nat} {x : Int32} (h : q ≠ r) : (ms σ r i x).1 q = σ.1 q := if_neg h
theorem ms_2 {σ : Mem} {r i : Nat} {x : Int32} : (ms σ r i x).2 = σ.2 := rfl
theorem mw_same {σ : Mem} {r : Nat} {w : Nat → Int32} : (mw σ r w).1 r = w := if_pos rfl
theorem mw_ne {σ : Mem} {r q : Nat} {w : Nat → Int32} (h : q ≠ r) : (mw σ r w).1 q = σ.1 q := if_neg h
theorem mw_2 {σ : Mem} {r : Nat} {w : Nat → Int32} : (mw σ r w).2 = σ.2 := rfl
theorem mj_1 {σ : Mem} {i : Nat} {x : Int64} : (mj σ i x).1 = σ.1 := rfl
theorem mj_2 {σ : Mem} {i : Nat} {x : Int64} : (mj σ i x).2 = vp_updL σ.2 i x := rfl
theorem upd_s {f : Nat → Int32} {k : Nat} {x : Int32} : upd f k x k = x := if_pos rfl
theorem upd_n {f : Nat → Int32} {k j : Nat} {x : Int32} (h : j ≠ k) : upd f k x j = f j := if_neg h
/-- nothing but the rows rs changed -/
def Fr (rs : List Nat) (σ τ : Mem) : Prop := (∀ r, r ∉ rs → τ.1 r = σ.1 r) ∧ τ.2 = σ.2
theorem Fr.rf {rs : List Nat} {σ : Mem} : Fr rs σ σ := ⟨fun _ _ => rfl, rfl⟩
theorem Fr.tr {rs : List Nat} {σ τ υ : Mem} (h1 : Fr rs σ τ) (h2 : Fr rs τ υ) : Fr rs σ υ := ⟨fun r h => (h2.1 r h).trans (h1.1 r h), h2.2.trans h1.2⟩
theorem Fr.wide {rs qs : List Nat} {σ τ : Mem} (h : Fr rs σ τ) (hq : ∀ r, r ∈ rs → r ∈ qs) : Fr qs σ τ := ⟨fun r hr => h.1 r (fun q => hr (hq r q)), h.2⟩
theorem Fr.ms {rs : List Nat} {σ τ : Mem} {r i : Nat} {x : Int32} (h : Fr rs σ τ) (hr : r ∈ rs) : Fr rs σ (ms τ r i x) := ⟨fun q hq => (ms_ne (show q ≠ r from fun e => hq (by rw [e]; exact hr))).trans (h.1 q hq), h.2⟩
theorem Fr.mw {rs : List Nat} {σ τ : Mem} {r : Nat} {w : Nat → Int32} (h : Fr rs σ τ) (hr : r ∈ rs) : Fr rs σ (mw τ r w) := ⟨fun q hq => (mw_ne (show q ≠ r from fun e => hq (by rw [e]; exact hr))).trans (h.1 q hq), h.2⟩
-- numbers
theorem nI_sub1 (n : Nat) : nI (n + 1) + (-1 : Int32) = nI n := pk_m1 n
theorem sub_one (x : Int32) : x + (-1 : Int32) = x - 1 := (Int32.sub_eq_add_neg x 1).symm
theorem nI_neg1 {j : Nat} (h : j < 2 ^ 31) : ¬ nI j = (-1 : Int32) := by
  intro q
  have h1 := nI_toInt h
  rw [q] at h1
  have h2 : (-1 : Int32).toInt = -1 := by decide
  omega
theorem neg1_lt : (-1 : Int32) < 0 := by decide
theorem nI_lit (n : Nat) : (OfNat.ofNat n : Int32) = nI n := rfl
-- bits of eight
def bt (x : Int32) (f : Nat → Bool) : Prop := ∃ m, m < 256 ∧ x = nI m ∧ ∀ k, k < 8 → m.testBit k = f k
theorem bt_0 : bt 0 (fun _ => false) := ⟨0, by decide, rfl, fun k _ => Nat.zero_testBit k⟩
theorem bt_congr {x : Int32} {f g : Nat → Bool} (h : bt x f) (e : ∀ k, k < 8 → f k = g k) : bt x g := by
  obtain ⟨m, h1, h2, h3⟩ := h
  exact ⟨m, h1, h2, fun k hk => (h3 k hk).trans (e k hk)⟩
theorem bts_set : ∀ m, m < 256 → ∀ k, k < 8 → nI m ||| ((1 : Int32) <<< (nI k &&& 31)) = nI (m ||| 2 ^ k) ∧ m ||| 2 ^ k < 256 := by decide +kernel
theorem bts_clr : ∀ m, m < 256 → ∀ k, k < 8 → nI m &&& (((1 : Int32) <<< (nI k &&& 31)) ^^^ (-1 : Int32)) = nI (m &&& (255 ^^^ 2 ^ k)) ∧ m &&& (255 ^^^ 2 ^ k) < 256 := by decide +kernel
theorem bts_tst : ∀ m, m < 256 → ∀ k, k < 8 → ((nI m >>> (nI k &&& 31)) &&& (1 : Int32)) = if m.testBit k = true then 1 else 0 := by decide +kernel
theorem bts_one : ∀ k, k < 8 → ∀ j, j < 8 → (2 ^ k).testBit j = decide (j = k) ∧ (255 ^^^ 2 ^ k).testBit j = decide (j ≠ k) := by decide +kernel
theorem bt_set {x : Int32} {f : Nat → Bool} {k : Nat} (h : bt x f) (hk : k < 8) : bt (x ||| ((1 : Int32) <<< (nI k &&& 31))) (fun j => f j || decide (j = k)) := by
  obtain ⟨m, h1, rfl, h3⟩ := h
  obtain ⟨e, hl⟩ := bts_set m h1 k hk
  refine ⟨_, hl, e, fun j hj => ?_⟩
  rw [Nat.testBit_or, h3 j hj, (bts_one k hk j hj).1]
theorem bt_clr {x : Int32} {f : Nat → Bool} {k : Nat} (h : bt x f) (hk : k < 8) : bt (x &&& (((1 : Int32) <<< (nI k &&& 31)) ^^^ (-1 : Int32))) (fun j => f j && decide (j ≠ k)) := by
  obtain ⟨m, h1, rfl, h3⟩ := h
  obtain ⟨e, hl⟩ := bts_clr m h1 k hk
  refine ⟨_, hl, e, fun j hj => ?_⟩
  rw [Nat.testBit_and, h3 j hj, (bts_one k hk j hj).2]
theorem nI_and (a b : Nat) : nI a &&& nI b = nI (a &&& b) := by
  apply Int32.toBitVec_inj.mp
  show BitVec.ofNat 32 a &&& BitVec.ofNat 32 b = BitVec.ofNat 32 (a &&& b)
  apply BitVec.eq_of_getLsbD_eq
  intro i hi
  simp [BitVec.getLsbD_and, BitVec.getLsbD_ofNat, Nat.testBit_and, hi]
theorem bt_and {x y : Int32} {f g : Nat → Bool} (h : bt x f) (h2 : bt y g) : bt (x &&& y) (fun j => f j && g j) := by
  obtain ⟨m, a1, rfl, a3⟩ := h
  obtain ⟨n, b1, rfl, b3⟩ := h2
  refine ⟨m &&& n, Nat.lt_of_le_of_lt Nat.and_le_left a1, nI_and m n, fun j hj => ?_⟩
  rw [Nat.testBit_and, a3 j hj, b3 j hj]
theorem bt_tst {x : Int32} {f : Nat → Bool} {k : Nat} (h : bt x f) (hk : k < 8) : ((x >>> (nI k &&& 31)) &&& (1 : Int32)) = if f k = true then 1 else 0 := by
  obtain ⟨m, h1, rfl, h3⟩ := h
  rw [bts_tst m h1 k hk, h3 k hk]
/-- rows as of step by step: fill -/
theorem fill_loop {n r : Nat} {v : Int32} (hn : n < 2 ^ 31) : ∀ (m i : Nat) (σ : Mem), i ≤ n → n < i + m → wp (f_J7_fill_53178_b5 n m σ r v (nI i) (nI n)) (fun τ => Fr [r] σ τ ∧ ∀ j, τ.1 r j = if i ≤ j ∧ j < n then v else σ.1 r j) := by
  intro m
  induction m with
  | zero => intro i σ h1 h2; omega
  | succ m ih =>
    intro i σ h1 h2
    rw [f_J7_fill_53178_b5]
    refine wp_ite (fun c => ?_) (fun c => ?_)
    · rw [nI_leI (by omega) (by omega)] at c
      rw [wp_some]
      exact ⟨Fr.rf, fun j => by rw [if_neg (by omega)]⟩
    · have hi : i < n := by
        rcases Nat.lt_or_ge i n with q | q
        · exact q
        · exact absurd ((nI_leI (by omega) (by omega)).mpr q) c
      refine wp_ckN hi hn (wp_lt ?_)
      rw [nI_clamp (by omega), nI_1]
      refine wp_mono (ih (i + 1) _ (by omega) (by omega)) (fun τ h => ?_)
      refine ⟨(Fr.rf.ms (List.mem_singleton.mpr rfl)).tr h.1, fun j => ?_⟩
      rw [h.2 j, ms_same]
      by_cases c1 : i + 1 ≤ j ∧ j < n
      · rw [if_pos c1, if_pos (by omega)]
      · rw [if_neg c1]
        by_cases c2 : j = i
        · subst c2
          rw [upd_s, if_pos (by omega)]
        · rw [upd_n c2, if_neg (by omega)]
theorem fill_wp {σ : Mem} {n r : Nat} {v : Int32} (hn : n < 300) : wp (f_J7_fill_53178 σ r n v) (fun τ => Fr [r] σ τ ∧ ∀ j, j < n → τ.1 r j = v) := by
  unfold f_J7_fill_53178
  refine wp_mono (fill_loop (by omega) 300 0 σ (Nat.zero_le _) (by omega)) (fun τ h => ⟨h.1, fun j hj => by rw [h.2 j, if_pos (by omega)]⟩)
-- the least of bits
theorem leastOf_mem {σ τ : Mem} {n : Nat} {x y : Int32} : f_X8_leastOf_b8 σ n x y = f_X8_leastOf_b8 τ n x y := by
  induction n generalizing y with
  | zero => rfl
  | succ n ih =>
    rw [f_X8_leastOf_b8, f_X8_leastOf_b8, ih]
theorem leastOf_all : ∀ m, m < 256 → f_X8_leastOf ((fun _ _ => 0, fun _ => 0) : Mem) (nI m) = some (if lst m.testBit 8 < 8 then nI (lst m.testBit 8) else (-1 : Int32)) := by decide +kernel
theorem bt_least {σ : Mem} {x : Int32} {f : Nat → Bool} (h : bt x f) : f_X8_leastOf σ x = some (if lst f 8 < 8 then nI (lst f 8) else (-1 : Int32)) := by
  obtain ⟨m, h1, rfl, h3⟩ := h
  rw [← lst_congr h3, ← leastOf_all m h1]
  unfold f_X8_leastOf
  rw [leastOf_mem (τ := ((fun _ _ => 0, fun _ => 0) : Mem))]
theorem lst_cut {f : Nat → Bool} {nk : Nat} (h : nk ≤ 8) : lst (fun k => decide (k < nk) && f k) 8 = if lst f nk < nk then lst f nk else 8 := by
  by_cases c : lst f nk < nk
  · rw [if_pos c]
    refine lst_eq (by omega) (by rw [decide_eq_true c, lst_yes c]; rfl) (fun k hk => ?_)
    rw [lst_no hk, Bool.and_false]
  · rw [if_neg c]
    refine lst_none (fun k hk => ?_)
    by_cases c2 : k < nk
    · rw [lst_no (f := f) (n := nk) (k := k) (by have := lst_le f nk; omega), Bool.and_false]
    · rw [decide_eq_false c2]
      rfl
