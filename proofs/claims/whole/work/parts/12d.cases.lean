/-! 12d: the cases of the law's switch -/
section LAW
variable {p : Program} {l : Launch} {e : Env} {s : State} {m : MethodId} {below : List Frame} {meth : Method} {c : Code} {H : Heap} {locs : List Loc} {cells slots : Nat} {Q : State → Prop} {D : va_G} {cy : Nat → ClassId} {ad : Nat → Nat} {ta tb b L i : Nat} {xs : Nat → Int32} {ls : Array Slot} {σ : Mem} {rest : List Value}
theorem lw_rd (F : CallFix p m c cL_law 4 s #[Value.ref b] wT RL) (hX : va_X b L xs s s.heap) (hbl : b < s.heap.size) (hbA : ¬ AA ad b) (hS : va_S (AA ad) s.heap H locs) (hl : lv_has ls 4 [(0, .ref b), (1, .ref (ad 0)), (2, .ref (ad 64)), (3, .int (nI i))]) (hi : i + 6 ≤ L) (hL : L ≤ 3072) {pc : Nat} (k : Nat) (hk : k < 6) {z : Int} (hz : Int32.ofInt z = nI k) (d0 : decode cL_law pc = .ok (.aload_n 0, 1)) (d1 : decode cL_law (pc + 1) = .ok (.iload_n 3, 1)) (d2 : decode cL_law (pc + 2) = .ok (.iconst z, 1)) (d3 : decode cL_law (pc + 3) = .ok (.iadd, 1)) (d4 : decode cL_law (pc + 4) = .ok (.iaload, 1))
    (kk : W p l e room_1 s m #[Value.ref b] below meth c H locs cells slots Q (F0 m (pc + 5) ls (.int (xs (i + k)) :: rest))) : W p l e room_1 s m #[Value.ref b] below meth c H locs cells slots Q (F0 m pc ls rest) := by
  refine lv_aload_n F.1 F.2.1 d0 rfl (lv_at hl 0 rfl) ?_
  refine lv_iload_n F.1 F.2.1 d1 rfl (lv_at hl 3 rfl) ?_
  refine lv_iconst (v := nI k) F.1 F.2.1 d2 hz ?_
  refine lv_iadd F.1 F.2.1 d3 ?_
  rw [nI_add]
  refine va_sld F.1 F.2.1 hX hbl hbA hS (vp_in_nI (by omega) (by omega)) d4 ?_
  rw [nI_clamp (by omega)]
  exact kk
set_option maxHeartbeats 4000000 in
set_option maxRecDepth 100000 in
theorem lc_type (F : CallFix p m c cL_law 4 s #[Value.ref b] wT RL) (hE : EV D cy ad ta tb s) (hI : AdI ad) (hX : va_X b L xs s s.heap) (hbl : b < s.heap.size) (hbA : ¬ AA ad b) (hl : lv_has ls 4 [(0, .ref b), (1, .ref (ad 0)), (2, .ref (ad 64)), (3, .int (nI i))]) (hi : i + 6 ≤ L) (hL : L ≤ 3072) (hB : Bd D cy ad σ s.heap H locs) (hv : INV σ)
    (kk : ∀ (σ1 : Mem) (H1 : Heap) (locs1 : List Loc), INV σ1 → Bd D cy ad σ1 s.heap H1 locs1 → W p l e room_1 s m #[Value.ref b] below meth c H1 locs1 80 1950 Q (F0 m 1231 ls [])) : W p l e room_1 s m #[Value.ref b] below meth c H locs 80 1950 Q (F0 m 180 ls []) := by
  obtain ⟨o, ho, o2, ho2, he, hv2⟩ := op_type hv (xs (i + 1)) (xs (i + 2))
  have F' : CallFix p m c cL_law 4 s #[Value.ref b] wG RL := ⟨F.1, F.2.1, F.2.2.1, F.2.2.2.1, fun w h => F.2.2.2.2 w (wt_G h)⟩
  refine lv_aload_n F.1 F.2.1 dL_law_180 rfl (lv_at hl 1 rfl) ?_
  refine lw_rd F hX hbl hbA hB.2 hl hi hL 1 (by decide) (by decide) dL_law_181 dL_law_182 dL_law_183 dL_law_184 dL_law_185 ?_
  refine lw_rd F hX hbl hbA hB.2 hl hi hL 2 (by decide) (by decide) dL_law_186 dL_law_187 dL_law_188 dL_law_189 dL_law_190 ?_
  refine q_ci hB (q_goV (As := [.int (xs (i + 1)), .int (xs (i + 2))]) F' hE hB (k_X9_type hI σ _ _ ho) (cwV 2 F.2.2.2.2 (gt_V wt_m_RL_13 wt_i_X9_type wt_s_X9_type (wt_G wm_n_RX9) wt_c_X9_type) rfl rfl rfl (by decide +kernel) ⟨(Nat.le_of_ble_eq_true rfl), (Nat.le_of_ble_eq_true rfl)⟩) rfl po_0 rfl hl.1 rfl (Nat.le_of_ble_eq_true rfl) dL_law_191 ⟨(Nat.le_of_ble_eq_true rfl), (Nat.le_of_ble_eq_true rfl)⟩) (fun H locs hB => ?_)
  refine lv_aload_n F.1 F.2.1 dL_law_194 rfl (lv_at hl 2 rfl) ?_
  refine lw_rd F hX hbl hbA hB.2 hl hi hL 1 (by decide) (by decide) dL_law_195 dL_law_196 dL_law_197 dL_law_198 dL_law_199 ?_
  refine lw_rd F hX hbl hbA hB.2 hl hi hL 2 (by decide) (by decide) dL_law_200 dL_law_201 dL_law_202 dL_law_203 dL_law_204 ?_
  refine q_ci hB (q_goV (As := [.int (xs (i + 1)), .int (xs (i + 2))]) F' hE hB (k_X10_type hI o.2 _ _ ho2) (cwV 2 F.2.2.2.2 (gt_V wt_m_RL_17 wt_i_X10_type wt_s_X10_type (wt_G wm_n_RX10) wt_c_X10_type) rfl rfl rfl (by decide +kernel) ⟨(Nat.le_of_ble_eq_true rfl), (Nat.le_of_ble_eq_true rfl)⟩) rfl po_64 rfl hl.1 rfl (Nat.le_of_ble_eq_true rfl) dL_law_205 ⟨(Nat.le_of_ble_eq_true rfl), (Nat.le_of_ble_eq_true rfl)⟩) (fun H locs hB => ?_)
  exact lv_icmp_eq (tgt := 1231) F.1 F.2.1 dL_law_208 (by decide) (fun _ => kk o2.2 H locs hv2 hB) (fun c9 => absurd he.symm c9)
set_option maxHeartbeats 4000000 in
set_option maxRecDepth 100000 in
theorem lc_wipe (F : CallFix p m c cL_law 4 s #[Value.ref b] wT RL) (hE : EV D cy ad ta tb s) (hI : AdI ad) (hX : va_X b L xs s s.heap) (hbl : b < s.heap.size) (hbA : ¬ AA ad b) (hl : lv_has ls 4 [(0, .ref b), (1, .ref (ad 0)), (2, .ref (ad 64)), (3, .int (nI i))]) (hi : i + 6 ≤ L) (hL : L ≤ 3072) (hB : Bd D cy ad σ s.heap H locs) (hv : INV σ)
    (kk : ∀ (σ1 : Mem) (H1 : Heap) (locs1 : List Loc), INV σ1 → Bd D cy ad σ1 s.heap H1 locs1 → W p l e room_1 s m #[Value.ref b] below meth c H1 locs1 80 1950 Q (F0 m 1231 ls [])) : W p l e room_1 s m #[Value.ref b] below meth c H locs 80 1950 Q (F0 m 213 ls []) := by
  obtain ⟨o, ho, o2, ho2, he, hv2⟩ := op_wipe hv (xs (i + 1))
  have F' : CallFix p m c cL_law 4 s #[Value.ref b] wG RL := ⟨F.1, F.2.1, F.2.2.1, F.2.2.2.1, fun w h => F.2.2.2.2 w (wt_G h)⟩
  refine lv_aload_n F.1 F.2.1 dL_law_213 rfl (lv_at hl 1 rfl) ?_
  refine lw_rd F hX hbl hbA hB.2 hl hi hL 1 (by decide) (by decide) dL_law_214 dL_law_215 dL_law_216 dL_law_217 dL_law_218 ?_
  refine q_ci hB (q_goV (As := [.int (xs (i + 1))]) F' hE hB (k_X9_wipe hI σ _ ho) (cwV 1 F.2.2.2.2 (gt_V wt_m_RL_18 wt_i_X9_wipe wt_s_X9_wipe (wt_G wm_n_RX9) wt_c_X9_wipe) rfl rfl rfl (by decide +kernel) ⟨(Nat.le_of_ble_eq_true rfl), (Nat.le_of_ble_eq_true rfl)⟩) rfl po_0 rfl hl.1 rfl (Nat.le_of_ble_eq_true rfl) dL_law_219 ⟨(Nat.le_of_ble_eq_true rfl), (Nat.le_of_ble_eq_true rfl)⟩) (fun H locs hB => ?_)
  refine lv_aload_n F.1 F.2.1 dL_law_222 rfl (lv_at hl 2 rfl) ?_
  refine lw_rd F hX hbl hbA hB.2 hl hi hL 1 (by decide) (by decide) dL_law_223 dL_law_224 dL_law_225 dL_law_226 dL_law_227 ?_
  refine q_ci hB (q_goV (As := [.int (xs (i + 1))]) F' hE hB (k_X10_wipe hI o.2 _ ho2) (cwV 1 F.2.2.2.2 (gt_V wt_m_RL_22 wt_i_X10_wipe wt_s_X10_wipe (wt_G wm_n_RX10) wt_c_X10_wipe) rfl rfl rfl (by decide +kernel) ⟨(Nat.le_of_ble_eq_true rfl), (Nat.le_of_ble_eq_true rfl)⟩) rfl po_64 rfl hl.1 rfl (Nat.le_of_ble_eq_true rfl) dL_law_228 ⟨(Nat.le_of_ble_eq_true rfl), (Nat.le_of_ble_eq_true rfl)⟩) (fun H locs hB => ?_)
  exact lv_icmp_eq (tgt := 1231) F.1 F.2.1 dL_law_231 (by decide) (fun _ => kk o2.2 H locs hv2 hB) (fun c9 => absurd he.symm c9)
set_option maxHeartbeats 4000000 in
set_option maxRecDepth 100000 in
theorem lc_undo (F : CallFix p m c cL_law 4 s #[Value.ref b] wT RL) (hE : EV D cy ad ta tb s) (hI : AdI ad) (hX : va_X b L xs s s.heap) (hbl : b < s.heap.size) (hbA : ¬ AA ad b) (hl : lv_has ls 4 [(0, .ref b), (1, .ref (ad 0)), (2, .ref (ad 64)), (3, .int (nI i))]) (hi : i + 6 ≤ L) (hL : L ≤ 3072) (hB : Bd D cy ad σ s.heap H locs) (hv : INV σ)
    (kk : ∀ (σ1 : Mem) (H1 : Heap) (locs1 : List Loc), INV σ1 → Bd D cy ad σ1 s.heap H1 locs1 → W p l e room_1 s m #[Value.ref b] below meth c H1 locs1 80 1950 Q (F0 m 1231 ls [])) : W p l e room_1 s m #[Value.ref b] below meth c H locs 80 1950 Q (F0 m 236 ls []) := by
  obtain ⟨o, ho, o2, ho2, he, hv2⟩ := op_undo hv (xs (i + 1))
  have F' : CallFix p m c cL_law 4 s #[Value.ref b] wG RL := ⟨F.1, F.2.1, F.2.2.1, F.2.2.2.1, fun w h => F.2.2.2.2 w (wt_G h)⟩
  refine lv_aload_n F.1 F.2.1 dL_law_236 rfl (lv_at hl 1 rfl) ?_
  refine lw_rd F hX hbl hbA hB.2 hl hi hL 1 (by decide) (by decide) dL_law_237 dL_law_238 dL_law_239 dL_law_240 dL_law_241 ?_
  refine q_ci hB (q_goV (As := [.int (xs (i + 1))]) F' hE hB (k_X9_undo hI σ _ ho) (cwV 1 F.2.2.2.2 (gt_V wt_m_RL_23 wt_i_X9_undo wt_s_X9_undo (wt_G wm_n_RX9) wt_c_X9_undo) rfl rfl rfl (by decide +kernel) ⟨(Nat.le_of_ble_eq_true rfl), (Nat.le_of_ble_eq_true rfl)⟩) rfl po_0 rfl hl.1 rfl (Nat.le_of_ble_eq_true rfl) dL_law_242 ⟨(Nat.le_of_ble_eq_true rfl), (Nat.le_of_ble_eq_true rfl)⟩) (fun H locs hB => ?_)
  refine lv_aload_n F.1 F.2.1 dL_law_245 rfl (lv_at hl 2 rfl) ?_
  refine lw_rd F hX hbl hbA hB.2 hl hi hL 1 (by decide) (by decide) dL_law_246 dL_law_247 dL_law_248 dL_law_249 dL_law_250 ?_
  refine q_ci hB (q_goV (As := [.int (xs (i + 1))]) F' hE hB (k_X10_undo hI o.2 _ ho2) (cwV 1 F.2.2.2.2 (gt_V wt_m_RL_26 wt_i_X10_undo wt_s_X10_undo (wt_G wm_n_RX10) wt_c_X10_undo) rfl rfl rfl (by decide +kernel) ⟨(Nat.le_of_ble_eq_true rfl), (Nat.le_of_ble_eq_true rfl)⟩) rfl po_64 rfl hl.1 rfl (Nat.le_of_ble_eq_true rfl) dL_law_251 ⟨(Nat.le_of_ble_eq_true rfl), (Nat.le_of_ble_eq_true rfl)⟩) (fun H locs hB => ?_)
  exact lv_icmp_eq (tgt := 1231) F.1 F.2.1 dL_law_254 (by decide) (fun _ => kk o2.2 H locs hv2 hB) (fun c9 => absurd he.symm c9)
set_option maxHeartbeats 4000000 in
set_option maxRecDepth 100000 in
theorem lc_fault (F : CallFix p m c cL_law 4 s #[Value.ref b] wT RL) (hE : EV D cy ad ta tb s) (hI : AdI ad) (hX : va_X b L xs s s.heap) (hbl : b < s.heap.size) (hbA : ¬ AA ad b) (hl : lv_has ls 4 [(0, .ref b), (1, .ref (ad 0)), (2, .ref (ad 64)), (3, .int (nI i))]) (hi : i + 6 ≤ L) (hL : L ≤ 3072) (hB : Bd D cy ad σ s.heap H locs) (hv : INV σ)
    (kk : ∀ (σ1 : Mem) (H1 : Heap) (locs1 : List Loc), INV σ1 → Bd D cy ad σ1 s.heap H1 locs1 → W p l e room_1 s m #[Value.ref b] below meth c H1 locs1 80 1950 Q (F0 m 1231 ls [])) : W p l e room_1 s m #[Value.ref b] below meth c H locs 80 1950 Q (F0 m 259 ls []) := by
  obtain ⟨o, ho, o2, ho2, he, hv2⟩ := op_fault hv (xs (i + 1))
  have F' : CallFix p m c cL_law 4 s #[Value.ref b] wG RL := ⟨F.1, F.2.1, F.2.2.1, F.2.2.2.1, fun w h => F.2.2.2.2 w (wt_G h)⟩
  refine lv_aload_n F.1 F.2.1 dL_law_259 rfl (lv_at hl 1 rfl) ?_
  refine lw_rd F hX hbl hbA hB.2 hl hi hL 1 (by decide) (by decide) dL_law_260 dL_law_261 dL_law_262 dL_law_263 dL_law_264 ?_
  refine q_ci hB (q_goV (As := [.int (xs (i + 1))]) F' hE hB (k_X9_fault hI σ _ ho) (cwV 1 F.2.2.2.2 (gt_V wt_m_RL_27 (wt_G wm_i_X9_fault) (wt_G wm_s_X9_fault) (wt_G wm_n_RX9) (wt_G wm_c_X9_fault)) rfl rfl rfl (by decide +kernel) ⟨(Nat.le_of_ble_eq_true rfl), (Nat.le_of_ble_eq_true rfl)⟩) rfl po_0 rfl hl.1 rfl (Nat.le_of_ble_eq_true rfl) dL_law_265 ⟨(Nat.le_of_ble_eq_true rfl), (Nat.le_of_ble_eq_true rfl)⟩) (fun H locs hB => ?_)
  refine lv_aload_n F.1 F.2.1 dL_law_268 rfl (lv_at hl 2 rfl) ?_
  refine lw_rd F hX hbl hbA hB.2 hl hi hL 1 (by decide) (by decide) dL_law_269 dL_law_270 dL_law_271 dL_law_272 dL_law_273 ?_
  refine q_ci hB (q_goV (As := [.int (xs (i + 1))]) F' hE hB (k_X10_fault hI σ _ ho2) (cwV 1 F.2.2.2.2 (gt_V wt_m_RL_30 wt_i_X10_fault wt_s_X10_fault (wt_G wm_n_RX10) wt_c_X10_fault) rfl rfl rfl (by decide +kernel) ⟨(Nat.le_of_ble_eq_true rfl), (Nat.le_of_ble_eq_true rfl)⟩) rfl po_64 rfl hl.1 rfl (Nat.le_of_ble_eq_true rfl) dL_law_274 ⟨(Nat.le_of_ble_eq_true rfl), (Nat.le_of_ble_eq_true rfl)⟩) (fun H locs hB => ?_)
  exact lv_icmp_eq (tgt := 1231) F.1 F.2.1 dL_law_277 (by decide) (fun _ => kk o2.2 H locs hv2 hB) (fun c9 => absurd he.symm c9)
set_option maxHeartbeats 4000000 in
set_option maxRecDepth 100000 in
theorem lc_bridge (F : CallFix p m c cL_law 4 s #[Value.ref b] wT RL) (hE : EV D cy ad ta tb s) (hI : AdI ad) (hX : va_X b L xs s s.heap) (hbl : b < s.heap.size) (hbA : ¬ AA ad b) (hl : lv_has ls 4 [(0, .ref b), (1, .ref (ad 0)), (2, .ref (ad 64)), (3, .int (nI i))]) (hi : i + 6 ≤ L) (hL : L ≤ 3072) (hB : Bd D cy ad σ s.heap H locs) (hv : INV σ)
    (kk : ∀ (σ1 : Mem) (H1 : Heap) (locs1 : List Loc), INV σ1 → Bd D cy ad σ1 s.heap H1 locs1 → W p l e room_1 s m #[Value.ref b] below meth c H1 locs1 80 1950 Q (F0 m 1231 ls [])) : W p l e room_1 s m #[Value.ref b] below meth c H locs 80 1950 Q (F0 m 282 ls []) := by
  obtain ⟨o, ho, o2, ho2, he, hv2⟩ := op_bridge hv (xs (i + 1)) (xs (i + 2))
  have F' : CallFix p m c cL_law 4 s #[Value.ref b] wG RL := ⟨F.1, F.2.1, F.2.2.1, F.2.2.2.1, fun w h => F.2.2.2.2 w (wt_G h)⟩
  refine lv_aload_n F.1 F.2.1 dL_law_282 rfl (lv_at hl 1 rfl) ?_
  refine lw_rd F hX hbl hbA hB.2 hl hi hL 1 (by decide) (by decide) dL_law_283 dL_law_284 dL_law_285 dL_law_286 dL_law_287 ?_
  refine lw_rd F hX hbl hbA hB.2 hl hi hL 2 (by decide) (by decide) dL_law_288 dL_law_289 dL_law_290 dL_law_291 dL_law_292 ?_
  refine q_ci hB (q_goV (As := [.int (xs (i + 1)), .int (xs (i + 2))]) F' hE hB (k_X9_bridge hI σ _ _ ho) (cwV 2 F.2.2.2.2 (gt_V wt_m_RL_31 wt_i_X9_bridge wt_s_X9_bridge (wt_G wm_n_RX9) wt_c_X9_bridge) rfl rfl rfl (by decide +kernel) ⟨(Nat.le_of_ble_eq_true rfl), (Nat.le_of_ble_eq_true rfl)⟩) rfl po_0 rfl hl.1 rfl (Nat.le_of_ble_eq_true rfl) dL_law_293 ⟨(Nat.le_of_ble_eq_true rfl), (Nat.le_of_ble_eq_true rfl)⟩) (fun H locs hB => ?_)
  refine lv_aload_n F.1 F.2.1 dL_law_296 rfl (lv_at hl 2 rfl) ?_
  refine lw_rd F hX hbl hbA hB.2 hl hi hL 1 (by decide) (by decide) dL_law_297 dL_law_298 dL_law_299 dL_law_300 dL_law_301 ?_
  refine lw_rd F hX hbl hbA hB.2 hl hi hL 2 (by decide) (by decide) dL_law_302 dL_law_303 dL_law_304 dL_law_305 dL_law_306 ?_
  refine q_ci hB (q_goV (As := [.int (xs (i + 1)), .int (xs (i + 2))]) F' hE hB (k_X10_bridge hI σ _ _ ho2) (cwV 2 F.2.2.2.2 (gt_V wt_m_RL_34 wt_i_X10_bridge wt_s_X10_bridge (wt_G wm_n_RX10) wt_c_X10_bridge) rfl rfl rfl (by decide +kernel) ⟨(Nat.le_of_ble_eq_true rfl), (Nat.le_of_ble_eq_true rfl)⟩) rfl po_64 rfl hl.1 rfl (Nat.le_of_ble_eq_true rfl) dL_law_307 ⟨(Nat.le_of_ble_eq_true rfl), (Nat.le_of_ble_eq_true rfl)⟩) (fun H locs hB => ?_)
  exact lv_icmp_eq (tgt := 1231) F.1 F.2.1 dL_law_310 (by decide) (fun _ => kk o2.2 H locs hv2 hB) (fun c9 => absurd he.symm c9)
set_option maxHeartbeats 4000000 in
set_option maxRecDepth 100000 in
theorem lc_boat (F : CallFix p m c cL_law 4 s #[Value.ref b] wT RL) (hE : EV D cy ad ta tb s) (hI : AdI ad) (hX : va_X b L xs s s.heap) (hbl : b < s.heap.size) (hbA : ¬ AA ad b) (hl : lv_has ls 4 [(0, .ref b), (1, .ref (ad 0)), (2, .ref (ad 64)), (3, .int (nI i))]) (hi : i + 6 ≤ L) (hL : L ≤ 3072) (hB : Bd D cy ad σ s.heap H locs) (hv : INV σ)
    (kk : ∀ (σ1 : Mem) (H1 : Heap) (locs1 : List Loc), INV σ1 → Bd D cy ad σ1 s.heap H1 locs1 → W p l e room_1 s m #[Value.ref b] below meth c H1 locs1 80 1950 Q (F0 m 1231 ls [])) : W p l e room_1 s m #[Value.ref b] below meth c H locs 80 1950 Q (F0 m 315 ls []) := by
  obtain ⟨o, ho, o2, ho2, he, hv2⟩ := op_boat hv (xs (i + 1)) (xs (i + 2))
  have F' : CallFix p m c cL_law 4 s #[Value.ref b] wG RL := ⟨F.1, F.2.1, F.2.2.1, F.2.2.2.1, fun w h => F.2.2.2.2 w (wt_G h)⟩
  refine lv_aload_n F.1 F.2.1 dL_law_315 rfl (lv_at hl 1 rfl) ?_
  refine lw_rd F hX hbl hbA hB.2 hl hi hL 1 (by decide) (by decide) dL_law_316 dL_law_317 dL_law_318 dL_law_319 dL_law_320 ?_
  refine lw_rd F hX hbl hbA hB.2 hl hi hL 2 (by decide) (by decide) dL_law_321 dL_law_322 dL_law_323 dL_law_324 dL_law_325 ?_
  refine q_ci hB (q_goV (As := [.int (xs (i + 1)), .int (xs (i + 2))]) F' hE hB (k_X9_boat hI σ _ _ ho) (cwV 2 F.2.2.2.2 (gt_V wt_m_RL_35 (wt_G wm_i_X9_boat) (wt_G wm_s_X9_boat) (wt_G wm_n_RX9) (wt_G wm_c_X9_boat)) rfl rfl rfl (by decide +kernel) ⟨(Nat.le_of_ble_eq_true rfl), (Nat.le_of_ble_eq_true rfl)⟩) rfl po_0 rfl hl.1 rfl (Nat.le_of_ble_eq_true rfl) dL_law_326 ⟨(Nat.le_of_ble_eq_true rfl), (Nat.le_of_ble_eq_true rfl)⟩) (fun H locs hB => ?_)
  refine lv_aload_n F.1 F.2.1 dL_law_329 rfl (lv_at hl 2 rfl) ?_
  refine lw_rd F hX hbl hbA hB.2 hl hi hL 1 (by decide) (by decide) dL_law_330 dL_law_331 dL_law_332 dL_law_333 dL_law_334 ?_
  refine lw_rd F hX hbl hbA hB.2 hl hi hL 2 (by decide) (by decide) dL_law_335 dL_law_336 dL_law_337 dL_law_338 dL_law_339 ?_
  refine q_ci hB (q_goV (As := [.int (xs (i + 1)), .int (xs (i + 2))]) F' hE hB (k_X10_boat hI σ _ _ ho2) (cwV 2 F.2.2.2.2 (gt_V wt_m_RL_38 wt_i_X10_boat wt_s_X10_boat (wt_G wm_n_RX10) wt_c_X10_boat) rfl rfl rfl (by decide +kernel) ⟨(Nat.le_of_ble_eq_true rfl), (Nat.le_of_ble_eq_true rfl)⟩) rfl po_64 rfl hl.1 rfl (Nat.le_of_ble_eq_true rfl) dL_law_340 ⟨(Nat.le_of_ble_eq_true rfl), (Nat.le_of_ble_eq_true rfl)⟩) (fun H locs hB => ?_)
  exact lv_icmp_eq (tgt := 1231) F.1 F.2.1 dL_law_343 (by decide) (fun _ => kk o2.2 H locs hv2 hB) (fun c9 => absurd he.symm c9)
set_option maxHeartbeats 4000000 in
set_option maxRecDepth 100000 in
theorem lc_sham (F : CallFix p m c cL_law 4 s #[Value.ref b] wT RL) (hE : EV D cy ad ta tb s) (hI : AdI ad) (hX : va_X b L xs s s.heap) (hbl : b < s.heap.size) (hbA : ¬ AA ad b) (hl : lv_has ls 4 [(0, .ref b), (1, .ref (ad 0)), (2, .ref (ad 64)), (3, .int (nI i))]) (hi : i + 6 ≤ L) (hL : L ≤ 3072) (hB : Bd D cy ad σ s.heap H locs) (hv : INV σ)
    (kk : ∀ (σ1 : Mem) (H1 : Heap) (locs1 : List Loc), INV σ1 → Bd D cy ad σ1 s.heap H1 locs1 → W p l e room_1 s m #[Value.ref b] below meth c H1 locs1 80 1950 Q (F0 m 1231 ls [])) : W p l e room_1 s m #[Value.ref b] below meth c H locs 80 1950 Q (F0 m 348 ls []) := by
  obtain ⟨o, ho, o2, ho2, he, hv2⟩ := op_sham hv (xs (i + 1)) (xs (i + 2))
  have F' : CallFix p m c cL_law 4 s #[Value.ref b] wG RL := ⟨F.1, F.2.1, F.2.2.1, F.2.2.2.1, fun w h => F.2.2.2.2 w (wt_G h)⟩
  refine lv_aload_n F.1 F.2.1 dL_law_348 rfl (lv_at hl 1 rfl) ?_
  refine lw_rd F hX hbl hbA hB.2 hl hi hL 1 (by decide) (by decide) dL_law_349 dL_law_350 dL_law_351 dL_law_352 dL_law_353 ?_
  refine lw_rd F hX hbl hbA hB.2 hl hi hL 2 (by decide) (by decide) dL_law_354 dL_law_355 dL_law_356 dL_law_357 dL_law_358 ?_
  refine q_ci hB (q_goV (As := [.int (xs (i + 1)), .int (xs (i + 2))]) F' hE hB (k_X9_sham hI σ _ _ ho) (cwV 2 F.2.2.2.2 (gt_V wt_m_RL_39 wt_i_X9_sham wt_s_X9_sham (wt_G wm_n_RX9) wt_c_X9_sham) rfl rfl rfl (by decide +kernel) ⟨(Nat.le_of_ble_eq_true rfl), (Nat.le_of_ble_eq_true rfl)⟩) rfl po_0 rfl hl.1 rfl (Nat.le_of_ble_eq_true rfl) dL_law_359 ⟨(Nat.le_of_ble_eq_true rfl), (Nat.le_of_ble_eq_true rfl)⟩) (fun H locs hB => ?_)
  refine lv_aload_n F.1 F.2.1 dL_law_362 rfl (lv_at hl 2 rfl) ?_
  refine lw_rd F hX hbl hbA hB.2 hl hi hL 1 (by decide) (by decide) dL_law_363 dL_law_364 dL_law_365 dL_law_366 dL_law_367 ?_
  refine lw_rd F hX hbl hbA hB.2 hl hi hL 2 (by decide) (by decide) dL_law_368 dL_law_369 dL_law_370 dL_law_371 dL_law_372 ?_
  refine q_ci hB (q_goV (As := [.int (xs (i + 1)), .int (xs (i + 2))]) F' hE hB (k_X10_sham hI o.2 _ _ ho2) (cwV 2 F.2.2.2.2 (gt_V wt_m_RL_42 (wt_G wm_i_X10_sham) (wt_G wm_s_X10_sham) (wt_G wm_n_RX10) (wt_G wm_c_X10_sham)) rfl rfl rfl (by decide +kernel) ⟨(Nat.le_of_ble_eq_true rfl), (Nat.le_of_ble_eq_true rfl)⟩) rfl po_64 rfl hl.1 rfl (Nat.le_of_ble_eq_true rfl) dL_law_373 ⟨(Nat.le_of_ble_eq_true rfl), (Nat.le_of_ble_eq_true rfl)⟩) (fun H locs hB => ?_)
  exact lv_icmp_eq (tgt := 1231) F.1 F.2.1 dL_law_376 (by decide) (fun _ => kk o2.2 H locs hv2 hB) (fun c9 => absurd he.symm c9)
set_option maxHeartbeats 4000000 in
set_option maxRecDepth 100000 in
theorem lc_back (F : CallFix p m c cL_law 4 s #[Value.ref b] wT RL) (hE : EV D cy ad ta tb s) (hI : AdI ad) (hX : va_X b L xs s s.heap) (hbl : b < s.heap.size) (hbA : ¬ AA ad b) (hl : lv_has ls 4 [(0, .ref b), (1, .ref (ad 0)), (2, .ref (ad 64)), (3, .int (nI i))]) (hi : i + 6 ≤ L) (hL : L ≤ 3072) (hB : Bd D cy ad σ s.heap H locs) (hv : INV σ)
    (kk : ∀ (σ1 : Mem) (H1 : Heap) (locs1 : List Loc), INV σ1 → Bd D cy ad σ1 s.heap H1 locs1 → W p l e room_1 s m #[Value.ref b] below meth c H1 locs1 80 1950 Q (F0 m 1231 ls [])) : W p l e room_1 s m #[Value.ref b] below meth c H locs 80 1950 Q (F0 m 381 ls []) := by
  obtain ⟨o, ho, o2, ho2, he, hv2⟩ := op_back hv 
  have F' : CallFix p m c cL_law 4 s #[Value.ref b] wG RL := ⟨F.1, F.2.1, F.2.2.1, F.2.2.2.1, fun w h => F.2.2.2.2 w (wt_G h)⟩
  refine lv_aload_n F.1 F.2.1 dL_law_381 rfl (lv_at hl 1 rfl) ?_
  refine q_ci hB (q_goV (As := []) F' hE hB (k_X9_back hI σ  ho) (cwV 0 F.2.2.2.2 (gt_V wt_m_RL_43 wt_i_X9_back wt_s_X9_back (wt_G wm_n_RX9) wt_c_X9_back) rfl rfl rfl (by decide +kernel) ⟨(Nat.le_of_ble_eq_true rfl), (Nat.le_of_ble_eq_true rfl)⟩) rfl po_0 rfl hl.1 rfl (Nat.le_of_ble_eq_true rfl) dL_law_382 ⟨(Nat.le_of_ble_eq_true rfl), (Nat.le_of_ble_eq_true rfl)⟩) (fun H locs hB => ?_)
  refine lv_aload_n F.1 F.2.1 dL_law_385 rfl (lv_at hl 2 rfl) ?_
  refine q_ci hB (q_goV (As := []) F' hE hB (k_X10_back hI o.2  ho2) (cwV 0 F.2.2.2.2 (gt_V wt_m_RL_47 wt_i_X10_back wt_s_X10_back (wt_G wm_n_RX10) wt_c_X10_back) rfl rfl rfl (by decide +kernel) ⟨(Nat.le_of_ble_eq_true rfl), (Nat.le_of_ble_eq_true rfl)⟩) rfl po_64 rfl hl.1 rfl (Nat.le_of_ble_eq_true rfl) dL_law_386 ⟨(Nat.le_of_ble_eq_true rfl), (Nat.le_of_ble_eq_true rfl)⟩) (fun H locs hB => ?_)
  exact lv_icmp_eq (tgt := 1231) F.1 F.2.1 dL_law_389 (by decide) (fun _ => kk o2.2 H locs hv2 hB) (fun c9 => absurd he.symm c9)
set_option maxHeartbeats 4000000 in
set_option maxRecDepth 100000 in
theorem lc_read (F : CallFix p m c cL_law 4 s #[Value.ref b] wT RL) (hE : EV D cy ad ta tb s) (hI : AdI ad) (hX : va_X b L xs s s.heap) (hbl : b < s.heap.size) (hbA : ¬ AA ad b) (hl : lv_has ls 4 [(0, .ref b), (1, .ref (ad 0)), (2, .ref (ad 64)), (3, .int (nI i))]) (hi : i + 6 ≤ L) (hL : L ≤ 3072) (hB : Bd D cy ad σ s.heap H locs) (hv : INV σ)
    (kk : ∀ (σ1 : Mem) (H1 : Heap) (locs1 : List Loc), INV σ1 → Bd D cy ad σ1 s.heap H1 locs1 → W p l e room_1 s m #[Value.ref b] below meth c H1 locs1 80 1950 Q (F0 m 1231 ls [])) : W p l e room_1 s m #[Value.ref b] below meth c H locs 80 1950 Q (F0 m 394 ls []) := by
  obtain ⟨o, ho, o2, ho2, he, hv2⟩ := op_read hv (xs (i + 1))
  have F' : CallFix p m c cL_law 4 s #[Value.ref b] wG RL := ⟨F.1, F.2.1, F.2.2.1, F.2.2.2.1, fun w h => F.2.2.2.2 w (wt_G h)⟩
  refine lv_aload_n F.1 F.2.1 dL_law_394 rfl (lv_at hl 1 rfl) ?_
  refine lw_rd F hX hbl hbA hB.2 hl hi hL 1 (by decide) (by decide) dL_law_395 dL_law_396 dL_law_397 dL_law_398 dL_law_399 ?_
  refine q_ci hB (q_goV (As := [.int (xs (i + 1))]) F' hE hB (k_X9_read hI σ _ ho) (cwV 1 F.2.2.2.2 (gt_V wt_m_RL_48 wt_i_X9_read wt_s_X9_read (wt_G wm_n_RX9) wt_c_X9_read) rfl rfl rfl (by decide +kernel) ⟨(Nat.le_of_ble_eq_true rfl), (Nat.le_of_ble_eq_true rfl)⟩) rfl po_0 rfl hl.1 rfl (Nat.le_of_ble_eq_true rfl) dL_law_400 ⟨(Nat.le_of_ble_eq_true rfl), (Nat.le_of_ble_eq_true rfl)⟩) (fun H locs hB => ?_)
  refine lv_aload_n F.1 F.2.1 dL_law_403 rfl (lv_at hl 2 rfl) ?_
  refine lw_rd F hX hbl hbA hB.2 hl hi hL 1 (by decide) (by decide) dL_law_404 dL_law_405 dL_law_406 dL_law_407 dL_law_408 ?_
  refine q_ci hB (q_goV (As := [.int (xs (i + 1))]) F' hE hB (k_X10_read hI o.2 _ ho2) (cwV 1 F.2.2.2.2 (gt_V wt_m_RL_51 wt_i_X10_read wt_s_X10_read (wt_G wm_n_RX10) wt_c_X10_read) rfl rfl rfl (by decide +kernel) ⟨(Nat.le_of_ble_eq_true rfl), (Nat.le_of_ble_eq_true rfl)⟩) rfl po_64 rfl hl.1 rfl (Nat.le_of_ble_eq_true rfl) dL_law_409 ⟨(Nat.le_of_ble_eq_true rfl), (Nat.le_of_ble_eq_true rfl)⟩) (fun H locs hB => ?_)
  exact lv_icmp_eq (tgt := 1231) F.1 F.2.1 dL_law_412 (by decide) (fun _ => kk o2.2 H locs hv2 hB) (fun c9 => absurd he.symm c9)
set_option maxHeartbeats 4000000 in
set_option maxRecDepth 100000 in
theorem lc_lifts (F : CallFix p m c cL_law 4 s #[Value.ref b] wT RL) (hE : EV D cy ad ta tb s) (hI : AdI ad) (hX : va_X b L xs s s.heap) (hbl : b < s.heap.size) (hbA : ¬ AA ad b) (hl : lv_has ls 4 [(0, .ref b), (1, .ref (ad 0)), (2, .ref (ad 64)), (3, .int (nI i))]) (hi : i + 6 ≤ L) (hL : L ≤ 3072) (hB : Bd D cy ad σ s.heap H locs) (hv : INV σ)
    (kk : ∀ (σ1 : Mem) (H1 : Heap) (locs1 : List Loc), INV σ1 → Bd D cy ad σ1 s.heap H1 locs1 → W p l e room_1 s m #[Value.ref b] below meth c H1 locs1 80 1950 Q (F0 m 1231 ls [])) : W p l e room_1 s m #[Value.ref b] below meth c H locs 80 1950 Q (F0 m 417 ls []) := by
  obtain ⟨o, ho, o2, ho2, he, hv2⟩ := op_lifts hv (xs (i + 1)) (xs (i + 2))
  have F' : CallFix p m c cL_law 4 s #[Value.ref b] wG RL := ⟨F.1, F.2.1, F.2.2.1, F.2.2.2.1, fun w h => F.2.2.2.2 w (wt_G h)⟩
  refine lv_aload_n F.1 F.2.1 dL_law_417 rfl (lv_at hl 1 rfl) ?_
  refine lw_rd F hX hbl hbA hB.2 hl hi hL 1 (by decide) (by decide) dL_law_418 dL_law_419 dL_law_420 dL_law_421 dL_law_422 ?_
  refine lw_rd F hX hbl hbA hB.2 hl hi hL 2 (by decide) (by decide) dL_law_423 dL_law_424 dL_law_425 dL_law_426 dL_law_427 ?_
  refine q_ci hB (q_goV (As := [.int (xs (i + 1)), .int (xs (i + 2))]) F' hE hB (k_X9_lifts hI σ _ _ ho) (cwV 2 F.2.2.2.2 (gt_V wt_m_RL_52 (wt_G wm_i_X9_lifts) (wt_G wm_s_X9_lifts) (wt_G wm_n_RX9) (wt_G wm_c_X9_lifts)) rfl rfl rfl (by decide +kernel) ⟨(Nat.le_of_ble_eq_true rfl), (Nat.le_of_ble_eq_true rfl)⟩) rfl po_0 rfl hl.1 rfl (Nat.le_of_ble_eq_true rfl) dL_law_428 ⟨(Nat.le_of_ble_eq_true rfl), (Nat.le_of_ble_eq_true rfl)⟩) (fun H locs hB => ?_)
  refine lv_aload_n F.1 F.2.1 dL_law_431 rfl (lv_at hl 2 rfl) ?_
  refine lw_rd F hX hbl hbA hB.2 hl hi hL 1 (by decide) (by decide) dL_law_432 dL_law_433 dL_law_434 dL_law_435 dL_law_436 ?_
  refine lw_rd F hX hbl hbA hB.2 hl hi hL 2 (by decide) (by decide) dL_law_437 dL_law_438 dL_law_439 dL_law_440 dL_law_441 ?_
  refine q_ci hB (q_goV (As := [.int (xs (i + 1)), .int (xs (i + 2))]) F' hE hB (k_X10_lifts hI σ _ _ ho2) (cwV 2 F.2.2.2.2 (gt_V wt_m_RL_55 wt_i_X10_lifts wt_s_X10_lifts (wt_G wm_n_RX10) wt_c_X10_lifts) rfl rfl rfl (by decide +kernel) ⟨(Nat.le_of_ble_eq_true rfl), (Nat.le_of_ble_eq_true rfl)⟩) rfl po_64 rfl hl.1 rfl (Nat.le_of_ble_eq_true rfl) dL_law_442 ⟨(Nat.le_of_ble_eq_true rfl), (Nat.le_of_ble_eq_true rfl)⟩) (fun H locs hB => ?_)
  exact lv_icmp_eq (tgt := 1231) F.1 F.2.1 dL_law_445 (by decide) (fun _ => kk o2.2 H locs hv2 hB) (fun c9 => absurd he.symm c9)
set_option maxHeartbeats 4000000 in
set_option maxRecDepth 100000 in
theorem lc_at (F : CallFix p m c cL_law 4 s #[Value.ref b] wT RL) (hE : EV D cy ad ta tb s) (hI : AdI ad) (hX : va_X b L xs s s.heap) (hbl : b < s.heap.size) (hbA : ¬ AA ad b) (hl : lv_has ls 4 [(0, .ref b), (1, .ref (ad 0)), (2, .ref (ad 64)), (3, .int (nI i))]) (hi : i + 6 ≤ L) (hL : L ≤ 3072) (hB : Bd D cy ad σ s.heap H locs) (hv : INV σ)
    (kk : ∀ (σ1 : Mem) (H1 : Heap) (locs1 : List Loc), INV σ1 → Bd D cy ad σ1 s.heap H1 locs1 → W p l e room_1 s m #[Value.ref b] below meth c H1 locs1 80 1950 Q (F0 m 1231 ls [])) : W p l e room_1 s m #[Value.ref b] below meth c H locs 80 1950 Q (F0 m 450 ls []) := by
  obtain ⟨o, ho, o2, ho2, he, hv2⟩ := op_at hv (xs (i + 1)) (xs (i + 2))
  have F' : CallFix p m c cL_law 4 s #[Value.ref b] wG RL := ⟨F.1, F.2.1, F.2.2.1, F.2.2.2.1, fun w h => F.2.2.2.2 w (wt_G h)⟩
  refine lv_aload_n F.1 F.2.1 dL_law_450 rfl (lv_at hl 1 rfl) ?_
  refine lw_rd F hX hbl hbA hB.2 hl hi hL 1 (by decide) (by decide) dL_law_451 dL_law_452 dL_law_453 dL_law_454 dL_law_455 ?_
  refine lw_rd F hX hbl hbA hB.2 hl hi hL 2 (by decide) (by decide) dL_law_456 dL_law_457 dL_law_458 dL_law_459 dL_law_460 ?_
  refine q_ci hB (q_goV (As := [.int (xs (i + 1)), .int (xs (i + 2))]) F' hE hB (k_X9_at hI σ _ _ ho) (cwV 2 F.2.2.2.2 (gt_V wt_m_RL_56 (wt_G wm_i_X9_at) (wt_G wm_s_X9_at) (wt_G wm_n_RX9) (wt_G wm_c_X9_at)) rfl rfl rfl (by decide +kernel) ⟨(Nat.le_of_ble_eq_true rfl), (Nat.le_of_ble_eq_true rfl)⟩) rfl po_0 rfl hl.1 rfl (Nat.le_of_ble_eq_true rfl) dL_law_461 ⟨(Nat.le_of_ble_eq_true rfl), (Nat.le_of_ble_eq_true rfl)⟩) (fun H locs hB => ?_)
  refine lv_aload_n F.1 F.2.1 dL_law_464 rfl (lv_at hl 2 rfl) ?_
  refine lw_rd F hX hbl hbA hB.2 hl hi hL 1 (by decide) (by decide) dL_law_465 dL_law_466 dL_law_467 dL_law_468 dL_law_469 ?_
  refine lw_rd F hX hbl hbA hB.2 hl hi hL 2 (by decide) (by decide) dL_law_470 dL_law_471 dL_law_472 dL_law_473 dL_law_474 ?_
  refine q_ci hB (q_goV (As := [.int (xs (i + 1)), .int (xs (i + 2))]) F' hE hB (k_X10_at hI σ _ _ ho2) (cwV 2 F.2.2.2.2 (gt_V wt_m_RL_59 wt_i_X10_at wt_s_X10_at (wt_G wm_n_RX10) wt_c_X10_at) rfl rfl rfl (by decide +kernel) ⟨(Nat.le_of_ble_eq_true rfl), (Nat.le_of_ble_eq_true rfl)⟩) rfl po_64 rfl hl.1 rfl (Nat.le_of_ble_eq_true rfl) dL_law_475 ⟨(Nat.le_of_ble_eq_true rfl), (Nat.le_of_ble_eq_true rfl)⟩) (fun H locs hB => ?_)
  exact lv_icmp_eq (tgt := 1231) F.1 F.2.1 dL_law_478 (by decide) (fun _ => kk o2.2 H locs hv2 hB) (fun c9 => absurd he.symm c9)
set_option maxHeartbeats 4000000 in
set_option maxRecDepth 100000 in
theorem lc_passes (F : CallFix p m c cL_law 4 s #[Value.ref b] wT RL) (hE : EV D cy ad ta tb s) (hI : AdI ad) (hX : va_X b L xs s s.heap) (hbl : b < s.heap.size) (hbA : ¬ AA ad b) (hl : lv_has ls 4 [(0, .ref b), (1, .ref (ad 0)), (2, .ref (ad 64)), (3, .int (nI i))]) (hi : i + 6 ≤ L) (hL : L ≤ 3072) (hB : Bd D cy ad σ s.heap H locs) (hv : INV σ)
    (kk : ∀ (σ1 : Mem) (H1 : Heap) (locs1 : List Loc), INV σ1 → Bd D cy ad σ1 s.heap H1 locs1 → W p l e room_1 s m #[Value.ref b] below meth c H1 locs1 80 1950 Q (F0 m 1231 ls [])) : W p l e room_1 s m #[Value.ref b] below meth c H locs 80 1950 Q (F0 m 483 ls []) := by
  obtain ⟨o, ho, o2, ho2, he, hv2⟩ := op_passes hv (xs (i + 1)) (xs (i + 2)) (xs (i + 3))
  have F' : CallFix p m c cL_law 4 s #[Value.ref b] wG RL := ⟨F.1, F.2.1, F.2.2.1, F.2.2.2.1, fun w h => F.2.2.2.2 w (wt_G h)⟩
  refine lv_aload_n F.1 F.2.1 dL_law_483 rfl (lv_at hl 1 rfl) ?_
  refine lw_rd F hX hbl hbA hB.2 hl hi hL 1 (by decide) (by decide) dL_law_484 dL_law_485 dL_law_486 dL_law_487 dL_law_488 ?_
  refine lw_rd F hX hbl hbA hB.2 hl hi hL 2 (by decide) (by decide) dL_law_489 dL_law_490 dL_law_491 dL_law_492 dL_law_493 ?_
  refine lw_rd F hX hbl hbA hB.2 hl hi hL 3 (by decide) (by decide) dL_law_494 dL_law_495 dL_law_496 dL_law_497 dL_law_498 ?_
  refine q_ci hB (q_goV (As := [.int (xs (i + 1)), .int (xs (i + 2)), .int (xs (i + 3))]) F' hE hB (k_X9_passes hI σ _ _ _ ho) (cwV 3 F.2.2.2.2 (gt_V wt_m_RL_60 (wt_G wm_i_X9_passes) (wt_G wm_s_X9_passes) (wt_G wm_n_RX9) (wt_G wm_c_X9_passes)) rfl rfl rfl (by decide +kernel) ⟨(Nat.le_of_ble_eq_true rfl), (Nat.le_of_ble_eq_true rfl)⟩) rfl po_0 rfl hl.1 rfl (Nat.le_of_ble_eq_true rfl) dL_law_499 ⟨(Nat.le_of_ble_eq_true rfl), (Nat.le_of_ble_eq_true rfl)⟩) (fun H locs hB => ?_)
  refine lv_aload_n F.1 F.2.1 dL_law_502 rfl (lv_at hl 2 rfl) ?_
  refine lw_rd F hX hbl hbA hB.2 hl hi hL 1 (by decide) (by decide) dL_law_503 dL_law_504 dL_law_505 dL_law_506 dL_law_507 ?_
  refine lw_rd F hX hbl hbA hB.2 hl hi hL 2 (by decide) (by decide) dL_law_508 dL_law_509 dL_law_510 dL_law_511 dL_law_512 ?_
  refine lw_rd F hX hbl hbA hB.2 hl hi hL 3 (by decide) (by decide) dL_law_513 dL_law_514 dL_law_515 dL_law_516 dL_law_517 ?_
  refine q_ci hB (q_goV (As := [.int (xs (i + 1)), .int (xs (i + 2)), .int (xs (i + 3))]) F' hE hB (k_X10_passes hI σ _ _ _ ho2) (cwV 3 F.2.2.2.2 (gt_V wt_m_RL_64 wt_i_X10_passes wt_s_X10_passes (wt_G wm_n_RX10) wt_c_X10_passes) rfl rfl rfl (by decide +kernel) ⟨(Nat.le_of_ble_eq_true rfl), (Nat.le_of_ble_eq_true rfl)⟩) rfl po_64 rfl hl.1 rfl (Nat.le_of_ble_eq_true rfl) dL_law_518 ⟨(Nat.le_of_ble_eq_true rfl), (Nat.le_of_ble_eq_true rfl)⟩) (fun H locs hB => ?_)
  exact lv_icmp_eq (tgt := 1231) F.1 F.2.1 dL_law_521 (by decide) (fun _ => kk o2.2 H locs hv2 hB) (fun c9 => absurd he.symm c9)
set_option maxHeartbeats 4000000 in
set_option maxRecDepth 100000 in
theorem lc_waits (F : CallFix p m c cL_law 4 s #[Value.ref b] wT RL) (hE : EV D cy ad ta tb s) (hI : AdI ad) (hX : va_X b L xs s s.heap) (hbl : b < s.heap.size) (hbA : ¬ AA ad b) (hl : lv_has ls 4 [(0, .ref b), (1, .ref (ad 0)), (2, .ref (ad 64)), (3, .int (nI i))]) (hi : i + 6 ≤ L) (hL : L ≤ 3072) (hB : Bd D cy ad σ s.heap H locs) (hv : INV σ)
    (kk : ∀ (σ1 : Mem) (H1 : Heap) (locs1 : List Loc), INV σ1 → Bd D cy ad σ1 s.heap H1 locs1 → W p l e room_1 s m #[Value.ref b] below meth c H1 locs1 80 1950 Q (F0 m 1231 ls [])) : W p l e room_1 s m #[Value.ref b] below meth c H locs 80 1950 Q (F0 m 526 ls []) := by
  obtain ⟨o, ho, o2, ho2, he, hv2⟩ := op_waits hv (xs (i + 1))
  have F' : CallFix p m c cL_law 4 s #[Value.ref b] wG RL := ⟨F.1, F.2.1, F.2.2.1, F.2.2.2.1, fun w h => F.2.2.2.2 w (wt_G h)⟩
  refine lv_aload_n F.1 F.2.1 dL_law_526 rfl (lv_at hl 1 rfl) ?_
  refine lw_rd F hX hbl hbA hB.2 hl hi hL 1 (by decide) (by decide) dL_law_527 dL_law_528 dL_law_529 dL_law_530 dL_law_531 ?_
  refine q_ci hB (q_goV (As := [.int (xs (i + 1))]) F' hE hB (k_X9_waits hI σ _ ho) (cwV 1 F.2.2.2.2 (gt_V wt_m_RL_65 (wt_G wm_i_X9_waits) (wt_G wm_s_X9_waits) (wt_G wm_n_RX9) (wt_G wm_c_X9_waits)) rfl rfl rfl (by decide +kernel) ⟨(Nat.le_of_ble_eq_true rfl), (Nat.le_of_ble_eq_true rfl)⟩) rfl po_0 rfl hl.1 rfl (Nat.le_of_ble_eq_true rfl) dL_law_532 ⟨(Nat.le_of_ble_eq_true rfl), (Nat.le_of_ble_eq_true rfl)⟩) (fun H locs hB => ?_)
  refine lv_aload_n F.1 F.2.1 dL_law_535 rfl (lv_at hl 2 rfl) ?_
  refine lw_rd F hX hbl hbA hB.2 hl hi hL 1 (by decide) (by decide) dL_law_536 dL_law_537 dL_law_538 dL_law_539 dL_law_540 ?_
  refine q_ci hB (q_goV (As := [.int (xs (i + 1))]) F' hE hB (k_X10_waits hI σ _ ho2) (cwV 1 F.2.2.2.2 (gt_V wt_m_RL_68 wt_i_X10_waits wt_s_X10_waits (wt_G wm_n_RX10) wt_c_X10_waits) rfl rfl rfl (by decide +kernel) ⟨(Nat.le_of_ble_eq_true rfl), (Nat.le_of_ble_eq_true rfl)⟩) rfl po_64 rfl hl.1 rfl (Nat.le_of_ble_eq_true rfl) dL_law_541 ⟨(Nat.le_of_ble_eq_true rfl), (Nat.le_of_ble_eq_true rfl)⟩) (fun H locs hB => ?_)
  exact lv_icmp_eq (tgt := 1231) F.1 F.2.1 dL_law_544 (by decide) (fun _ => kk o2.2 H locs hv2 hB) (fun c9 => absurd he.symm c9)
set_option maxHeartbeats 4000000 in
set_option maxRecDepth 100000 in
theorem lc_through (F : CallFix p m c cL_law 4 s #[Value.ref b] wT RL) (hE : EV D cy ad ta tb s) (hI : AdI ad) (hX : va_X b L xs s s.heap) (hbl : b < s.heap.size) (hbA : ¬ AA ad b) (hl : lv_has ls 4 [(0, .ref b), (1, .ref (ad 0)), (2, .ref (ad 64)), (3, .int (nI i))]) (hi : i + 6 ≤ L) (hL : L ≤ 3072) (hB : Bd D cy ad σ s.heap H locs) (hv : INV σ)
    (kk : ∀ (σ1 : Mem) (H1 : Heap) (locs1 : List Loc), INV σ1 → Bd D cy ad σ1 s.heap H1 locs1 → W p l e room_1 s m #[Value.ref b] below meth c H1 locs1 80 1950 Q (F0 m 1231 ls [])) : W p l e room_1 s m #[Value.ref b] below meth c H locs 80 1950 Q (F0 m 549 ls []) := by
  obtain ⟨o, ho, o2, ho2, he, hv2⟩ := op_through hv (xs (i + 1))
  have F' : CallFix p m c cL_law 4 s #[Value.ref b] wG RL := ⟨F.1, F.2.1, F.2.2.1, F.2.2.2.1, fun w h => F.2.2.2.2 w (wt_G h)⟩
  refine lv_aload_n F.1 F.2.1 dL_law_549 rfl (lv_at hl 1 rfl) ?_
  refine lw_rd F hX hbl hbA hB.2 hl hi hL 1 (by decide) (by decide) dL_law_550 dL_law_551 dL_law_552 dL_law_553 dL_law_554 ?_
  refine q_ci hB (q_goV (As := [.int (xs (i + 1))]) F' hE hB (k_X9_through hI σ _ ho) (cwV 1 F.2.2.2.2 (gt_V wt_m_RL_69 (wt_G wm_i_X9_through) (wt_G wm_s_X9_through) (wt_G wm_n_RX9) (wt_G wm_c_X9_through)) rfl rfl rfl (by decide +kernel) ⟨(Nat.le_of_ble_eq_true rfl), (Nat.le_of_ble_eq_true rfl)⟩) rfl po_0 rfl hl.1 rfl (Nat.le_of_ble_eq_true rfl) dL_law_555 ⟨(Nat.le_of_ble_eq_true rfl), (Nat.le_of_ble_eq_true rfl)⟩) (fun H locs hB => ?_)
  refine lv_aload_n F.1 F.2.1 dL_law_558 rfl (lv_at hl 2 rfl) ?_
  refine lw_rd F hX hbl hbA hB.2 hl hi hL 1 (by decide) (by decide) dL_law_559 dL_law_560 dL_law_561 dL_law_562 dL_law_563 ?_
  refine q_ci hB (q_goV (As := [.int (xs (i + 1))]) F' hE hB (k_X10_through hI σ _ ho2) (cwV 1 F.2.2.2.2 (gt_V wt_m_RL_72 wt_i_X10_through wt_s_X10_through (wt_G wm_n_RX10) wt_c_X10_through) rfl rfl rfl (by decide +kernel) ⟨(Nat.le_of_ble_eq_true rfl), (Nat.le_of_ble_eq_true rfl)⟩) rfl po_64 rfl hl.1 rfl (Nat.le_of_ble_eq_true rfl) dL_law_564 ⟨(Nat.le_of_ble_eq_true rfl), (Nat.le_of_ble_eq_true rfl)⟩) (fun H locs hB => ?_)
  exact lv_icmp_eq (tgt := 1231) F.1 F.2.1 dL_law_567 (by decide) (fun _ => kk o2.2 H locs hv2 hB) (fun c9 => absurd he.symm c9)
set_option maxHeartbeats 4000000 in
set_option maxRecDepth 100000 in
theorem lc_first (F : CallFix p m c cL_law 4 s #[Value.ref b] wT RL) (hE : EV D cy ad ta tb s) (hI : AdI ad) (hX : va_X b L xs s s.heap) (hbl : b < s.heap.size) (hbA : ¬ AA ad b) (hl : lv_has ls 4 [(0, .ref b), (1, .ref (ad 0)), (2, .ref (ad 64)), (3, .int (nI i))]) (hi : i + 6 ≤ L) (hL : L ≤ 3072) (hB : Bd D cy ad σ s.heap H locs) (hv : INV σ)
    (kk : ∀ (σ1 : Mem) (H1 : Heap) (locs1 : List Loc), INV σ1 → Bd D cy ad σ1 s.heap H1 locs1 → W p l e room_1 s m #[Value.ref b] below meth c H1 locs1 80 1950 Q (F0 m 1231 ls [])) : W p l e room_1 s m #[Value.ref b] below meth c H locs 80 1950 Q (F0 m 572 ls []) := by
  obtain ⟨o, ho, o2, ho2, he, hv2⟩ := op_first hv (xs (i + 1))
  have F' : CallFix p m c cL_law 4 s #[Value.ref b] wG RL := ⟨F.1, F.2.1, F.2.2.1, F.2.2.2.1, fun w h => F.2.2.2.2 w (wt_G h)⟩
  refine lv_aload_n F.1 F.2.1 dL_law_572 rfl (lv_at hl 1 rfl) ?_
  refine lw_rd F hX hbl hbA hB.2 hl hi hL 1 (by decide) (by decide) dL_law_573 dL_law_574 dL_law_575 dL_law_576 dL_law_577 ?_
  refine q_ci hB (q_goV (As := [.int (xs (i + 1))]) F' hE hB (k_X9_first hI σ _ ho) (cwV 1 F.2.2.2.2 (gt_V wt_m_RL_73 (wt_G wm_i_X9_first) (wt_G wm_s_X9_first) (wt_G wm_n_RX9) (wt_G wm_c_X9_first)) rfl rfl rfl (by decide +kernel) ⟨(Nat.le_of_ble_eq_true rfl), (Nat.le_of_ble_eq_true rfl)⟩) rfl po_0 rfl hl.1 rfl (Nat.le_of_ble_eq_true rfl) dL_law_578 ⟨(Nat.le_of_ble_eq_true rfl), (Nat.le_of_ble_eq_true rfl)⟩) (fun H locs hB => ?_)
  refine lv_aload_n F.1 F.2.1 dL_law_581 rfl (lv_at hl 2 rfl) ?_
  refine lw_rd F hX hbl hbA hB.2 hl hi hL 1 (by decide) (by decide) dL_law_582 dL_law_583 dL_law_584 dL_law_585 dL_law_586 ?_
  refine q_ci hB (q_goV (As := [.int (xs (i + 1))]) F' hE hB (k_X10_first hI σ _ ho2) (cwV 1 F.2.2.2.2 (gt_V wt_m_RL_76 wt_i_X10_first wt_s_X10_first (wt_G wm_n_RX10) wt_c_X10_first) rfl rfl rfl (by decide +kernel) ⟨(Nat.le_of_ble_eq_true rfl), (Nat.le_of_ble_eq_true rfl)⟩) rfl po_64 rfl hl.1 rfl (Nat.le_of_ble_eq_true rfl) dL_law_587 ⟨(Nat.le_of_ble_eq_true rfl), (Nat.le_of_ble_eq_true rfl)⟩) (fun H locs hB => ?_)
  exact lv_icmp_eq (tgt := 1231) F.1 F.2.1 dL_law_590 (by decide) (fun _ => kk o2.2 H locs hv2 hB) (fun c9 => absurd he.symm c9)
set_option maxHeartbeats 4000000 in
set_option maxRecDepth 100000 in
theorem lc_cargo (F : CallFix p m c cL_law 4 s #[Value.ref b] wT RL) (hE : EV D cy ad ta tb s) (hI : AdI ad) (hX : va_X b L xs s s.heap) (hbl : b < s.heap.size) (hbA : ¬ AA ad b) (hl : lv_has ls 4 [(0, .ref b), (1, .ref (ad 0)), (2, .ref (ad 64)), (3, .int (nI i))]) (hi : i + 6 ≤ L) (hL : L ≤ 3072) (hB : Bd D cy ad σ s.heap H locs) (hv : INV σ)
    (kk : ∀ (σ1 : Mem) (H1 : Heap) (locs1 : List Loc), INV σ1 → Bd D cy ad σ1 s.heap H1 locs1 → W p l e room_1 s m #[Value.ref b] below meth c H1 locs1 80 1950 Q (F0 m 1231 ls [])) : W p l e room_1 s m #[Value.ref b] below meth c H locs 80 1950 Q (F0 m 595 ls []) := by
  obtain ⟨o, ho, o2, ho2, he, hv2⟩ := op_cargo hv (xs (i + 1)) (xs (i + 2))
  have F' : CallFix p m c cL_law 4 s #[Value.ref b] wG RL := ⟨F.1, F.2.1, F.2.2.1, F.2.2.2.1, fun w h => F.2.2.2.2 w (wt_G h)⟩
  refine lv_aload_n F.1 F.2.1 dL_law_595 rfl (lv_at hl 1 rfl) ?_
  refine lw_rd F hX hbl hbA hB.2 hl hi hL 1 (by decide) (by decide) dL_law_596 dL_law_597 dL_law_598 dL_law_599 dL_law_600 ?_
  refine lw_rd F hX hbl hbA hB.2 hl hi hL 2 (by decide) (by decide) dL_law_601 dL_law_602 dL_law_603 dL_law_604 dL_law_605 ?_
  refine q_ci hB (q_goV (As := [.int (xs (i + 1)), .int (xs (i + 2))]) F' hE hB (k_X9_cargo hI σ _ _ ho) (cwV 2 F.2.2.2.2 (gt_V wt_m_RL_77 wt_i_X9_cargo wt_s_X9_cargo (wt_G wm_n_RX9) wt_c_X9_cargo) rfl rfl rfl (by decide +kernel) ⟨(Nat.le_of_ble_eq_true rfl), (Nat.le_of_ble_eq_true rfl)⟩) rfl po_0 rfl hl.1 rfl (Nat.le_of_ble_eq_true rfl) dL_law_606 ⟨(Nat.le_of_ble_eq_true rfl), (Nat.le_of_ble_eq_true rfl)⟩) (fun H locs hB => ?_)
  refine lv_aload_n F.1 F.2.1 dL_law_609 rfl (lv_at hl 2 rfl) ?_
  refine lw_rd F hX hbl hbA hB.2 hl hi hL 1 (by decide) (by decide) dL_law_610 dL_law_611 dL_law_612 dL_law_613 dL_law_614 ?_
  refine lw_rd F hX hbl hbA hB.2 hl hi hL 2 (by decide) (by decide) dL_law_615 dL_law_616 dL_law_617 dL_law_618 dL_law_619 ?_
  refine q_ci hB (q_goV (As := [.int (xs (i + 1)), .int (xs (i + 2))]) F' hE hB (k_X10_cargo hI o.2 _ _ ho2) (cwV 2 F.2.2.2.2 (gt_V wt_m_RL_80 wt_i_X10_cargo wt_s_X10_cargo (wt_G wm_n_RX10) wt_c_X10_cargo) rfl rfl rfl (by decide +kernel) ⟨(Nat.le_of_ble_eq_true rfl), (Nat.le_of_ble_eq_true rfl)⟩) rfl po_64 rfl hl.1 rfl (Nat.le_of_ble_eq_true rfl) dL_law_620 ⟨(Nat.le_of_ble_eq_true rfl), (Nat.le_of_ble_eq_true rfl)⟩) (fun H locs hB => ?_)
  exact lv_icmp_eq (tgt := 1231) F.1 F.2.1 dL_law_623 (by decide) (fun _ => kk o2.2 H locs hv2 hB) (fun c9 => absurd he.symm c9)
set_option maxHeartbeats 4000000 in
set_option maxRecDepth 100000 in
theorem lc_sail (F : CallFix p m c cL_law 4 s #[Value.ref b] wT RL) (hE : EV D cy ad ta tb s) (hI : AdI ad) (hX : va_X b L xs s s.heap) (hbl : b < s.heap.size) (hbA : ¬ AA ad b) (hl : lv_has ls 4 [(0, .ref b), (1, .ref (ad 0)), (2, .ref (ad 64)), (3, .int (nI i))]) (hi : i + 6 ≤ L) (hL : L ≤ 3072) (hB : Bd D cy ad σ s.heap H locs) (hv : INV σ)
    (kk : ∀ (σ1 : Mem) (H1 : Heap) (locs1 : List Loc), INV σ1 → Bd D cy ad σ1 s.heap H1 locs1 → W p l e room_1 s m #[Value.ref b] below meth c H1 locs1 80 1950 Q (F0 m 1231 ls [])) : W p l e room_1 s m #[Value.ref b] below meth c H locs 80 1950 Q (F0 m 628 ls []) := by
  obtain ⟨o, ho, o2, ho2, he, hv2⟩ := op_sail hv (xs (i + 1)) (xs (i + 2))
  have F' : CallFix p m c cL_law 4 s #[Value.ref b] wG RL := ⟨F.1, F.2.1, F.2.2.1, F.2.2.2.1, fun w h => F.2.2.2.2 w (wt_G h)⟩
  refine lv_aload_n F.1 F.2.1 dL_law_628 rfl (lv_at hl 1 rfl) ?_
  refine lw_rd F hX hbl hbA hB.2 hl hi hL 1 (by decide) (by decide) dL_law_629 dL_law_630 dL_law_631 dL_law_632 dL_law_633 ?_
  refine lw_rd F hX hbl hbA hB.2 hl hi hL 2 (by decide) (by decide) dL_law_634 dL_law_635 dL_law_636 dL_law_637 dL_law_638 ?_
  refine q_ci hB (q_goV (As := [.int (xs (i + 1)), .int (xs (i + 2))]) F' hE hB (k_X9_sail hI σ _ _ ho) (cwV 2 F.2.2.2.2 (gt_V wt_m_RL_81 wt_i_X9_sail wt_s_X9_sail (wt_G wm_n_RX9) wt_c_X9_sail) rfl rfl rfl (by decide +kernel) ⟨(Nat.le_of_ble_eq_true rfl), (Nat.le_of_ble_eq_true rfl)⟩) rfl po_0 rfl hl.1 rfl (Nat.le_of_ble_eq_true rfl) dL_law_639 ⟨(Nat.le_of_ble_eq_true rfl), (Nat.le_of_ble_eq_true rfl)⟩) (fun H locs hB => ?_)
  refine lv_aload_n F.1 F.2.1 dL_law_642 rfl (lv_at hl 2 rfl) ?_
  refine lw_rd F hX hbl hbA hB.2 hl hi hL 1 (by decide) (by decide) dL_law_643 dL_law_644 dL_law_645 dL_law_646 dL_law_647 ?_
  refine lw_rd F hX hbl hbA hB.2 hl hi hL 2 (by decide) (by decide) dL_law_648 dL_law_649 dL_law_650 dL_law_651 dL_law_652 ?_
  refine q_ci hB (q_goV (As := [.int (xs (i + 1)), .int (xs (i + 2))]) F' hE hB (k_X10_sail hI o.2 _ _ ho2) (cwV 2 F.2.2.2.2 (gt_V wt_m_RL_84 wt_i_X10_sail wt_s_X10_sail (wt_G wm_n_RX10) wt_c_X10_sail) rfl rfl rfl (by decide +kernel) ⟨(Nat.le_of_ble_eq_true rfl), (Nat.le_of_ble_eq_true rfl)⟩) rfl po_64 rfl hl.1 rfl (Nat.le_of_ble_eq_true rfl) dL_law_653 ⟨(Nat.le_of_ble_eq_true rfl), (Nat.le_of_ble_eq_true rfl)⟩) (fun H locs hB => ?_)
  exact lv_icmp_eq (tgt := 1231) F.1 F.2.1 dL_law_656 (by decide) (fun _ => kk o2.2 H locs hv2 hB) (fun c9 => absurd he.symm c9)
set_option maxHeartbeats 4000000 in
set_option maxRecDepth 100000 in
theorem lc_away (F : CallFix p m c cL_law 4 s #[Value.ref b] wT RL) (hE : EV D cy ad ta tb s) (hI : AdI ad) (hX : va_X b L xs s s.heap) (hbl : b < s.heap.size) (hbA : ¬ AA ad b) (hl : lv_has ls 4 [(0, .ref b), (1, .ref (ad 0)), (2, .ref (ad 64)), (3, .int (nI i))]) (hi : i + 6 ≤ L) (hL : L ≤ 3072) (hB : Bd D cy ad σ s.heap H locs) (hv : INV σ)
    (kk : ∀ (σ1 : Mem) (H1 : Heap) (locs1 : List Loc), INV σ1 → Bd D cy ad σ1 s.heap H1 locs1 → W p l e room_1 s m #[Value.ref b] below meth c H1 locs1 80 1950 Q (F0 m 1231 ls [])) : W p l e room_1 s m #[Value.ref b] below meth c H locs 80 1950 Q (F0 m 661 ls []) := by
  obtain ⟨o, ho, o2, ho2, he, hv2⟩ := op_away hv (xs (i + 1))
  have F' : CallFix p m c cL_law 4 s #[Value.ref b] wG RL := ⟨F.1, F.2.1, F.2.2.1, F.2.2.2.1, fun w h => F.2.2.2.2 w (wt_G h)⟩
  refine lv_aload_n F.1 F.2.1 dL_law_661 rfl (lv_at hl 1 rfl) ?_
  refine lw_rd F hX hbl hbA hB.2 hl hi hL 1 (by decide) (by decide) dL_law_662 dL_law_663 dL_law_664 dL_law_665 dL_law_666 ?_
  refine q_ci hB (q_goV (As := [.int (xs (i + 1))]) F' hE hB (k_X9_away hI σ _ ho) (cwV 1 F.2.2.2.2 (gt_V wt_m_RL_85 wt_i_X9_away wt_s_X9_away (wt_G wm_n_RX9) wt_c_X9_away) rfl rfl rfl (by decide +kernel) ⟨(Nat.le_of_ble_eq_true rfl), (Nat.le_of_ble_eq_true rfl)⟩) rfl po_0 rfl hl.1 rfl (Nat.le_of_ble_eq_true rfl) dL_law_667 ⟨(Nat.le_of_ble_eq_true rfl), (Nat.le_of_ble_eq_true rfl)⟩) (fun H locs hB => ?_)
  refine lv_aload_n F.1 F.2.1 dL_law_670 rfl (lv_at hl 2 rfl) ?_
  refine lw_rd F hX hbl hbA hB.2 hl hi hL 1 (by decide) (by decide) dL_law_671 dL_law_672 dL_law_673 dL_law_674 dL_law_675 ?_
  refine q_ci hB (q_goV (As := [.int (xs (i + 1))]) F' hE hB (k_X10_away hI o.2 _ ho2) (cwV 1 F.2.2.2.2 (gt_V wt_m_RL_88 wt_i_X10_away wt_s_X10_away (wt_G wm_n_RX10) wt_c_X10_away) rfl rfl rfl (by decide +kernel) ⟨(Nat.le_of_ble_eq_true rfl), (Nat.le_of_ble_eq_true rfl)⟩) rfl po_64 rfl hl.1 rfl (Nat.le_of_ble_eq_true rfl) dL_law_676 ⟨(Nat.le_of_ble_eq_true rfl), (Nat.le_of_ble_eq_true rfl)⟩) (fun H locs hB => ?_)
  exact lv_icmp_eq (tgt := 1231) F.1 F.2.1 dL_law_679 (by decide) (fun _ => kk o2.2 H locs hv2 hB) (fun c9 => absurd he.symm c9)
set_option maxHeartbeats 4000000 in
set_option maxRecDepth 100000 in
theorem lc_seen (F : CallFix p m c cL_law 4 s #[Value.ref b] wT RL) (hE : EV D cy ad ta tb s) (hI : AdI ad) (hX : va_X b L xs s s.heap) (hbl : b < s.heap.size) (hbA : ¬ AA ad b) (hl : lv_has ls 4 [(0, .ref b), (1, .ref (ad 0)), (2, .ref (ad 64)), (3, .int (nI i))]) (hi : i + 6 ≤ L) (hL : L ≤ 3072) (hB : Bd D cy ad σ s.heap H locs) (hv : INV σ)
    (kk : ∀ (σ1 : Mem) (H1 : Heap) (locs1 : List Loc), INV σ1 → Bd D cy ad σ1 s.heap H1 locs1 → W p l e room_1 s m #[Value.ref b] below meth c H1 locs1 80 1950 Q (F0 m 1231 ls [])) : W p l e room_1 s m #[Value.ref b] below meth c H locs 80 1950 Q (F0 m 684 ls []) := by
  obtain ⟨o, ho, o2, ho2, he, hv2⟩ := op_seen hv (xs (i + 1)) (xs (i + 2)) (xs (i + 3))
  have F' : CallFix p m c cL_law 4 s #[Value.ref b] wG RL := ⟨F.1, F.2.1, F.2.2.1, F.2.2.2.1, fun w h => F.2.2.2.2 w (wt_G h)⟩
  refine lv_aload_n F.1 F.2.1 dL_law_684 rfl (lv_at hl 1 rfl) ?_
  refine lw_rd F hX hbl hbA hB.2 hl hi hL 1 (by decide) (by decide) dL_law_685 dL_law_686 dL_law_687 dL_law_688 dL_law_689 ?_
  refine lw_rd F hX hbl hbA hB.2 hl hi hL 2 (by decide) (by decide) dL_law_690 dL_law_691 dL_law_692 dL_law_693 dL_law_694 ?_
  refine lw_rd F hX hbl hbA hB.2 hl hi hL 3 (by decide) (by decide) dL_law_695 dL_law_696 dL_law_697 dL_law_698 dL_law_699 ?_
  refine q_ci hB (q_goV (As := [.int (xs (i + 1)), .int (xs (i + 2)), .int (xs (i + 3))]) F' hE hB (k_X9_seen hI σ _ _ _ ho) (cwV 3 F.2.2.2.2 (gt_V wt_m_RL_89 wt_i_X9_seen wt_s_X9_seen (wt_G wm_n_RX9) wt_c_X9_seen) rfl rfl rfl (by decide +kernel) ⟨(Nat.le_of_ble_eq_true rfl), (Nat.le_of_ble_eq_true rfl)⟩) rfl po_0 rfl hl.1 rfl (Nat.le_of_ble_eq_true rfl) dL_law_700 ⟨(Nat.le_of_ble_eq_true rfl), (Nat.le_of_ble_eq_true rfl)⟩) (fun H locs hB => ?_)
  refine lv_aload_n F.1 F.2.1 dL_law_703 rfl (lv_at hl 2 rfl) ?_
  refine lw_rd F hX hbl hbA hB.2 hl hi hL 1 (by decide) (by decide) dL_law_704 dL_law_705 dL_law_706 dL_law_707 dL_law_708 ?_
  refine lw_rd F hX hbl hbA hB.2 hl hi hL 2 (by decide) (by decide) dL_law_709 dL_law_710 dL_law_711 dL_law_712 dL_law_713 ?_
  refine lw_rd F hX hbl hbA hB.2 hl hi hL 3 (by decide) (by decide) dL_law_714 dL_law_715 dL_law_716 dL_law_717 dL_law_718 ?_
  refine q_ci hB (q_goV (As := [.int (xs (i + 1)), .int (xs (i + 2)), .int (xs (i + 3))]) F' hE hB (k_X10_seen hI o.2 _ _ _ ho2) (cwV 3 F.2.2.2.2 (gt_V wt_m_RL_92 wt_i_X10_seen wt_s_X10_seen (wt_G wm_n_RX10) wt_c_X10_seen) rfl rfl rfl (by decide +kernel) ⟨(Nat.le_of_ble_eq_true rfl), (Nat.le_of_ble_eq_true rfl)⟩) rfl po_64 rfl hl.1 rfl (Nat.le_of_ble_eq_true rfl) dL_law_719 ⟨(Nat.le_of_ble_eq_true rfl), (Nat.le_of_ble_eq_true rfl)⟩) (fun H locs hB => ?_)
  exact lv_icmp_eq (tgt := 1231) F.1 F.2.1 dL_law_722 (by decide) (fun _ => kk o2.2 H locs hv2 hB) (fun c9 => absurd he.symm c9)
set_option maxHeartbeats 4000000 in
set_option maxRecDepth 100000 in
theorem lc_forget (F : CallFix p m c cL_law 4 s #[Value.ref b] wT RL) (hE : EV D cy ad ta tb s) (hI : AdI ad) (hX : va_X b L xs s s.heap) (hbl : b < s.heap.size) (hbA : ¬ AA ad b) (hl : lv_has ls 4 [(0, .ref b), (1, .ref (ad 0)), (2, .ref (ad 64)), (3, .int (nI i))]) (hi : i + 6 ≤ L) (hL : L ≤ 3072) (hB : Bd D cy ad σ s.heap H locs) (hv : INV σ)
    (kk : ∀ (σ1 : Mem) (H1 : Heap) (locs1 : List Loc), INV σ1 → Bd D cy ad σ1 s.heap H1 locs1 → W p l e room_1 s m #[Value.ref b] below meth c H1 locs1 80 1950 Q (F0 m 1231 ls [])) : W p l e room_1 s m #[Value.ref b] below meth c H locs 80 1950 Q (F0 m 727 ls []) := by
  obtain ⟨o, ho, o2, ho2, he, hv2⟩ := op_forget hv 
  have F' : CallFix p m c cL_law 4 s #[Value.ref b] wG RL := ⟨F.1, F.2.1, F.2.2.1, F.2.2.2.1, fun w h => F.2.2.2.2 w (wt_G h)⟩
  refine lv_aload_n F.1 F.2.1 dL_law_727 rfl (lv_at hl 1 rfl) ?_
  refine q_ci hB (q_goV (As := []) F' hE hB (k_X9_forget hI σ  ho) (cwV 0 F.2.2.2.2 (gt_V wt_m_RL_93 wt_i_X9_forget wt_s_X9_forget (wt_G wm_n_RX9) wt_c_X9_forget) rfl rfl rfl (by decide +kernel) ⟨(Nat.le_of_ble_eq_true rfl), (Nat.le_of_ble_eq_true rfl)⟩) rfl po_0 rfl hl.1 rfl (Nat.le_of_ble_eq_true rfl) dL_law_728 ⟨(Nat.le_of_ble_eq_true rfl), (Nat.le_of_ble_eq_true rfl)⟩) (fun H locs hB => ?_)
  refine lv_aload_n F.1 F.2.1 dL_law_731 rfl (lv_at hl 2 rfl) ?_
  refine q_ci hB (q_goV (As := []) F' hE hB (k_X10_forget hI o.2  ho2) (cwV 0 F.2.2.2.2 (gt_V wt_m_RL_96 wt_i_X10_forget wt_s_X10_forget (wt_G wm_n_RX10) wt_c_X10_forget) rfl rfl rfl (by decide +kernel) ⟨(Nat.le_of_ble_eq_true rfl), (Nat.le_of_ble_eq_true rfl)⟩) rfl po_64 rfl hl.1 rfl (Nat.le_of_ble_eq_true rfl) dL_law_732 ⟨(Nat.le_of_ble_eq_true rfl), (Nat.le_of_ble_eq_true rfl)⟩) (fun H locs hB => ?_)
  exact lv_icmp_eq (tgt := 1231) F.1 F.2.1 dL_law_735 (by decide) (fun _ => kk o2.2 H locs hv2 hB) (fun c9 => absurd he.symm c9)
set_option maxHeartbeats 4000000 in
set_option maxRecDepth 100000 in
theorem lc_liked (F : CallFix p m c cL_law 4 s #[Value.ref b] wT RL) (hE : EV D cy ad ta tb s) (hI : AdI ad) (hX : va_X b L xs s s.heap) (hbl : b < s.heap.size) (hbA : ¬ AA ad b) (hl : lv_has ls 4 [(0, .ref b), (1, .ref (ad 0)), (2, .ref (ad 64)), (3, .int (nI i))]) (hi : i + 6 ≤ L) (hL : L ≤ 3072) (hB : Bd D cy ad σ s.heap H locs) (hv : INV σ)
    (kk : ∀ (σ1 : Mem) (H1 : Heap) (locs1 : List Loc), INV σ1 → Bd D cy ad σ1 s.heap H1 locs1 → W p l e room_1 s m #[Value.ref b] below meth c H1 locs1 80 1950 Q (F0 m 1231 ls [])) : W p l e room_1 s m #[Value.ref b] below meth c H locs 80 1950 Q (F0 m 740 ls []) := by
  obtain ⟨o, ho, o2, ho2, he, hv2⟩ := op_liked hv (xs (i + 1)) (xs (i + 2))
  have F' : CallFix p m c cL_law 4 s #[Value.ref b] wG RL := ⟨F.1, F.2.1, F.2.2.1, F.2.2.2.1, fun w h => F.2.2.2.2 w (wt_G h)⟩
  refine lv_aload_n F.1 F.2.1 dL_law_740 rfl (lv_at hl 1 rfl) ?_
  refine lw_rd F hX hbl hbA hB.2 hl hi hL 1 (by decide) (by decide) dL_law_741 dL_law_742 dL_law_743 dL_law_744 dL_law_745 ?_
  refine lw_rd F hX hbl hbA hB.2 hl hi hL 2 (by decide) (by decide) dL_law_746 dL_law_747 dL_law_748 dL_law_749 dL_law_750 ?_
  refine q_ci hB (q_goV (As := [.int (xs (i + 1)), .int (xs (i + 2))]) F' hE hB (k_X9_liked hI σ _ _ ho) (cwV 2 F.2.2.2.2 (gt_V wt_m_RL_97 wt_i_X9_liked wt_s_X9_liked (wt_G wm_n_RX9) wt_c_X9_liked) rfl rfl rfl (by decide +kernel) ⟨(Nat.le_of_ble_eq_true rfl), (Nat.le_of_ble_eq_true rfl)⟩) rfl po_0 rfl hl.1 rfl (Nat.le_of_ble_eq_true rfl) dL_law_751 ⟨(Nat.le_of_ble_eq_true rfl), (Nat.le_of_ble_eq_true rfl)⟩) (fun H locs hB => ?_)
  refine lv_aload_n F.1 F.2.1 dL_law_754 rfl (lv_at hl 2 rfl) ?_
  refine lw_rd F hX hbl hbA hB.2 hl hi hL 1 (by decide) (by decide) dL_law_755 dL_law_756 dL_law_757 dL_law_758 dL_law_759 ?_
  refine lw_rd F hX hbl hbA hB.2 hl hi hL 2 (by decide) (by decide) dL_law_760 dL_law_761 dL_law_762 dL_law_763 dL_law_764 ?_
  refine q_ci hB (q_goV (As := [.int (xs (i + 1)), .int (xs (i + 2))]) F' hE hB (k_X10_liked hI o.2 _ _ ho2) (cwV 2 F.2.2.2.2 (gt_V wt_m_RL_100 wt_i_X10_liked wt_s_X10_liked (wt_G wm_n_RX10) wt_c_X10_liked) rfl rfl rfl (by decide +kernel) ⟨(Nat.le_of_ble_eq_true rfl), (Nat.le_of_ble_eq_true rfl)⟩) rfl po_64 rfl hl.1 rfl (Nat.le_of_ble_eq_true rfl) dL_law_765 ⟨(Nat.le_of_ble_eq_true rfl), (Nat.le_of_ble_eq_true rfl)⟩) (fun H locs hB => ?_)
  exact lv_icmp_eq (tgt := 1231) F.1 F.2.1 dL_law_768 (by decide) (fun _ => kk o2.2 H locs hv2 hB) (fun c9 => absurd he.symm c9)
set_option maxHeartbeats 4000000 in
set_option maxRecDepth 100000 in
theorem lc_under (F : CallFix p m c cL_law 4 s #[Value.ref b] wT RL) (hE : EV D cy ad ta tb s) (hI : AdI ad) (hX : va_X b L xs s s.heap) (hbl : b < s.heap.size) (hbA : ¬ AA ad b) (hl : lv_has ls 4 [(0, .ref b), (1, .ref (ad 0)), (2, .ref (ad 64)), (3, .int (nI i))]) (hi : i + 6 ≤ L) (hL : L ≤ 3072) (hB : Bd D cy ad σ s.heap H locs) (hv : INV σ)
    (kk : ∀ (σ1 : Mem) (H1 : Heap) (locs1 : List Loc), INV σ1 → Bd D cy ad σ1 s.heap H1 locs1 → W p l e room_1 s m #[Value.ref b] below meth c H1 locs1 80 1950 Q (F0 m 1231 ls [])) : W p l e room_1 s m #[Value.ref b] below meth c H locs 80 1950 Q (F0 m 773 ls []) := by
  obtain ⟨o, ho, o2, ho2, he, hv2⟩ := op_under hv (xs (i + 1))
  have F' : CallFix p m c cL_law 4 s #[Value.ref b] wG RL := ⟨F.1, F.2.1, F.2.2.1, F.2.2.2.1, fun w h => F.2.2.2.2 w (wt_G h)⟩
  refine lv_aload_n F.1 F.2.1 dL_law_773 rfl (lv_at hl 1 rfl) ?_
  refine lw_rd F hX hbl hbA hB.2 hl hi hL 1 (by decide) (by decide) dL_law_774 dL_law_775 dL_law_776 dL_law_777 dL_law_778 ?_
  refine q_ci hB (q_goV (As := [.int (xs (i + 1))]) F' hE hB (k_X9_under hI σ _ ho) (cwV 1 F.2.2.2.2 (gt_V wt_m_RL_101 (wt_G wm_i_X9_under) (wt_G wm_s_X9_under) (wt_G wm_n_RX9) (wt_G wm_c_X9_under)) rfl rfl rfl (by decide +kernel) ⟨(Nat.le_of_ble_eq_true rfl), (Nat.le_of_ble_eq_true rfl)⟩) rfl po_0 rfl hl.1 rfl (Nat.le_of_ble_eq_true rfl) dL_law_779 ⟨(Nat.le_of_ble_eq_true rfl), (Nat.le_of_ble_eq_true rfl)⟩) (fun H locs hB => ?_)
  refine lv_aload_n F.1 F.2.1 dL_law_782 rfl (lv_at hl 2 rfl) ?_
  refine lw_rd F hX hbl hbA hB.2 hl hi hL 1 (by decide) (by decide) dL_law_783 dL_law_784 dL_law_785 dL_law_786 dL_law_787 ?_
  refine q_ci hB (q_goV (As := [.int (xs (i + 1))]) F' hE hB (k_X10_under hI o.2 _ ho2) (cwV 1 F.2.2.2.2 (gt_V wt_m_RL_104 wt_i_X10_under wt_s_X10_under (wt_G wm_n_RX10) wt_c_X10_under) rfl rfl rfl (by decide +kernel) ⟨(Nat.le_of_ble_eq_true rfl), (Nat.le_of_ble_eq_true rfl)⟩) rfl po_64 rfl hl.1 rfl (Nat.le_of_ble_eq_true rfl) dL_law_788 ⟨(Nat.le_of_ble_eq_true rfl), (Nat.le_of_ble_eq_true rfl)⟩) (fun H locs hB => ?_)
  exact lv_icmp_eq (tgt := 1231) F.1 F.2.1 dL_law_791 (by decide) (fun _ => kk o2.2 H locs hv2 hB) (fun c9 => absurd he.symm c9)
set_option maxHeartbeats 4000000 in
set_option maxRecDepth 100000 in
theorem lc_ask (F : CallFix p m c cL_law 4 s #[Value.ref b] wT RL) (hE : EV D cy ad ta tb s) (hI : AdI ad) (hX : va_X b L xs s s.heap) (hbl : b < s.heap.size) (hbA : ¬ AA ad b) (hl : lv_has ls 4 [(0, .ref b), (1, .ref (ad 0)), (2, .ref (ad 64)), (3, .int (nI i))]) (hi : i + 6 ≤ L) (hL : L ≤ 3072) (hB : Bd D cy ad σ s.heap H locs) (hv : INV σ)
    (kk : ∀ (σ1 : Mem) (H1 : Heap) (locs1 : List Loc), INV σ1 → Bd D cy ad σ1 s.heap H1 locs1 → W p l e room_1 s m #[Value.ref b] below meth c H1 locs1 80 1950 Q (F0 m 1231 ls [])) : W p l e room_1 s m #[Value.ref b] below meth c H locs 80 1950 Q (F0 m 796 ls []) := by
  obtain ⟨o, ho, o2, ho2, he, hv2⟩ := op_ask hv (xs (i + 1)) (xs (i + 2))
  have F' : CallFix p m c cL_law 4 s #[Value.ref b] wG RL := ⟨F.1, F.2.1, F.2.2.1, F.2.2.2.1, fun w h => F.2.2.2.2 w (wt_G h)⟩
  refine lv_aload_n F.1 F.2.1 dL_law_796 rfl (lv_at hl 1 rfl) ?_
  refine lw_rd F hX hbl hbA hB.2 hl hi hL 1 (by decide) (by decide) dL_law_797 dL_law_798 dL_law_799 dL_law_800 dL_law_801 ?_
  refine lw_rd F hX hbl hbA hB.2 hl hi hL 2 (by decide) (by decide) dL_law_802 dL_law_803 dL_law_804 dL_law_805 dL_law_806 ?_
  refine q_ci hB (q_goV (As := [.int (xs (i + 1)), .int (xs (i + 2))]) F' hE hB (k_X9_ask hI σ _ _ ho) (cwV 2 F.2.2.2.2 (gt_V wt_m_RL_105 (wt_G wm_i_X9_ask) (wt_G wm_s_X9_ask) (wt_G wm_n_RX9) (wt_G wm_c_X9_ask)) rfl rfl rfl (by decide +kernel) ⟨(Nat.le_of_ble_eq_true rfl), (Nat.le_of_ble_eq_true rfl)⟩) rfl po_0 rfl hl.1 rfl (Nat.le_of_ble_eq_true rfl) dL_law_807 ⟨(Nat.le_of_ble_eq_true rfl), (Nat.le_of_ble_eq_true rfl)⟩) (fun H locs hB => ?_)
  refine lv_aload_n F.1 F.2.1 dL_law_810 rfl (lv_at hl 2 rfl) ?_
  refine lw_rd F hX hbl hbA hB.2 hl hi hL 1 (by decide) (by decide) dL_law_811 dL_law_812 dL_law_813 dL_law_814 dL_law_815 ?_
  refine lw_rd F hX hbl hbA hB.2 hl hi hL 2 (by decide) (by decide) dL_law_816 dL_law_817 dL_law_818 dL_law_819 dL_law_820 ?_
  refine q_ci hB (q_goV (As := [.int (xs (i + 1)), .int (xs (i + 2))]) F' hE hB (k_X10_ask hI o.2 _ _ ho2) (cwV 2 F.2.2.2.2 (gt_V wt_m_RL_108 wt_i_X10_ask wt_s_X10_ask (wt_G wm_n_RX10) wt_c_X10_ask) rfl rfl rfl (by decide +kernel) ⟨(Nat.le_of_ble_eq_true rfl), (Nat.le_of_ble_eq_true rfl)⟩) rfl po_64 rfl hl.1 rfl (Nat.le_of_ble_eq_true rfl) dL_law_821 ⟨(Nat.le_of_ble_eq_true rfl), (Nat.le_of_ble_eq_true rfl)⟩) (fun H locs hB => ?_)
  exact lv_icmp_eq (tgt := 1231) F.1 F.2.1 dL_law_824 (by decide) (fun _ => kk o2.2 H locs hv2 hB) (fun c9 => absurd he.symm c9)
set_option maxHeartbeats 4000000 in
set_option maxRecDepth 100000 in
theorem lc_believed (F : CallFix p m c cL_law 4 s #[Value.ref b] wT RL) (hE : EV D cy ad ta tb s) (hI : AdI ad) (hX : va_X b L xs s s.heap) (hbl : b < s.heap.size) (hbA : ¬ AA ad b) (hl : lv_has ls 4 [(0, .ref b), (1, .ref (ad 0)), (2, .ref (ad 64)), (3, .int (nI i))]) (hi : i + 6 ≤ L) (hL : L ≤ 3072) (hB : Bd D cy ad σ s.heap H locs) (hv : INV σ)
    (kk : ∀ (σ1 : Mem) (H1 : Heap) (locs1 : List Loc), INV σ1 → Bd D cy ad σ1 s.heap H1 locs1 → W p l e room_1 s m #[Value.ref b] below meth c H1 locs1 80 1950 Q (F0 m 1231 ls [])) : W p l e room_1 s m #[Value.ref b] below meth c H locs 80 1950 Q (F0 m 829 ls []) := by
  obtain ⟨o, ho, o2, ho2, he, hv2⟩ := op_believed hv (xs (i + 1)) (xs (i + 2)) (xs (i + 3)) (xs (i + 4))
  have F' : CallFix p m c cL_law 4 s #[Value.ref b] wG RL := ⟨F.1, F.2.1, F.2.2.1, F.2.2.2.1, fun w h => F.2.2.2.2 w (wt_G h)⟩
  refine lv_aload_n F.1 F.2.1 dL_law_829 rfl (lv_at hl 1 rfl) ?_
  refine lw_rd F hX hbl hbA hB.2 hl hi hL 1 (by decide) (by decide) dL_law_830 dL_law_831 dL_law_832 dL_law_833 dL_law_834 ?_
  refine lw_rd F hX hbl hbA hB.2 hl hi hL 2 (by decide) (by decide) dL_law_835 dL_law_836 dL_law_837 dL_law_838 dL_law_839 ?_
  refine lw_rd F hX hbl hbA hB.2 hl hi hL 3 (by decide) (by decide) dL_law_840 dL_law_841 dL_law_842 dL_law_843 dL_law_844 ?_
  refine lw_rd F hX hbl hbA hB.2 hl hi hL 4 (by decide) (by decide) dL_law_845 dL_law_846 dL_law_847 dL_law_848 dL_law_849 ?_
  refine q_cl hB (q_goV (As := [.int (xs (i + 1)), .int (xs (i + 2)), .int (xs (i + 3)), .int (xs (i + 4))]) F' hE hB (k_X9_believed hI σ _ _ _ _ ho) (cwV 4 F.2.2.2.2 (gt_V wt_m_RL_109 (wt_G wm_i_X9_believed) (wt_G wm_s_X9_believed) (wt_G wm_n_RX9) (wt_G wm_c_X9_believed)) rfl rfl rfl (by decide +kernel) ⟨(Nat.le_of_ble_eq_true rfl), (Nat.le_of_ble_eq_true rfl)⟩) rfl po_0 rfl hl.1 rfl (Nat.le_of_ble_eq_true rfl) dL_law_850 ⟨(Nat.le_of_ble_eq_true rfl), (Nat.le_of_ble_eq_true rfl)⟩) (fun H locs hB => ?_)
  refine lv_aload_n F.1 F.2.1 dL_law_853 rfl (lv_at hl 2 rfl) ?_
  refine lw_rd F hX hbl hbA hB.2 hl hi hL 1 (by decide) (by decide) dL_law_854 dL_law_855 dL_law_856 dL_law_857 dL_law_858 ?_
  refine lw_rd F hX hbl hbA hB.2 hl hi hL 2 (by decide) (by decide) dL_law_859 dL_law_860 dL_law_861 dL_law_862 dL_law_863 ?_
  refine lw_rd F hX hbl hbA hB.2 hl hi hL 3 (by decide) (by decide) dL_law_864 dL_law_865 dL_law_866 dL_law_867 dL_law_868 ?_
  refine lw_rd F hX hbl hbA hB.2 hl hi hL 4 (by decide) (by decide) dL_law_869 dL_law_870 dL_law_871 dL_law_872 dL_law_873 ?_
  refine q_cl hB (q_goV (As := [.int (xs (i + 1)), .int (xs (i + 2)), .int (xs (i + 3)), .int (xs (i + 4))]) F' hE hB (k_X10_believed hI o.2 _ _ _ _ ho2) (cwV 4 F.2.2.2.2 (gt_V wt_m_RL_113 wt_i_X10_believed wt_s_X10_believed (wt_G wm_n_RX10) wt_c_X10_believed) rfl rfl rfl (by decide +kernel) ⟨(Nat.le_of_ble_eq_true rfl), (Nat.le_of_ble_eq_true rfl)⟩) rfl po_64 rfl hl.1 rfl (Nat.le_of_ble_eq_true rfl) dL_law_874 ⟨(Nat.le_of_ble_eq_true rfl), (Nat.le_of_ble_eq_true rfl)⟩) (fun H locs hB => ?_)
  refine W.lcmp F.1 F.2.1 dL_law_877 ?_
  exact lv_if_eq (tgt := 1231) F.1 F.2.1 dL_law_878 (by decide) (fun _ => kk o2.2 H locs hv2 hB) (fun c9 => absurd (lg_eq he) c9)
set_option maxHeartbeats 4000000 in
set_option maxRecDepth 100000 in
theorem lc_loads (F : CallFix p m c cL_law 4 s #[Value.ref b] wT RL) (hE : EV D cy ad ta tb s) (hI : AdI ad) (hX : va_X b L xs s s.heap) (hbl : b < s.heap.size) (hbA : ¬ AA ad b) (hl : lv_has ls 4 [(0, .ref b), (1, .ref (ad 0)), (2, .ref (ad 64)), (3, .int (nI i))]) (hi : i + 6 ≤ L) (hL : L ≤ 3072) (hB : Bd D cy ad σ s.heap H locs) (hv : INV σ)
    (kk : ∀ (σ1 : Mem) (H1 : Heap) (locs1 : List Loc), INV σ1 → Bd D cy ad σ1 s.heap H1 locs1 → W p l e room_1 s m #[Value.ref b] below meth c H1 locs1 80 1950 Q (F0 m 1231 ls [])) : W p l e room_1 s m #[Value.ref b] below meth c H locs 80 1950 Q (F0 m 883 ls []) := by
  obtain ⟨o, ho, o2, ho2, he, hv2⟩ := op_loads hv (xs (i + 1)) (xs (i + 2)) (xs (i + 3)) (xs (i + 4))
  have F' : CallFix p m c cL_law 4 s #[Value.ref b] wG RL := ⟨F.1, F.2.1, F.2.2.1, F.2.2.2.1, fun w h => F.2.2.2.2 w (wt_G h)⟩
  refine lv_aload_n F.1 F.2.1 dL_law_883 rfl (lv_at hl 1 rfl) ?_
  refine lw_rd F hX hbl hbA hB.2 hl hi hL 1 (by decide) (by decide) dL_law_884 dL_law_885 dL_law_886 dL_law_887 dL_law_888 ?_
  refine lw_rd F hX hbl hbA hB.2 hl hi hL 2 (by decide) (by decide) dL_law_889 dL_law_890 dL_law_891 dL_law_892 dL_law_893 ?_
  refine lw_rd F hX hbl hbA hB.2 hl hi hL 3 (by decide) (by decide) dL_law_894 dL_law_895 dL_law_896 dL_law_897 dL_law_898 ?_
  refine lw_rd F hX hbl hbA hB.2 hl hi hL 4 (by decide) (by decide) dL_law_899 dL_law_900 dL_law_901 dL_law_902 dL_law_903 ?_
  refine q_ci hB (q_goV (As := [.int (xs (i + 1)), .int (xs (i + 2)), .int (xs (i + 3)), .int (xs (i + 4))]) F' hE hB (k_X9_loads hI σ _ _ _ _ ho) (cwV 4 F.2.2.2.2 (gt_V wt_m_RL_114 (wt_G wm_i_X9_loads) (wt_G wm_s_X9_loads) (wt_G wm_n_RX9) (wt_G wm_c_X9_loads)) rfl rfl rfl (by decide +kernel) ⟨(Nat.le_of_ble_eq_true rfl), (Nat.le_of_ble_eq_true rfl)⟩) rfl po_0 rfl hl.1 rfl (Nat.le_of_ble_eq_true rfl) dL_law_904 ⟨(Nat.le_of_ble_eq_true rfl), (Nat.le_of_ble_eq_true rfl)⟩) (fun H locs hB => ?_)
  refine lv_aload_n F.1 F.2.1 dL_law_907 rfl (lv_at hl 2 rfl) ?_
  refine lw_rd F hX hbl hbA hB.2 hl hi hL 1 (by decide) (by decide) dL_law_908 dL_law_909 dL_law_910 dL_law_911 dL_law_912 ?_
  refine lw_rd F hX hbl hbA hB.2 hl hi hL 2 (by decide) (by decide) dL_law_913 dL_law_914 dL_law_915 dL_law_916 dL_law_917 ?_
  refine lw_rd F hX hbl hbA hB.2 hl hi hL 3 (by decide) (by decide) dL_law_918 dL_law_919 dL_law_920 dL_law_921 dL_law_922 ?_
  refine lw_rd F hX hbl hbA hB.2 hl hi hL 4 (by decide) (by decide) dL_law_923 dL_law_924 dL_law_925 dL_law_926 dL_law_927 ?_
  refine q_ci hB (q_goV (As := [.int (xs (i + 1)), .int (xs (i + 2)), .int (xs (i + 3)), .int (xs (i + 4))]) F' hE hB (k_X10_loads hI o.2 _ _ _ _ ho2) (cwV 4 F.2.2.2.2 (gt_V wt_m_RL_118 wt_i_X10_loads wt_s_X10_loads (wt_G wm_n_RX10) wt_c_X10_loads) rfl rfl rfl (by decide +kernel) ⟨(Nat.le_of_ble_eq_true rfl), (Nat.le_of_ble_eq_true rfl)⟩) rfl po_64 rfl hl.1 rfl (Nat.le_of_ble_eq_true rfl) dL_law_928 ⟨(Nat.le_of_ble_eq_true rfl), (Nat.le_of_ble_eq_true rfl)⟩) (fun H locs hB => ?_)
  exact lv_icmp_eq (tgt := 1231) F.1 F.2.1 dL_law_931 (by decide) (fun _ => kk o2.2 H locs hv2 hB) (fun c9 => absurd he.symm c9)
set_option maxHeartbeats 4000000 in
set_option maxRecDepth 100000 in
theorem lc_sheet (F : CallFix p m c cL_law 4 s #[Value.ref b] wT RL) (hE : EV D cy ad ta tb s) (hI : AdI ad) (hX : va_X b L xs s s.heap) (hbl : b < s.heap.size) (hbA : ¬ AA ad b) (hl : lv_has ls 4 [(0, .ref b), (1, .ref (ad 0)), (2, .ref (ad 64)), (3, .int (nI i))]) (hi : i + 6 ≤ L) (hL : L ≤ 3072) (hB : Bd D cy ad σ s.heap H locs) (hv : INV σ)
    (kk : ∀ (σ1 : Mem) (H1 : Heap) (locs1 : List Loc), INV σ1 → Bd D cy ad σ1 s.heap H1 locs1 → W p l e room_1 s m #[Value.ref b] below meth c H1 locs1 80 1950 Q (F0 m 1231 ls [])) : W p l e room_1 s m #[Value.ref b] below meth c H locs 80 1950 Q (F0 m 936 ls []) := by
  obtain ⟨o, ho, o2, ho2, he, hv2⟩ := op_sheet hv (xs (i + 1)) (xs (i + 2)) (xs (i + 3))
  have F' : CallFix p m c cL_law 4 s #[Value.ref b] wG RL := ⟨F.1, F.2.1, F.2.2.1, F.2.2.2.1, fun w h => F.2.2.2.2 w (wt_G h)⟩
  refine lv_aload_n F.1 F.2.1 dL_law_936 rfl (lv_at hl 1 rfl) ?_
  refine lw_rd F hX hbl hbA hB.2 hl hi hL 1 (by decide) (by decide) dL_law_937 dL_law_938 dL_law_939 dL_law_940 dL_law_941 ?_
  refine lw_rd F hX hbl hbA hB.2 hl hi hL 2 (by decide) (by decide) dL_law_942 dL_law_943 dL_law_944 dL_law_945 dL_law_946 ?_
  refine lw_rd F hX hbl hbA hB.2 hl hi hL 3 (by decide) (by decide) dL_law_947 dL_law_948 dL_law_949 dL_law_950 dL_law_951 ?_
  refine q_ci hB (q_goV (As := [.int (xs (i + 1)), .int (xs (i + 2)), .int (xs (i + 3))]) F' hE hB (k_X9_sheet hI σ _ _ _ ho) (cwV 3 F.2.2.2.2 (gt_V wt_m_RL_119 wt_i_X9_sheet wt_s_X9_sheet (wt_G wm_n_RX9) wt_c_X9_sheet) rfl rfl rfl (by decide +kernel) ⟨(Nat.le_of_ble_eq_true rfl), (Nat.le_of_ble_eq_true rfl)⟩) rfl po_0 rfl hl.1 rfl (Nat.le_of_ble_eq_true rfl) dL_law_952 ⟨(Nat.le_of_ble_eq_true rfl), (Nat.le_of_ble_eq_true rfl)⟩) (fun H locs hB => ?_)
  refine lv_aload_n F.1 F.2.1 dL_law_955 rfl (lv_at hl 2 rfl) ?_
  refine lw_rd F hX hbl hbA hB.2 hl hi hL 1 (by decide) (by decide) dL_law_956 dL_law_957 dL_law_958 dL_law_959 dL_law_960 ?_
  refine lw_rd F hX hbl hbA hB.2 hl hi hL 2 (by decide) (by decide) dL_law_961 dL_law_962 dL_law_963 dL_law_964 dL_law_965 ?_
  refine lw_rd F hX hbl hbA hB.2 hl hi hL 3 (by decide) (by decide) dL_law_966 dL_law_967 dL_law_968 dL_law_969 dL_law_970 ?_
  refine q_ci hB (q_goV (As := [.int (xs (i + 1)), .int (xs (i + 2)), .int (xs (i + 3))]) F' hE hB (k_X10_sheet hI o.2 _ _ _ ho2) (cwV 3 F.2.2.2.2 (gt_V wt_m_RL_122 wt_i_X10_sheet wt_s_X10_sheet (wt_G wm_n_RX10) wt_c_X10_sheet) rfl rfl rfl (by decide +kernel) ⟨(Nat.le_of_ble_eq_true rfl), (Nat.le_of_ble_eq_true rfl)⟩) rfl po_64 rfl hl.1 rfl (Nat.le_of_ble_eq_true rfl) dL_law_971 ⟨(Nat.le_of_ble_eq_true rfl), (Nat.le_of_ble_eq_true rfl)⟩) (fun H locs hB => ?_)
  exact lv_icmp_eq (tgt := 1231) F.1 F.2.1 dL_law_974 (by decide) (fun _ => kk o2.2 H locs hv2 hB) (fun c9 => absurd he.symm c9)
set_option maxHeartbeats 4000000 in
set_option maxRecDepth 100000 in
theorem lc_lose (F : CallFix p m c cL_law 4 s #[Value.ref b] wT RL) (hE : EV D cy ad ta tb s) (hI : AdI ad) (hX : va_X b L xs s s.heap) (hbl : b < s.heap.size) (hbA : ¬ AA ad b) (hl : lv_has ls 4 [(0, .ref b), (1, .ref (ad 0)), (2, .ref (ad 64)), (3, .int (nI i))]) (hi : i + 6 ≤ L) (hL : L ≤ 3072) (hB : Bd D cy ad σ s.heap H locs) (hv : INV σ)
    (kk : ∀ (σ1 : Mem) (H1 : Heap) (locs1 : List Loc), INV σ1 → Bd D cy ad σ1 s.heap H1 locs1 → W p l e room_1 s m #[Value.ref b] below meth c H1 locs1 80 1950 Q (F0 m 1231 ls [])) : W p l e room_1 s m #[Value.ref b] below meth c H locs 80 1950 Q (F0 m 979 ls []) := by
  obtain ⟨o, ho, o2, ho2, he, hv2⟩ := op_lose hv (xs (i + 1))
  have F' : CallFix p m c cL_law 4 s #[Value.ref b] wG RL := ⟨F.1, F.2.1, F.2.2.1, F.2.2.2.1, fun w h => F.2.2.2.2 w (wt_G h)⟩
  refine lv_aload_n F.1 F.2.1 dL_law_979 rfl (lv_at hl 1 rfl) ?_
  refine lw_rd F hX hbl hbA hB.2 hl hi hL 1 (by decide) (by decide) dL_law_980 dL_law_981 dL_law_982 dL_law_983 dL_law_984 ?_
  refine q_ci hB (q_goV (As := [.int (xs (i + 1))]) F' hE hB (k_X9_lose hI σ _ ho) (cwV 1 F.2.2.2.2 (gt_V wt_m_RL_123 wt_i_X9_lose wt_s_X9_lose (wt_G wm_n_RX9) wt_c_X9_lose) rfl rfl rfl (by decide +kernel) ⟨(Nat.le_of_ble_eq_true rfl), (Nat.le_of_ble_eq_true rfl)⟩) rfl po_0 rfl hl.1 rfl (Nat.le_of_ble_eq_true rfl) dL_law_985 ⟨(Nat.le_of_ble_eq_true rfl), (Nat.le_of_ble_eq_true rfl)⟩) (fun H locs hB => ?_)
  refine lv_aload_n F.1 F.2.1 dL_law_988 rfl (lv_at hl 2 rfl) ?_
  refine lw_rd F hX hbl hbA hB.2 hl hi hL 1 (by decide) (by decide) dL_law_989 dL_law_990 dL_law_991 dL_law_992 dL_law_993 ?_
  refine q_ci hB (q_goV (As := [.int (xs (i + 1))]) F' hE hB (k_X10_lose hI o.2 _ ho2) (cwV 1 F.2.2.2.2 (gt_V wt_m_RL_126 wt_i_X10_lose wt_s_X10_lose (wt_G wm_n_RX10) wt_c_X10_lose) rfl rfl rfl (by decide +kernel) ⟨(Nat.le_of_ble_eq_true rfl), (Nat.le_of_ble_eq_true rfl)⟩) rfl po_64 rfl hl.1 rfl (Nat.le_of_ble_eq_true rfl) dL_law_994 ⟨(Nat.le_of_ble_eq_true rfl), (Nat.le_of_ble_eq_true rfl)⟩) (fun H locs hB => ?_)
  exact lv_icmp_eq (tgt := 1231) F.1 F.2.1 dL_law_997 (by decide) (fun _ => kk o2.2 H locs hv2 hB) (fun c9 => absurd he.symm c9)
set_option maxHeartbeats 4000000 in
set_option maxRecDepth 100000 in
theorem lc_lay (F : CallFix p m c cL_law 4 s #[Value.ref b] wT RL) (hE : EV D cy ad ta tb s) (hI : AdI ad) (hX : va_X b L xs s s.heap) (hbl : b < s.heap.size) (hbA : ¬ AA ad b) (hl : lv_has ls 4 [(0, .ref b), (1, .ref (ad 0)), (2, .ref (ad 64)), (3, .int (nI i))]) (hi : i + 6 ≤ L) (hL : L ≤ 3072) (hB : Bd D cy ad σ s.heap H locs) (hv : INV σ)
    (kk : ∀ (σ1 : Mem) (H1 : Heap) (locs1 : List Loc), INV σ1 → Bd D cy ad σ1 s.heap H1 locs1 → W p l e room_1 s m #[Value.ref b] below meth c H1 locs1 80 1950 Q (F0 m 1231 ls [])) : W p l e room_1 s m #[Value.ref b] below meth c H locs 80 1950 Q (F0 m 1002 ls []) := by
  obtain ⟨o, ho, o2, ho2, he, hv2⟩ := op_lay hv (xs (i + 1)) (xs (i + 2)) (xs (i + 3)) (xs (i + 4))
  have F' : CallFix p m c cL_law 4 s #[Value.ref b] wG RL := ⟨F.1, F.2.1, F.2.2.1, F.2.2.2.1, fun w h => F.2.2.2.2 w (wt_G h)⟩
  refine lv_aload_n F.1 F.2.1 dL_law_1002 rfl (lv_at hl 1 rfl) ?_
  refine lw_rd F hX hbl hbA hB.2 hl hi hL 1 (by decide) (by decide) dL_law_1003 dL_law_1004 dL_law_1005 dL_law_1006 dL_law_1007 ?_
  refine lw_rd F hX hbl hbA hB.2 hl hi hL 2 (by decide) (by decide) dL_law_1008 dL_law_1009 dL_law_1010 dL_law_1011 dL_law_1012 ?_
  refine lw_rd F hX hbl hbA hB.2 hl hi hL 3 (by decide) (by decide) dL_law_1013 dL_law_1014 dL_law_1015 dL_law_1016 dL_law_1017 ?_
  refine lw_rd F hX hbl hbA hB.2 hl hi hL 4 (by decide) (by decide) dL_law_1018 dL_law_1019 dL_law_1020 dL_law_1021 dL_law_1022 ?_
  refine q_ci hB (q_goV (As := [.int (xs (i + 1)), .int (xs (i + 2)), .int (xs (i + 3)), .int (xs (i + 4))]) F' hE hB (k_X9_lay hI σ _ _ _ _ ho) (cwV 4 F.2.2.2.2 (gt_V wt_m_RL_127 wt_i_X9_lay wt_s_X9_lay (wt_G wm_n_RX9) wt_c_X9_lay) rfl rfl rfl (by decide +kernel) ⟨(Nat.le_of_ble_eq_true rfl), (Nat.le_of_ble_eq_true rfl)⟩) rfl po_0 rfl hl.1 rfl (Nat.le_of_ble_eq_true rfl) dL_law_1023 ⟨(Nat.le_of_ble_eq_true rfl), (Nat.le_of_ble_eq_true rfl)⟩) (fun H locs hB => ?_)
  refine lv_aload_n F.1 F.2.1 dL_law_1026 rfl (lv_at hl 2 rfl) ?_
  refine lw_rd F hX hbl hbA hB.2 hl hi hL 1 (by decide) (by decide) dL_law_1027 dL_law_1028 dL_law_1029 dL_law_1030 dL_law_1031 ?_
  refine lw_rd F hX hbl hbA hB.2 hl hi hL 2 (by decide) (by decide) dL_law_1032 dL_law_1033 dL_law_1034 dL_law_1035 dL_law_1036 ?_
  refine lw_rd F hX hbl hbA hB.2 hl hi hL 3 (by decide) (by decide) dL_law_1037 dL_law_1038 dL_law_1039 dL_law_1040 dL_law_1041 ?_
  refine lw_rd F hX hbl hbA hB.2 hl hi hL 4 (by decide) (by decide) dL_law_1042 dL_law_1043 dL_law_1044 dL_law_1045 dL_law_1046 ?_
  refine q_ci hB (q_goV (As := [.int (xs (i + 1)), .int (xs (i + 2)), .int (xs (i + 3)), .int (xs (i + 4))]) F' hE hB (k_X10_lay hI o.2 _ _ _ _ ho2) (cwV 4 F.2.2.2.2 (gt_V wt_m_RL_130 wt_i_X10_lay wt_s_X10_lay (wt_G wm_n_RX10) wt_c_X10_lay) rfl rfl rfl (by decide +kernel) ⟨(Nat.le_of_ble_eq_true rfl), (Nat.le_of_ble_eq_true rfl)⟩) rfl po_64 rfl hl.1 rfl (Nat.le_of_ble_eq_true rfl) dL_law_1047 ⟨(Nat.le_of_ble_eq_true rfl), (Nat.le_of_ble_eq_true rfl)⟩) (fun H locs hB => ?_)
  exact lv_icmp_eq (tgt := 1231) F.1 F.2.1 dL_law_1050 (by decide) (fun _ => kk o2.2 H locs hv2 hB) (fun c9 => absurd he.symm c9)
set_option maxHeartbeats 4000000 in
set_option maxRecDepth 100000 in
theorem lc_get (F : CallFix p m c cL_law 4 s #[Value.ref b] wT RL) (hE : EV D cy ad ta tb s) (hI : AdI ad) (hX : va_X b L xs s s.heap) (hbl : b < s.heap.size) (hbA : ¬ AA ad b) (hl : lv_has ls 4 [(0, .ref b), (1, .ref (ad 0)), (2, .ref (ad 64)), (3, .int (nI i))]) (hi : i + 6 ≤ L) (hL : L ≤ 3072) (hB : Bd D cy ad σ s.heap H locs) (hv : INV σ)
    (kk : ∀ (σ1 : Mem) (H1 : Heap) (locs1 : List Loc), INV σ1 → Bd D cy ad σ1 s.heap H1 locs1 → W p l e room_1 s m #[Value.ref b] below meth c H1 locs1 80 1950 Q (F0 m 1231 ls [])) : W p l e room_1 s m #[Value.ref b] below meth c H locs 80 1950 Q (F0 m 1055 ls []) := by
  obtain ⟨o, ho, o2, ho2, he, hv2⟩ := op_get hv (xs (i + 1)) (xs (i + 2)) (xs (i + 3))
  have F' : CallFix p m c cL_law 4 s #[Value.ref b] wG RL := ⟨F.1, F.2.1, F.2.2.1, F.2.2.2.1, fun w h => F.2.2.2.2 w (wt_G h)⟩
  refine lv_aload_n F.1 F.2.1 dL_law_1055 rfl (lv_at hl 1 rfl) ?_
  refine lw_rd F hX hbl hbA hB.2 hl hi hL 1 (by decide) (by decide) dL_law_1056 dL_law_1057 dL_law_1058 dL_law_1059 dL_law_1060 ?_
  refine lw_rd F hX hbl hbA hB.2 hl hi hL 2 (by decide) (by decide) dL_law_1061 dL_law_1062 dL_law_1063 dL_law_1064 dL_law_1065 ?_
  refine lw_rd F hX hbl hbA hB.2 hl hi hL 3 (by decide) (by decide) dL_law_1066 dL_law_1067 dL_law_1068 dL_law_1069 dL_law_1070 ?_
  refine q_ci hB (q_goV (As := [.int (xs (i + 1)), .int (xs (i + 2)), .int (xs (i + 3))]) F' hE hB (k_X9_get hI σ _ _ _ ho) (cwV 3 F.2.2.2.2 (gt_V wt_m_RL_131 wt_i_X9_get wt_s_X9_get (wt_G wm_n_RX9) wt_c_X9_get) rfl rfl rfl (by decide +kernel) ⟨(Nat.le_of_ble_eq_true rfl), (Nat.le_of_ble_eq_true rfl)⟩) rfl po_0 rfl hl.1 rfl (Nat.le_of_ble_eq_true rfl) dL_law_1071 ⟨(Nat.le_of_ble_eq_true rfl), (Nat.le_of_ble_eq_true rfl)⟩) (fun H locs hB => ?_)
  refine lv_aload_n F.1 F.2.1 dL_law_1074 rfl (lv_at hl 2 rfl) ?_
  refine lw_rd F hX hbl hbA hB.2 hl hi hL 1 (by decide) (by decide) dL_law_1075 dL_law_1076 dL_law_1077 dL_law_1078 dL_law_1079 ?_
  refine lw_rd F hX hbl hbA hB.2 hl hi hL 2 (by decide) (by decide) dL_law_1080 dL_law_1081 dL_law_1082 dL_law_1083 dL_law_1084 ?_
  refine lw_rd F hX hbl hbA hB.2 hl hi hL 3 (by decide) (by decide) dL_law_1085 dL_law_1086 dL_law_1087 dL_law_1088 dL_law_1089 ?_
  refine q_ci hB (q_goV (As := [.int (xs (i + 1)), .int (xs (i + 2)), .int (xs (i + 3))]) F' hE hB (k_X10_get hI o.2 _ _ _ ho2) (cwV 3 F.2.2.2.2 (gt_V wt_m_RL_134 wt_i_X10_get wt_s_X10_get (wt_G wm_n_RX10) wt_c_X10_get) rfl rfl rfl (by decide +kernel) ⟨(Nat.le_of_ble_eq_true rfl), (Nat.le_of_ble_eq_true rfl)⟩) rfl po_64 rfl hl.1 rfl (Nat.le_of_ble_eq_true rfl) dL_law_1090 ⟨(Nat.le_of_ble_eq_true rfl), (Nat.le_of_ble_eq_true rfl)⟩) (fun H locs hB => ?_)
  exact lv_icmp_eq (tgt := 1231) F.1 F.2.1 dL_law_1093 (by decide) (fun _ => kk o2.2 H locs hv2 hB) (fun c9 => absurd he.symm c9)
set_option maxHeartbeats 4000000 in
set_option maxRecDepth 100000 in
theorem lc_copy (F : CallFix p m c cL_law 4 s #[Value.ref b] wT RL) (hE : EV D cy ad ta tb s) (hI : AdI ad) (hX : va_X b L xs s s.heap) (hbl : b < s.heap.size) (hbA : ¬ AA ad b) (hl : lv_has ls 4 [(0, .ref b), (1, .ref (ad 0)), (2, .ref (ad 64)), (3, .int (nI i))]) (hi : i + 6 ≤ L) (hL : L ≤ 3072) (hB : Bd D cy ad σ s.heap H locs) (hv : INV σ)
    (kk : ∀ (σ1 : Mem) (H1 : Heap) (locs1 : List Loc), INV σ1 → Bd D cy ad σ1 s.heap H1 locs1 → W p l e room_1 s m #[Value.ref b] below meth c H1 locs1 80 1950 Q (F0 m 1231 ls [])) : W p l e room_1 s m #[Value.ref b] below meth c H locs 80 1950 Q (F0 m 1098 ls []) := by
  obtain ⟨o, ho, o2, ho2, he, hv2⟩ := op_copy hv (xs (i + 1)) (xs (i + 2)) (xs (i + 3)) (xs (i + 4)) (xs (i + 5))
  have F' : CallFix p m c cL_law 4 s #[Value.ref b] wG RL := ⟨F.1, F.2.1, F.2.2.1, F.2.2.2.1, fun w h => F.2.2.2.2 w (wt_G h)⟩
  refine lv_aload_n F.1 F.2.1 dL_law_1098 rfl (lv_at hl 1 rfl) ?_
  refine lw_rd F hX hbl hbA hB.2 hl hi hL 1 (by decide) (by decide) dL_law_1099 dL_law_1100 dL_law_1101 dL_law_1102 dL_law_1103 ?_
  refine lw_rd F hX hbl hbA hB.2 hl hi hL 2 (by decide) (by decide) dL_law_1104 dL_law_1105 dL_law_1106 dL_law_1107 dL_law_1108 ?_
  refine lw_rd F hX hbl hbA hB.2 hl hi hL 3 (by decide) (by decide) dL_law_1109 dL_law_1110 dL_law_1111 dL_law_1112 dL_law_1113 ?_
  refine lw_rd F hX hbl hbA hB.2 hl hi hL 4 (by decide) (by decide) dL_law_1114 dL_law_1115 dL_law_1116 dL_law_1117 dL_law_1118 ?_
  refine lw_rd F hX hbl hbA hB.2 hl hi hL 5 (by decide) (by decide) dL_law_1119 dL_law_1120 dL_law_1121 dL_law_1122 dL_law_1123 ?_
  refine q_ci hB (q_goV (As := [.int (xs (i + 1)), .int (xs (i + 2)), .int (xs (i + 3)), .int (xs (i + 4)), .int (xs (i + 5))]) F' hE hB (k_X9_copy hI σ _ _ _ _ _ ho) (cwV 5 F.2.2.2.2 (gt_V wt_m_RL_135 wt_i_X9_copy wt_s_X9_copy (wt_G wm_n_RX9) wt_c_X9_copy) rfl rfl rfl (by decide +kernel) ⟨(Nat.le_of_ble_eq_true rfl), (Nat.le_of_ble_eq_true rfl)⟩) rfl po_0 rfl hl.1 rfl (Nat.le_of_ble_eq_true rfl) dL_law_1124 ⟨(Nat.le_of_ble_eq_true rfl), (Nat.le_of_ble_eq_true rfl)⟩) (fun H locs hB => ?_)
  refine lv_aload_n F.1 F.2.1 dL_law_1127 rfl (lv_at hl 2 rfl) ?_
  refine lw_rd F hX hbl hbA hB.2 hl hi hL 1 (by decide) (by decide) dL_law_1128 dL_law_1129 dL_law_1130 dL_law_1131 dL_law_1132 ?_
  refine lw_rd F hX hbl hbA hB.2 hl hi hL 2 (by decide) (by decide) dL_law_1133 dL_law_1134 dL_law_1135 dL_law_1136 dL_law_1137 ?_
  refine lw_rd F hX hbl hbA hB.2 hl hi hL 3 (by decide) (by decide) dL_law_1138 dL_law_1139 dL_law_1140 dL_law_1141 dL_law_1142 ?_
  refine lw_rd F hX hbl hbA hB.2 hl hi hL 4 (by decide) (by decide) dL_law_1143 dL_law_1144 dL_law_1145 dL_law_1146 dL_law_1147 ?_
  refine lw_rd F hX hbl hbA hB.2 hl hi hL 5 (by decide) (by decide) dL_law_1148 dL_law_1149 dL_law_1150 dL_law_1151 dL_law_1152 ?_
  refine q_ci hB (q_goV (As := [.int (xs (i + 1)), .int (xs (i + 2)), .int (xs (i + 3)), .int (xs (i + 4)), .int (xs (i + 5))]) F' hE hB (k_X10_copy hI o.2 _ _ _ _ _ ho2) (cwV 5 F.2.2.2.2 (gt_V wt_m_RL_139 wt_i_X10_copy wt_s_X10_copy (wt_G wm_n_RX10) wt_c_X10_copy) rfl rfl rfl (by decide +kernel) ⟨(Nat.le_of_ble_eq_true rfl), (Nat.le_of_ble_eq_true rfl)⟩) rfl po_64 rfl hl.1 rfl (Nat.le_of_ble_eq_true rfl) dL_law_1153 ⟨(Nat.le_of_ble_eq_true rfl), (Nat.le_of_ble_eq_true rfl)⟩) (fun H locs hB => ?_)
  exact lv_icmp_eq (tgt := 1231) F.1 F.2.1 dL_law_1156 (by decide) (fun _ => kk o2.2 H locs hv2 hB) (fun c9 => absurd he.symm c9)
set_option maxHeartbeats 4000000 in
set_option maxRecDepth 100000 in
theorem lc_write (F : CallFix p m c cL_law 4 s #[Value.ref b] wT RL) (hE : EV D cy ad ta tb s) (hI : AdI ad) (hX : va_X b L xs s s.heap) (hbl : b < s.heap.size) (hbA : ¬ AA ad b) (hl : lv_has ls 4 [(0, .ref b), (1, .ref (ad 0)), (2, .ref (ad 64)), (3, .int (nI i))]) (hi : i + 6 ≤ L) (hL : L ≤ 3072) (hB : Bd D cy ad σ s.heap H locs) (hv : INV σ)
    (kk : ∀ (σ1 : Mem) (H1 : Heap) (locs1 : List Loc), INV σ1 → Bd D cy ad σ1 s.heap H1 locs1 → W p l e room_1 s m #[Value.ref b] below meth c H1 locs1 80 1950 Q (F0 m 1231 ls [])) : W p l e room_1 s m #[Value.ref b] below meth c H locs 80 1950 Q (F0 m 1161 ls []) := by
  obtain ⟨o, ho, o2, ho2, he, hv2⟩ := op_write hv (xs (i + 1)) (xs (i + 2))
  have F' : CallFix p m c cL_law 4 s #[Value.ref b] wG RL := ⟨F.1, F.2.1, F.2.2.1, F.2.2.2.1, fun w h => F.2.2.2.2 w (wt_G h)⟩
  refine lv_aload_n F.1 F.2.1 dL_law_1161 rfl (lv_at hl 1 rfl) ?_
  refine lw_rd F hX hbl hbA hB.2 hl hi hL 1 (by decide) (by decide) dL_law_1162 dL_law_1163 dL_law_1164 dL_law_1165 dL_law_1166 ?_
  refine lw_rd F hX hbl hbA hB.2 hl hi hL 2 (by decide) (by decide) dL_law_1167 dL_law_1168 dL_law_1169 dL_law_1170 dL_law_1171 ?_
  refine q_ci hB (q_goV (As := [.int (xs (i + 1)), .int (xs (i + 2))]) F' hE hB (k_X9_write hI σ _ _ ho) (cwV 2 F.2.2.2.2 (gt_V wt_m_RL_140 wt_i_X9_write wt_s_X9_write (wt_G wm_n_RX9) wt_c_X9_write) rfl rfl rfl (by decide +kernel) ⟨(Nat.le_of_ble_eq_true rfl), (Nat.le_of_ble_eq_true rfl)⟩) rfl po_0 rfl hl.1 rfl (Nat.le_of_ble_eq_true rfl) dL_law_1172 ⟨(Nat.le_of_ble_eq_true rfl), (Nat.le_of_ble_eq_true rfl)⟩) (fun H locs hB => ?_)
  refine lv_aload_n F.1 F.2.1 dL_law_1175 rfl (lv_at hl 2 rfl) ?_
  refine lw_rd F hX hbl hbA hB.2 hl hi hL 1 (by decide) (by decide) dL_law_1176 dL_law_1177 dL_law_1178 dL_law_1179 dL_law_1180 ?_
  refine lw_rd F hX hbl hbA hB.2 hl hi hL 2 (by decide) (by decide) dL_law_1181 dL_law_1182 dL_law_1183 dL_law_1184 dL_law_1185 ?_
  refine q_ci hB (q_goV (As := [.int (xs (i + 1)), .int (xs (i + 2))]) F' hE hB (k_X10_write hI o.2 _ _ ho2) (cwV 2 F.2.2.2.2 (gt_V wt_m_RL_143 wt_i_X10_write wt_s_X10_write (wt_G wm_n_RX10) wt_c_X10_write) rfl rfl rfl (by decide +kernel) ⟨(Nat.le_of_ble_eq_true rfl), (Nat.le_of_ble_eq_true rfl)⟩) rfl po_64 rfl hl.1 rfl (Nat.le_of_ble_eq_true rfl) dL_law_1186 ⟨(Nat.le_of_ble_eq_true rfl), (Nat.le_of_ble_eq_true rfl)⟩) (fun H locs hB => ?_)
  exact lv_icmp_eq (tgt := 1231) F.1 F.2.1 dL_law_1189 (by decide) (fun _ => kk o2.2 H locs hv2 hB) (fun c9 => absurd he.symm c9)
set_option maxHeartbeats 4000000 in
set_option maxRecDepth 100000 in
theorem lc_count (F : CallFix p m c cL_law 4 s #[Value.ref b] wT RL) (hE : EV D cy ad ta tb s) (hI : AdI ad) (hX : va_X b L xs s s.heap) (hbl : b < s.heap.size) (hbA : ¬ AA ad b) (hl : lv_has ls 4 [(0, .ref b), (1, .ref (ad 0)), (2, .ref (ad 64)), (3, .int (nI i))]) (hi : i + 6 ≤ L) (hL : L ≤ 3072) (hB : Bd D cy ad σ s.heap H locs) (hv : INV σ)
    (kk : ∀ (σ1 : Mem) (H1 : Heap) (locs1 : List Loc), INV σ1 → Bd D cy ad σ1 s.heap H1 locs1 → W p l e room_1 s m #[Value.ref b] below meth c H1 locs1 80 1950 Q (F0 m 1231 ls [])) : W p l e room_1 s m #[Value.ref b] below meth c H locs 80 1950 Q (F0 m 1194 ls []) := by
  obtain ⟨o, ho, o2, ho2, he, hv2⟩ := op_count hv (xs (i + 1))
  have F' : CallFix p m c cL_law 4 s #[Value.ref b] wG RL := ⟨F.1, F.2.1, F.2.2.1, F.2.2.2.1, fun w h => F.2.2.2.2 w (wt_G h)⟩
  refine lv_aload_n F.1 F.2.1 dL_law_1194 rfl (lv_at hl 1 rfl) ?_
  refine lw_rd F hX hbl hbA hB.2 hl hi hL 1 (by decide) (by decide) dL_law_1195 dL_law_1196 dL_law_1197 dL_law_1198 dL_law_1199 ?_
  refine q_ci hB (q_goV (As := [.int (xs (i + 1))]) F' hE hB (k_X9_count hI σ _ ho) (cwV 1 F.2.2.2.2 (gt_V wt_m_RL_144 (wt_G wm_i_X9_count) (wt_G wm_s_X9_count) (wt_G wm_n_RX9) (wt_G wm_c_X9_count)) rfl rfl rfl (by decide +kernel) ⟨(Nat.le_of_ble_eq_true rfl), (Nat.le_of_ble_eq_true rfl)⟩) rfl po_0 rfl hl.1 rfl (Nat.le_of_ble_eq_true rfl) dL_law_1200 ⟨(Nat.le_of_ble_eq_true rfl), (Nat.le_of_ble_eq_true rfl)⟩) (fun H locs hB => ?_)
  refine lv_aload_n F.1 F.2.1 dL_law_1203 rfl (lv_at hl 2 rfl) ?_
  refine lw_rd F hX hbl hbA hB.2 hl hi hL 1 (by decide) (by decide) dL_law_1204 dL_law_1205 dL_law_1206 dL_law_1207 dL_law_1208 ?_
  refine q_ci hB (q_goV (As := [.int (xs (i + 1))]) F' hE hB (k_X10_count hI σ _ ho2) (cwV 1 F.2.2.2.2 (gt_V wt_m_RL_147 (wt_G wm_i_X10_count) (wt_G wm_s_X10_count) (wt_G wm_n_RX10) (wt_G wm_c_X10_count)) rfl rfl rfl (by decide +kernel) ⟨(Nat.le_of_ble_eq_true rfl), (Nat.le_of_ble_eq_true rfl)⟩) rfl po_64 rfl hl.1 rfl (Nat.le_of_ble_eq_true rfl) dL_law_1209 ⟨(Nat.le_of_ble_eq_true rfl), (Nat.le_of_ble_eq_true rfl)⟩) (fun H locs hB => ?_)
  exact lv_icmp_eq (tgt := 1231) F.1 F.2.1 dL_law_1212 (by decide) (fun _ => kk o2.2 H locs hv2 hB) (fun c9 => absurd he.symm c9)
set_option maxHeartbeats 4000000 in
set_option maxRecDepth 100000 in
theorem lc_digest (F : CallFix p m c cL_law 4 s #[Value.ref b] wT RL) (hE : EV D cy ad ta tb s) (hI : AdI ad) (hX : va_X b L xs s s.heap) (hbl : b < s.heap.size) (hbA : ¬ AA ad b) (hl : lv_has ls 4 [(0, .ref b), (1, .ref (ad 0)), (2, .ref (ad 64)), (3, .int (nI i))]) (hi : i + 6 ≤ L) (hL : L ≤ 3072) (hB : Bd D cy ad σ s.heap H locs) (hv : INV σ)
    (kk : ∀ (σ1 : Mem) (H1 : Heap) (locs1 : List Loc), INV σ1 → Bd D cy ad σ1 s.heap H1 locs1 → W p l e room_1 s m #[Value.ref b] below meth c H1 locs1 80 1950 Q (F0 m 1231 ls [])) : W p l e room_1 s m #[Value.ref b] below meth c H locs 80 1950 Q (F0 m 1217 ls []) := by
  obtain ⟨o, ho, o2, ho2, he, hv2⟩ := op_digest hv 
  have F' : CallFix p m c cL_law 4 s #[Value.ref b] wG RL := ⟨F.1, F.2.1, F.2.2.1, F.2.2.2.1, fun w h => F.2.2.2.2 w (wt_G h)⟩
  refine lv_aload_n F.1 F.2.1 dL_law_1217 rfl (lv_at hl 1 rfl) ?_
  refine q_cl hB (q_goV (As := []) F' hE hB (k_X9_digest hI σ  ho) (cwV 0 F.2.2.2.2 (gt_V wt_m_RL_148 wt_i_X9_digest wt_s_X9_digest (wt_G wm_n_RX9) wt_c_X9_digest) rfl rfl rfl (by decide +kernel) ⟨(Nat.le_of_ble_eq_true rfl), (Nat.le_of_ble_eq_true rfl)⟩) rfl po_0 rfl hl.1 rfl (Nat.le_of_ble_eq_true rfl) dL_law_1218 ⟨(Nat.le_of_ble_eq_true rfl), (Nat.le_of_ble_eq_true rfl)⟩) (fun H locs hB => ?_)
  refine lv_aload_n F.1 F.2.1 dL_law_1221 rfl (lv_at hl 2 rfl) ?_
  refine q_cl hB (q_goV (As := []) F' hE hB (k_X10_digest hI o.2  ho2) (cwV 0 F.2.2.2.2 (gt_V wt_m_RL_152 wt_i_X10_digest wt_s_X10_digest (wt_G wm_n_RX10) wt_c_X10_digest) rfl rfl rfl (by decide +kernel) ⟨(Nat.le_of_ble_eq_true rfl), (Nat.le_of_ble_eq_true rfl)⟩) rfl po_64 rfl hl.1 rfl (Nat.le_of_ble_eq_true rfl) dL_law_1222 ⟨(Nat.le_of_ble_eq_true rfl), (Nat.le_of_ble_eq_true rfl)⟩) (fun H locs hB => ?_)
  refine W.lcmp F.1 F.2.1 dL_law_1225 ?_
  exact lv_if_eq (tgt := 1231) F.1 F.2.1 dL_law_1226 (by decide) (fun _ => kk o2.2 H locs hv2 hB) (fun c9 => absurd (lg_eq he) c9)
set_option maxHeartbeats 4000000 in
set_option maxRecDepth 100000 in
/-- one call of the script, on both sides -/
theorem lc_all (F : CallFix p m c cL_law 4 s #[Value.ref b] wT RL) (hE : EV D cy ad ta tb s) (hI : AdI ad) (hX : va_X b L xs s s.heap) (hbl : b < s.heap.size) (hbA : ¬ AA ad b) (hl : lv_has ls 4 [(0, .ref b), (1, .ref (ad 0)), (2, .ref (ad 64)), (3, .int (nI i))]) (hi : i + 6 ≤ L) (hL : L ≤ 3072) (hB : Bd D cy ad σ s.heap H locs) (hv : INV σ)
    (kk : ∀ (σ1 : Mem) (H1 : Heap) (locs1 : List Loc), INV σ1 → Bd D cy ad σ1 s.heap H1 locs1 → W p l e room_1 s m #[Value.ref b] below meth c H1 locs1 80 1950 Q (F0 m 1231 ls [])) : W p l e room_1 s m #[Value.ref b] below meth c H locs 80 1950 Q (F0 m 27 ls []) := by
  refine lv_aload_n F.1 F.2.1 dL_law_27 rfl (lv_at hl 0 rfl) ?_
  refine lv_iload_n F.1 F.2.1 dL_law_28 rfl (lv_at hl 3 rfl) ?_
  refine va_sld F.1 F.2.1 hX hbl hbA hB.2 (vp_in_nI (by omega) (by omega)) dL_law_29 ?_
  refine lv_bipush (v := 63) F.1 F.2.1 dL_law_30 (by decide) ?_
  refine lv_iand F.1 F.2.1 dL_law_32 ?_
  generalize xs (nI i).toNatClampNeg &&& 63 = x
  by_cases h0 : x.toInt < 0
  · exact lv_tableOut (tgt := 1231) F.1 F.2.1 dL_law_33 (Or.inl h0) (by decide) (kk σ H locs hv hB)
  by_cases h1 : 32 < x.toInt
  · exact lv_tableOut (tgt := 1231) F.1 F.2.1 dL_law_33 (Or.inr h1) (by decide) (kk σ H locs hv hB)
  obtain ⟨k, hk, hx⟩ : ∃ k : Nat, k < 33 ∧ x.toInt = (k : Int) := ⟨x.toInt.toNat, by omega, by omega⟩
  match k, hk, hx with
  | 0, _, hx => exact lv_tableIn (off := 147) (tgt := 180) F.1 F.2.1 dL_law_33 h0 h1 (by rw [hx]; rfl) (by decide) (lc_type F hE hI hX hbl hbA hl hi hL hB hv kk)
  | 1, _, hx => exact lv_tableIn (off := 180) (tgt := 213) F.1 F.2.1 dL_law_33 h0 h1 (by rw [hx]; rfl) (by decide) (lc_wipe F hE hI hX hbl hbA hl hi hL hB hv kk)
  | 2, _, hx => exact lv_tableIn (off := 203) (tgt := 236) F.1 F.2.1 dL_law_33 h0 h1 (by rw [hx]; rfl) (by decide) (lc_undo F hE hI hX hbl hbA hl hi hL hB hv kk)
  | 3, _, hx => exact lv_tableIn (off := 226) (tgt := 259) F.1 F.2.1 dL_law_33 h0 h1 (by rw [hx]; rfl) (by decide) (lc_fault F hE hI hX hbl hbA hl hi hL hB hv kk)
  | 4, _, hx => exact lv_tableIn (off := 249) (tgt := 282) F.1 F.2.1 dL_law_33 h0 h1 (by rw [hx]; rfl) (by decide) (lc_bridge F hE hI hX hbl hbA hl hi hL hB hv kk)
  | 5, _, hx => exact lv_tableIn (off := 282) (tgt := 315) F.1 F.2.1 dL_law_33 h0 h1 (by rw [hx]; rfl) (by decide) (lc_boat F hE hI hX hbl hbA hl hi hL hB hv kk)
  | 6, _, hx => exact lv_tableIn (off := 315) (tgt := 348) F.1 F.2.1 dL_law_33 h0 h1 (by rw [hx]; rfl) (by decide) (lc_sham F hE hI hX hbl hbA hl hi hL hB hv kk)
  | 7, _, hx => exact lv_tableIn (off := 348) (tgt := 381) F.1 F.2.1 dL_law_33 h0 h1 (by rw [hx]; rfl) (by decide) (lc_back F hE hI hX hbl hbA hl hi hL hB hv kk)
  | 8, _, hx => exact lv_tableIn (off := 361) (tgt := 394) F.1 F.2.1 dL_law_33 h0 h1 (by rw [hx]; rfl) (by decide) (lc_read F hE hI hX hbl hbA hl hi hL hB hv kk)
  | 9, _, hx => exact lv_tableIn (off := 384) (tgt := 417) F.1 F.2.1 dL_law_33 h0 h1 (by rw [hx]; rfl) (by decide) (lc_lifts F hE hI hX hbl hbA hl hi hL hB hv kk)
  | 10, _, hx => exact lv_tableIn (off := 417) (tgt := 450) F.1 F.2.1 dL_law_33 h0 h1 (by rw [hx]; rfl) (by decide) (lc_at F hE hI hX hbl hbA hl hi hL hB hv kk)
  | 11, _, hx => exact lv_tableIn (off := 450) (tgt := 483) F.1 F.2.1 dL_law_33 h0 h1 (by rw [hx]; rfl) (by decide) (lc_passes F hE hI hX hbl hbA hl hi hL hB hv kk)
  | 12, _, hx => exact lv_tableIn (off := 493) (tgt := 526) F.1 F.2.1 dL_law_33 h0 h1 (by rw [hx]; rfl) (by decide) (lc_waits F hE hI hX hbl hbA hl hi hL hB hv kk)
  | 13, _, hx => exact lv_tableIn (off := 516) (tgt := 549) F.1 F.2.1 dL_law_33 h0 h1 (by rw [hx]; rfl) (by decide) (lc_through F hE hI hX hbl hbA hl hi hL hB hv kk)
  | 14, _, hx => exact lv_tableIn (off := 539) (tgt := 572) F.1 F.2.1 dL_law_33 h0 h1 (by rw [hx]; rfl) (by decide) (lc_first F hE hI hX hbl hbA hl hi hL hB hv kk)
  | 15, _, hx => exact lv_tableIn (off := 562) (tgt := 595) F.1 F.2.1 dL_law_33 h0 h1 (by rw [hx]; rfl) (by decide) (lc_cargo F hE hI hX hbl hbA hl hi hL hB hv kk)
  | 16, _, hx => exact lv_tableIn (off := 595) (tgt := 628) F.1 F.2.1 dL_law_33 h0 h1 (by rw [hx]; rfl) (by decide) (lc_sail F hE hI hX hbl hbA hl hi hL hB hv kk)
  | 17, _, hx => exact lv_tableIn (off := 628) (tgt := 661) F.1 F.2.1 dL_law_33 h0 h1 (by rw [hx]; rfl) (by decide) (lc_away F hE hI hX hbl hbA hl hi hL hB hv kk)
  | 18, _, hx => exact lv_tableIn (off := 651) (tgt := 684) F.1 F.2.1 dL_law_33 h0 h1 (by rw [hx]; rfl) (by decide) (lc_seen F hE hI hX hbl hbA hl hi hL hB hv kk)
  | 19, _, hx => exact lv_tableIn (off := 694) (tgt := 727) F.1 F.2.1 dL_law_33 h0 h1 (by rw [hx]; rfl) (by decide) (lc_forget F hE hI hX hbl hbA hl hi hL hB hv kk)
  | 20, _, hx => exact lv_tableIn (off := 707) (tgt := 740) F.1 F.2.1 dL_law_33 h0 h1 (by rw [hx]; rfl) (by decide) (lc_liked F hE hI hX hbl hbA hl hi hL hB hv kk)
  | 21, _, hx => exact lv_tableIn (off := 740) (tgt := 773) F.1 F.2.1 dL_law_33 h0 h1 (by rw [hx]; rfl) (by decide) (lc_under F hE hI hX hbl hbA hl hi hL hB hv kk)
  | 22, _, hx => exact lv_tableIn (off := 763) (tgt := 796) F.1 F.2.1 dL_law_33 h0 h1 (by rw [hx]; rfl) (by decide) (lc_ask F hE hI hX hbl hbA hl hi hL hB hv kk)
  | 23, _, hx => exact lv_tableIn (off := 796) (tgt := 829) F.1 F.2.1 dL_law_33 h0 h1 (by rw [hx]; rfl) (by decide) (lc_believed F hE hI hX hbl hbA hl hi hL hB hv kk)
  | 24, _, hx => exact lv_tableIn (off := 850) (tgt := 883) F.1 F.2.1 dL_law_33 h0 h1 (by rw [hx]; rfl) (by decide) (lc_loads F hE hI hX hbl hbA hl hi hL hB hv kk)
  | 25, _, hx => exact lv_tableIn (off := 903) (tgt := 936) F.1 F.2.1 dL_law_33 h0 h1 (by rw [hx]; rfl) (by decide) (lc_sheet F hE hI hX hbl hbA hl hi hL hB hv kk)
  | 26, _, hx => exact lv_tableIn (off := 946) (tgt := 979) F.1 F.2.1 dL_law_33 h0 h1 (by rw [hx]; rfl) (by decide) (lc_lose F hE hI hX hbl hbA hl hi hL hB hv kk)
  | 27, _, hx => exact lv_tableIn (off := 969) (tgt := 1002) F.1 F.2.1 dL_law_33 h0 h1 (by rw [hx]; rfl) (by decide) (lc_lay F hE hI hX hbl hbA hl hi hL hB hv kk)
  | 28, _, hx => exact lv_tableIn (off := 1022) (tgt := 1055) F.1 F.2.1 dL_law_33 h0 h1 (by rw [hx]; rfl) (by decide) (lc_get F hE hI hX hbl hbA hl hi hL hB hv kk)
  | 29, _, hx => exact lv_tableIn (off := 1065) (tgt := 1098) F.1 F.2.1 dL_law_33 h0 h1 (by rw [hx]; rfl) (by decide) (lc_copy F hE hI hX hbl hbA hl hi hL hB hv kk)
  | 30, _, hx => exact lv_tableIn (off := 1128) (tgt := 1161) F.1 F.2.1 dL_law_33 h0 h1 (by rw [hx]; rfl) (by decide) (lc_write F hE hI hX hbl hbA hl hi hL hB hv kk)
  | 31, _, hx => exact lv_tableIn (off := 1161) (tgt := 1194) F.1 F.2.1 dL_law_33 h0 h1 (by rw [hx]; rfl) (by decide) (lc_count F hE hI hX hbl hbA hl hi hL hB hv kk)
  | 32, _, hx => exact lv_tableIn (off := 1184) (tgt := 1217) F.1 F.2.1 dL_law_33 h0 h1 (by rw [hx]; rfl) (by decide) (lc_digest F hE hI hX hbl hbA hl hi hL hB hv kk)
  | k + 33, hk, _ => exact absurd hk (by omega)
end LAW
