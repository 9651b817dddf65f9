theorem code_012_link {x y z w : Int32} {σ : CS} : linkC x y z w σ = 0 ∨ linkC x y z w σ = 1 ∨ linkC x y z w σ = 2 := by
  unfold linkC; repeat (first | (split) | simp)
theorem code_012_fail {x y : Int32} {σ : CS} : failC x y σ = 0 ∨ failC x y σ = 1 ∨ failC x y σ = 2 := by
  unfold failC; repeat (first | (split) | simp)
theorem code_012_restore {x y : Int32} {σ : CS} : failC x y σ = 0 ∨ failC x y σ = 1 ∨ failC x y σ = 2 := by
  unfold failC; repeat (first | (split) | simp)
theorem code_012_start {x : Int32} : nodeC x = 0 ∨ nodeC x = 1 ∨ nodeC x = 2 := by
  unfold nodeC; repeat (first | (split) | simp)
theorem code_012_crash {x : Int32} : nodeC x = 0 ∨ nodeC x = 1 ∨ nodeC x = 2 := by
  unfold nodeC; repeat (first | (split) | simp)
theorem code_012_tick {x : Int32} : tickC x = 0 ∨ tickC x = 1 ∨ tickC x = 2 := by
  unfold tickC; repeat (first | (split) | simp)
theorem code_012_send {x y z : Int32} {σ : CS} : sendC x y z σ = 0 ∨ sendC x y z σ = 1 ∨ sendC x y z σ = 2 := by
  unfold sendC; repeat (first | (split) | simp)
set_option maxHeartbeats 400000 in
set_option maxRecDepth 100000 in
theorem lc_link {Rr : Nat → Nat → CS → MS → Prop} {p : Program} {l : Launch} {e : Env} {s : State} {m : MethodId} {below : List Frame} {meth : Method} {c : Code} {H : Heap} {locs : List Loc} {cells slots : Nat} {Q : State → Prop} {ls : Array Slot} {D : va_G} {cy : Nat → ClassId} {am a : Nat → Nat} {ao b L k P : Nat} {xs : Nat → Int32} {σ : CS} {τ : MS} {f : Nat → Int64} (F : lFix p l m c s b L xs D cy) (hI9 : lrI Rr) (hRr : lrLink Rr) (hR : Rr k P σ τ) (hk : 5 * k + 4 < L) (hP : va_P D vwCl (wl cy am ao a P σ τ f) H) (hD : va_D (lA s) (wl cy am ao a P σ τ f)) (hS : va_S (lA s) s.heap H locs) (hl : lv_has ls 7 [(0, .ref b), (1, .ref (a 0)), (2, .ref (am 0)), (3, .ref ao), (4, .int (nI (5 * k)))]) (hc : cells ≤ 64 + 2 * k) (hs : slots ≤ 12000 + 39 * k) (nx : lNx Rr p l e s m below meth c b Q D cy am ao k) : W p l e room_1 s m #[Value.ref b] below meth c H locs cells slots Q (F0 m 104 ls []) := by
  have F9 := F
  obtain ⟨S, hst9, hK, hNA, -, -, -, hX, hbl, hL⟩ := F
  obtain ⟨hcI, hmI⟩ := hI9 _ _ _ _ hR
  have hA : ∀ q, s.heap.size ≤ q → lA s q := fun q h => h
  have hN := nestA_C hNA
  refine lv_aload_n S.1 S.2.1 dL_law_104 rfl (lv_at hl 1 rfl) ?_
  refine ll_arg (k := k) (j := 1) S hX hbl hS rfl (by omega) hL (lv_at hl 0 rfl) (lv_at hl 4 rfl) dL_law_105 dL_law_106 dL_law_108 dL_law_109 dL_law_110 ?_
  refine ll_arg (k := k) (j := 2) S hX hbl hS rfl (by omega) hL (lv_at hl 0 rfl) (lv_at hl 4 rfl) dL_law_111 dL_law_112 dL_law_114 dL_law_115 dL_law_116 ?_
  refine ll_arg (k := k) (j := 3) S hX hbl hS rfl (by omega) hL (lv_at hl 0 rfl) (lv_at hl 4 rfl) dL_law_117 dL_law_118 dL_law_120 dL_law_121 dL_law_122 ?_
  refine ll_arg (k := k) (j := 4) S hX hbl hS rfl (by omega) hL (lv_at hl 0 rfl) (lv_at hl 4 rfl) dL_law_123 dL_law_124 dL_law_126 dL_law_127 dL_law_128 ?_
  refine lv_aload_n S.1 S.2.1 dL_law_129 rfl (lv_at hl 3 rfl) ?_
  obtain ⟨e1, e2, e3⟩ := hRr k P σ τ (xs (5 * k + 1)) (xs (5 * k + 2)) (xs (5 * k + 3)) (xs (5 * k + 4)) (by omega) hR
  refine kgo_i (vx_runSW (hh := [(0, 14, 17, 13), (0, 14, 21, 15)]) (As := [.ref (a 0), .int (xs (5 * k + 1)), .int (xs (5 * k + 2)), .int (xs (5 * k + 3)), .int (xs (5 * k + 4)), .ref ao]) (rest := []) S (c_L_link l hst9 D cy a (mB cy am τ) P σ ao f (xs (5 * k + 1)) (xs (5 * k + 2)) (xs (5 * k + 3)) (xs (5 * k + 4)) H.size) (vx_cwSW 6 S.2.2.2.2 (gw_good_1 wm_204 (gw_good_1 wm_205 (gw_good_1 wm_47 (gw_good_in wm_206)))) rfl rfl rfl (by decide +kernel) ⟨Nat.le_of_ble_eq_true rfl, Nat.le_of_ble_eq_true rfl⟩) ⟨klblind, kl_pre F9 hP hD hS⟩ rfl rfl hl.1 rfl (lv_room (Nat.le_of_ble_eq_true rfl)) dL_law_130 ⟨by show cells + 1 ≤ 601024; omega, by show slots + 6 ≤ 7293034; omega⟩) hD hS hA (fun H locs hP hD hS => ?_)
  generalize hfN : oF (linkC (xs (5 * k + 1)) (xs (5 * k + 2)) (xs (5 * k + 3)) (xs (5 * k + 4)) σ) f (cLinkR (xs (5 * k + 1)) (xs (5 * k + 2)) (xs (5 * k + 3)) (xs (5 * k + 4)) σ).toInt64 = fN at hP hD
  generalize hsN : cLink (xs (5 * k + 1)) (xs (5 * k + 2)) (xs (5 * k + 3)) (xs (5 * k + 4)) σ = sN at hP hD e3
  refine lv_istore (lv' := [(5, .int (nI (linkC (xs (5 * k + 1)) (xs (5 * k + 2)) (xs (5 * k + 3)) (xs (5 * k + 4)) σ))), (0, .ref b), (1, .ref (a 0)), (2, .ref (am 0)), (3, .ref ao), (4, .int (nI (5 * k)))]) S.1 S.2.1 dL_law_133 hl (by decide) rfl (fun ls hl => ?_)
  refine lv_aload_n S.1 S.2.1 dL_law_135 rfl (lv_at hl 3 rfl) ?_
  refine ll_arg (k := k) (j := 1) S hX hbl hS rfl (by omega) hL (lv_at hl 1 rfl) (lv_at hl 5 rfl) dL_law_136 dL_law_137 dL_law_139 dL_law_140 dL_law_141 ?_
  refine ll_arg (k := k) (j := 2) S hX hbl hS rfl (by omega) hL (lv_at hl 1 rfl) (lv_at hl 5 rfl) dL_law_142 dL_law_143 dL_law_145 dL_law_146 dL_law_147 ?_
  refine ll_arg (k := k) (j := 3) S hX hbl hS rfl (by omega) hL (lv_at hl 1 rfl) (lv_at hl 5 rfl) dL_law_148 dL_law_149 dL_law_151 dL_law_152 dL_law_153 ?_
  refine ll_arg (k := k) (j := 4) S hX hbl hS rfl (by omega) hL (lv_at hl 1 rfl) (lv_at hl 5 rfl) dL_law_154 dL_law_155 dL_law_157 dL_law_158 dL_law_159 ?_
  have hP := P_perm hP (pm_lm (mB cy am τ) [oE cy ao fN] (cK cy a P sN) (cB cy a sN))
  have hD := D_perm hD (pm_lm (mB cy am τ) [oE cy ao fN] (cK cy a P sN) (cB cy a sN))
  refine kgo_i (va_runV (As := [.int (xs (5 * k + 1)), .int (xs (5 * k + 2)), .int (xs (5 * k + 3)), .int (xs (5 * k + 4))]) (rest := []) S (c_X3_link l D cy am (([oE cy ao fN] ++ cK cy a P sN) ++ cB cy a sN) τ (xs (5 * k + 1)) (xs (5 * k + 2)) (xs (5 * k + 3)) (xs (5 * k + 4)) H.size) (cwV 4 S.2.2.2.2 (gw_good_1 wm_569 (gw_good_1 wm_570 (gw_good_1 wm_571 (gw_good_1 wm_50 (gw_good_in wm_572))))) rfl rfl rfl (by decide +kernel) ⟨Nat.le_of_ble_eq_true rfl, Nat.le_of_ble_eq_true rfl⟩) ⟨kblind kNok.nil, mrecv hK hP, kpre kNok.nil (kN.nil s) hK hP hD⟩ rfl rfl hl.1 rfl (lv_room (Nat.le_of_ble_eq_true rfl)) dL_law_160 ⟨by show cells + 1 + 0 ≤ 601024; omega, by show slots + 6 + 0 ≤ 7293034; omega⟩) hD hS hA (fun H locs hP hD hS => ?_)
  refine lv_istore (lv' := [(6, .int (mLinkR (xs (5 * k + 1)) (xs (5 * k + 2)) (xs (5 * k + 3)) (xs (5 * k + 4)) τ)), (5, .int (nI (linkC (xs (5 * k + 1)) (xs (5 * k + 2)) (xs (5 * k + 3)) (xs (5 * k + 4)) σ))), (0, .ref b), (1, .ref (a 0)), (2, .ref (am 0)), (3, .ref ao), (4, .int (nI (5 * k)))]) S.1 S.2.1 dL_law_163 hl (by decide) rfl (fun ls hl => ?_)
  refine lv_aload_n S.1 S.2.1 dL_law_165 rfl (lv_at hl 4 rfl) ?_
  refine kgo_i (va_runV (As := []) (rest := []) S (c_X3_thrown l D cy am (([oE cy ao fN] ++ cK cy a P sN) ++ cB cy a sN) (mLink (xs (5 * k + 1)) (xs (5 * k + 2)) (xs (5 * k + 3)) (xs (5 * k + 4)) τ) H.size) (cwV 0 S.2.2.2.2 (gw_good_1 wm_565 (gw_good_1 wm_566 (gw_good_1 wm_567 (gw_good_1 wm_50 (gw_good_in wm_568))))) rfl rfl rfl (by decide +kernel) ⟨Nat.le_of_ble_eq_true rfl, Nat.le_of_ble_eq_true rfl⟩) ⟨kblind kNok.nil, mrecv hK hP, kpre kNok.nil (kN.nil s) hK hP hD⟩ rfl rfl hl.1 rfl (lv_room (Nat.le_of_ble_eq_true rfl)) dL_law_166 ⟨by show cells + 1 + 0 + 0 ≤ 601024; omega, by show slots + 6 + 0 + 0 ≤ 7293034; omega⟩) hD hS hA (fun H locs hP hD hS => ?_)
  generalize hsT : mLink (xs (5 * k + 1)) (xs (5 * k + 2)) (xs (5 * k + 3)) (xs (5 * k + 4)) τ = sT at hP hD e1 e3
  have hP := P_perm hP (pm_lm (mB cy am sT) [oE cy ao fN] (cK cy a P sN) (cB cy a sN)).symm
  have hD := D_perm hD (pm_lm (mB cy am sT) [oE cy ao fN] (cK cy a P sN) (cB cy a sN)).symm
  refine k_top e1 ?_
  refine lv_iload S.1 S.2.1 dL_law_169 (lv_at hl 1 rfl) ?_
  refine lv_icmp_eq (tgt := 176) S.1 S.2.1 dL_law_171 (by decide) (fun _ => ?_) (fun h => absurd rfl h)
  have hfin : W p l e room_1 s m #[Value.ref b] below meth c H locs (cells + 1 + 0 + 0) (slots + 6 + 0 + 0) Q (F0 m 794 ls []) := nx _ _ _ _ _ _ _ _ _ _ e3 hP hD hS (lv_sub hl [2, 3, 4, 5, 6] rfl) (by omega) (by omega)
  refine lv_iload S.1 S.2.1 dL_law_176 (lv_at hl 1 rfl) ?_
  refine lv_if_ne (tgt := 193) S.1 S.2.1 dL_law_178 (by decide) (fun _ => lv_goto (tgt := 794) S.1 S.2.1 dL_law_193 (by decide) hfin) (fun hz => ?_)
  have hz : linkC (xs (5 * k + 1)) (xs (5 * k + 2)) (xs (5 * k + 3)) (xs (5 * k + 4)) σ = 0 := by rcases (show linkC (xs (5 * k + 1)) (xs (5 * k + 2)) (xs (5 * k + 3)) (xs (5 * k + 4)) σ = 0 ∨ linkC (xs (5 * k + 1)) (xs (5 * k + 2)) (xs (5 * k + 3)) (xs (5 * k + 4)) σ = 1 ∨ linkC (xs (5 * k + 1)) (xs (5 * k + 2)) (xs (5 * k + 3)) (xs (5 * k + 4)) σ = 2 from code_012_link) with h | h | h; exact h; all_goals (rw [h] at hz; exact absurd hz (by decide))
  have e2 := e2 hz
  rw [oF, if_pos hz] at hfN
  refine lv_aload_n S.1 S.2.1 dL_law_181 rfl (lv_at hl 5 rfl) ?_
  refine lv_iconst (v := nI 0) S.1 S.2.1 dL_law_182 (by decide) ?_
  refine k_lald (q0 := (mB cy am sT).length) (t0 := 1) (j := 0) S hK hP oget rfl (by decide) (by decide) dL_law_183 ?_
  refine k_topl (y := (cLinkR (xs (5 * k + 1)) (xs (5 * k + 2)) (xs (5 * k + 3)) (xs (5 * k + 4)) σ).toInt64) (by rw [← hfN]; rfl) ?_
  refine lv_iload S.1 S.2.1 dL_law_184 (lv_at hl 0 rfl) ?_
  refine lv_i2l (v := (mLinkR (xs (5 * k + 1)) (xs (5 * k + 2)) (xs (5 * k + 3)) (xs (5 * k + 4)) τ).toInt64) S.1 S.2.1 dL_law_186 rfl ?_
  refine W.lcmp S.1 S.2.1 dL_law_187 ?_
  refine k_top (lg_self (by rw [e2])) ?_
  exact lv_if_eq (tgt := 193) S.1 S.2.1 dL_law_188 (by decide) (fun _ => lv_goto (tgt := 794) S.1 S.2.1 dL_law_193 (by decide) hfin) (fun h => absurd rfl h)
set_option maxHeartbeats 400000 in
set_option maxRecDepth 100000 in
theorem lc_fail {Rr : Nat → Nat → CS → MS → Prop} {p : Program} {l : Launch} {e : Env} {s : State} {m : MethodId} {below : List Frame} {meth : Method} {c : Code} {H : Heap} {locs : List Loc} {cells slots : Nat} {Q : State → Prop} {ls : Array Slot} {D : va_G} {cy : Nat → ClassId} {am a : Nat → Nat} {ao b L k P : Nat} {xs : Nat → Int32} {σ : CS} {τ : MS} {f : Nat → Int64} (F : lFix p l m c s b L xs D cy) (hI9 : lrI Rr) (hRr : lrFail Rr) (hR : Rr k P σ τ) (hk : 5 * k + 4 < L) (hP : va_P D vwCl (wl cy am ao a P σ τ f) H) (hD : va_D (lA s) (wl cy am ao a P σ τ f)) (hS : va_S (lA s) s.heap H locs) (hl : lv_has ls 7 [(0, .ref b), (1, .ref (a 0)), (2, .ref (am 0)), (3, .ref ao), (4, .int (nI (5 * k)))]) (hc : cells ≤ 64 + 2 * k) (hs : slots ≤ 12000 + 39 * k) (nx : lNx Rr p l e s m below meth c b Q D cy am ao k) : W p l e room_1 s m #[Value.ref b] below meth c H locs cells slots Q (F0 m 196 ls []) := by
  have F9 := F
  obtain ⟨S, hst9, hK, hNA, -, -, -, hX, hbl, hL⟩ := F
  obtain ⟨hcI, hmI⟩ := hI9 _ _ _ _ hR
  have hA : ∀ q, s.heap.size ≤ q → lA s q := fun q h => h
  have hN := nestA_C hNA
  refine lv_aload_n S.1 S.2.1 dL_law_196 rfl (lv_at hl 1 rfl) ?_
  refine ll_arg (k := k) (j := 1) S hX hbl hS rfl (by omega) hL (lv_at hl 0 rfl) (lv_at hl 4 rfl) dL_law_197 dL_law_198 dL_law_200 dL_law_201 dL_law_202 ?_
  refine ll_arg (k := k) (j := 2) S hX hbl hS rfl (by omega) hL (lv_at hl 0 rfl) (lv_at hl 4 rfl) dL_law_203 dL_law_204 dL_law_206 dL_law_207 dL_law_208 ?_
  refine lv_aload_n S.1 S.2.1 dL_law_209 rfl (lv_at hl 3 rfl) ?_
  obtain ⟨e1, e2, e3⟩ := hRr k P σ τ (xs (5 * k + 1)) (xs (5 * k + 2)) (by omega) hR
  refine kgo_i (vx_runSW (hh := [(0, 17, 20, 13)]) (As := [.ref (a 0), .int (xs (5 * k + 1)), .int (xs (5 * k + 2)), .ref ao]) (rest := []) S (c_L_fail l hst9 D cy a (mB cy am τ) P σ ao f (xs (5 * k + 1)) (xs (5 * k + 2)) hcI H.size) (vx_cwSW 4 S.2.2.2.2 (gw_good_1 wm_345 (gw_good_1 wm_346 (gw_good_1 wm_47 (gw_good_in wm_347)))) rfl rfl rfl (by decide +kernel) ⟨Nat.le_of_ble_eq_true rfl, Nat.le_of_ble_eq_true rfl⟩) ⟨klblind, kl_pre F9 hP hD hS⟩ rfl rfl hl.1 rfl (lv_room (Nat.le_of_ble_eq_true rfl)) dL_law_210 ⟨by show cells + 1 ≤ 601024; omega, by show slots + 6 ≤ 7293034; omega⟩) hD hS hA (fun H locs hP hD hS => ?_)
  generalize hfN : oF (failC (xs (5 * k + 1)) (xs (5 * k + 2)) σ) f (b2l (cFailR (xs (5 * k + 1)) (xs (5 * k + 2)) σ)) = fN at hP hD
  generalize hsN : cFail P (xs (5 * k + 1)) (xs (5 * k + 2)) σ = sN at hP hD e3
  refine lv_istore (lv' := [(5, .int (nI (failC (xs (5 * k + 1)) (xs (5 * k + 2)) σ))), (0, .ref b), (1, .ref (a 0)), (2, .ref (am 0)), (3, .ref ao), (4, .int (nI (5 * k)))]) S.1 S.2.1 dL_law_213 hl (by decide) rfl (fun ls hl => ?_)
  refine lv_aload_n S.1 S.2.1 dL_law_215 rfl (lv_at hl 3 rfl) ?_
  refine ll_arg (k := k) (j := 1) S hX hbl hS rfl (by omega) hL (lv_at hl 1 rfl) (lv_at hl 5 rfl) dL_law_216 dL_law_217 dL_law_219 dL_law_220 dL_law_221 ?_
  refine ll_arg (k := k) (j := 2) S hX hbl hS rfl (by omega) hL (lv_at hl 1 rfl) (lv_at hl 5 rfl) dL_law_222 dL_law_223 dL_law_225 dL_law_226 dL_law_227 ?_
  have hP := P_perm hP (pm_lm (mB cy am τ) [oE cy ao fN] (cK cy a P sN) (cB cy a sN))
  have hD := D_perm hD (pm_lm (mB cy am τ) [oE cy ao fN] (cK cy a P sN) (cB cy a sN))
  refine kgo_i (va_runV (As := [.int (xs (5 * k + 1)), .int (xs (5 * k + 2))]) (rest := []) S (c_X3_fail l D cy am (([oE cy ao fN] ++ cK cy a P sN) ++ cB cy a sN) τ (xs (5 * k + 1)) (xs (5 * k + 2)) P hmI H.size) (cwV 2 S.2.2.2.2 (gw_good_1 wm_603 (gw_good_1 wm_604 (gw_good_1 wm_605 (gw_good_1 wm_50 (gw_good_in wm_606))))) rfl rfl rfl (by decide +kernel) ⟨Nat.le_of_ble_eq_true rfl, Nat.le_of_ble_eq_true rfl⟩) ⟨kblind kNok.nil, mrecv hK hP, kpre kNok.nil (kN.nil s) hK hP hD⟩ rfl rfl hl.1 rfl (lv_room (Nat.le_of_ble_eq_true rfl)) dL_law_228 ⟨by show cells + 1 + 0 ≤ 601024; omega, by show slots + 6 + 0 ≤ 7293034; omega⟩) hD hS hA (fun H locs hP hD hS => ?_)
  refine lv_istore (lv' := [(6, .int (b2i (mFailR (xs (5 * k + 1)) (xs (5 * k + 2)) τ))), (5, .int (nI (failC (xs (5 * k + 1)) (xs (5 * k + 2)) σ))), (0, .ref b), (1, .ref (a 0)), (2, .ref (am 0)), (3, .ref ao), (4, .int (nI (5 * k)))]) S.1 S.2.1 dL_law_231 hl (by decide) rfl (fun ls hl => ?_)
  refine lv_aload_n S.1 S.2.1 dL_law_233 rfl (lv_at hl 4 rfl) ?_
  refine kgo_i (va_runV (As := []) (rest := []) S (c_X3_thrown l D cy am (([oE cy ao fN] ++ cK cy a P sN) ++ cB cy a sN) (mFail P (xs (5 * k + 1)) (xs (5 * k + 2)) τ) H.size) (cwV 0 S.2.2.2.2 (gw_good_1 wm_565 (gw_good_1 wm_566 (gw_good_1 wm_567 (gw_good_1 wm_50 (gw_good_in wm_568))))) rfl rfl rfl (by decide +kernel) ⟨Nat.le_of_ble_eq_true rfl, Nat.le_of_ble_eq_true rfl⟩) ⟨kblind kNok.nil, mrecv hK hP, kpre kNok.nil (kN.nil s) hK hP hD⟩ rfl rfl hl.1 rfl (lv_room (Nat.le_of_ble_eq_true rfl)) dL_law_234 ⟨by show cells + 1 + 0 + 0 ≤ 601024; omega, by show slots + 6 + 0 + 0 ≤ 7293034; omega⟩) hD hS hA (fun H locs hP hD hS => ?_)
  generalize hsT : mFail P (xs (5 * k + 1)) (xs (5 * k + 2)) τ = sT at hP hD e1 e3
  have hP := P_perm hP (pm_lm (mB cy am sT) [oE cy ao fN] (cK cy a P sN) (cB cy a sN)).symm
  have hD := D_perm hD (pm_lm (mB cy am sT) [oE cy ao fN] (cK cy a P sN) (cB cy a sN)).symm
  refine k_top e1 ?_
  refine lv_iload S.1 S.2.1 dL_law_237 (lv_at hl 1 rfl) ?_
  refine lv_icmp_eq (tgt := 244) S.1 S.2.1 dL_law_239 (by decide) (fun _ => ?_) (fun h => absurd rfl h)
  have hfin : W p l e room_1 s m #[Value.ref b] below meth c H locs (cells + 1 + 0 + 0) (slots + 6 + 0 + 0) Q (F0 m 794 ls []) := nx _ _ _ _ _ _ _ _ _ _ e3 hP hD hS (lv_sub hl [2, 3, 4, 5, 6] rfl) (by omega) (by omega)
  refine lv_iload S.1 S.2.1 dL_law_244 (lv_at hl 1 rfl) ?_
  refine lv_if_ne (tgt := 268) S.1 S.2.1 dL_law_246 (by decide) (fun _ => lv_goto (tgt := 794) S.1 S.2.1 dL_law_268 (by decide) hfin) (fun hz => ?_)
  have hz : failC (xs (5 * k + 1)) (xs (5 * k + 2)) σ = 0 := by rcases (show failC (xs (5 * k + 1)) (xs (5 * k + 2)) σ = 0 ∨ failC (xs (5 * k + 1)) (xs (5 * k + 2)) σ = 1 ∨ failC (xs (5 * k + 1)) (xs (5 * k + 2)) σ = 2 from code_012_fail) with h | h | h; exact h; all_goals (rw [h] at hz; exact absurd hz (by decide))
  have e2 := e2 hz
  rw [oF, if_pos hz] at hfN
  refine lv_aload_n S.1 S.2.1 dL_law_249 rfl (lv_at hl 5 rfl) ?_
  refine lv_iconst (v := nI 0) S.1 S.2.1 dL_law_250 (by decide) ?_
  refine k_lald (q0 := (mB cy am sT).length) (t0 := 1) (j := 0) S hK hP oget rfl (by decide) (by decide) dL_law_251 ?_
  refine k_topl (y := (b2l (cFailR (xs (5 * k + 1)) (xs (5 * k + 2)) σ))) (by rw [← hfN]; rfl) ?_
  refine lv_iload S.1 S.2.1 dL_law_252 (lv_at hl 0 rfl) ?_
  refine kb_eq (tgt := 261) S dL_law_254 (by decide) (fun c1 => ?_) (fun c1 => ?_)
  · refine lv_lconst (v := b2l (mFailR (xs (5 * k + 1)) (xs (5 * k + 2)) τ)) S.1 S.2.1 dL_law_261 (by rw [c1]; rfl) ?_
    refine W.lcmp S.1 S.2.1 dL_law_262 ?_
    refine k_top (lg_self (by rw [e2])) ?_
    exact lv_if_eq (tgt := 268) S.1 S.2.1 dL_law_263 (by decide) (fun _ => lv_goto (tgt := 794) S.1 S.2.1 dL_law_268 (by decide) hfin) (fun h => absurd rfl h)
  · refine lv_lconst (v := b2l (mFailR (xs (5 * k + 1)) (xs (5 * k + 2)) τ)) S.1 S.2.1 dL_law_257 (by rw [c1]; rfl) ?_
    refine lv_goto (tgt := 262) S.1 S.2.1 dL_law_258 (by decide) ?_
    refine W.lcmp S.1 S.2.1 dL_law_262 ?_
    refine k_top (lg_self (by rw [e2])) ?_
    exact lv_if_eq (tgt := 268) S.1 S.2.1 dL_law_263 (by decide) (fun _ => lv_goto (tgt := 794) S.1 S.2.1 dL_law_268 (by decide) hfin) (fun h => absurd rfl h)
set_option maxHeartbeats 400000 in
set_option maxRecDepth 100000 in
theorem lc_restore {Rr : Nat → Nat → CS → MS → Prop} {p : Program} {l : Launch} {e : Env} {s : State} {m : MethodId} {below : List Frame} {meth : Method} {c : Code} {H : Heap} {locs : List Loc} {cells slots : Nat} {Q : State → Prop} {ls : Array Slot} {D : va_G} {cy : Nat → ClassId} {am a : Nat → Nat} {ao b L k P : Nat} {xs : Nat → Int32} {σ : CS} {τ : MS} {f : Nat → Int64} (F : lFix p l m c s b L xs D cy) (hI9 : lrI Rr) (hRr : lrRest Rr) (hR : Rr k P σ τ) (hk : 5 * k + 4 < L) (hP : va_P D vwCl (wl cy am ao a P σ τ f) H) (hD : va_D (lA s) (wl cy am ao a P σ τ f)) (hS : va_S (lA s) s.heap H locs) (hl : lv_has ls 7 [(0, .ref b), (1, .ref (a 0)), (2, .ref (am 0)), (3, .ref ao), (4, .int (nI (5 * k)))]) (hc : cells ≤ 64 + 2 * k) (hs : slots ≤ 12000 + 39 * k) (nx : lNx Rr p l e s m below meth c b Q D cy am ao k) : W p l e room_1 s m #[Value.ref b] below meth c H locs cells slots Q (F0 m 271 ls []) := by
  have F9 := F
  obtain ⟨S, hst9, hK, hNA, -, -, -, hX, hbl, hL⟩ := F
  obtain ⟨hcI, hmI⟩ := hI9 _ _ _ _ hR
  have hA : ∀ q, s.heap.size ≤ q → lA s q := fun q h => h
  have hN := nestA_C hNA
  refine lv_aload_n S.1 S.2.1 dL_law_271 rfl (lv_at hl 1 rfl) ?_
  refine ll_arg (k := k) (j := 1) S hX hbl hS rfl (by omega) hL (lv_at hl 0 rfl) (lv_at hl 4 rfl) dL_law_272 dL_law_273 dL_law_275 dL_law_276 dL_law_277 ?_
  refine ll_arg (k := k) (j := 2) S hX hbl hS rfl (by omega) hL (lv_at hl 0 rfl) (lv_at hl 4 rfl) dL_law_278 dL_law_279 dL_law_281 dL_law_282 dL_law_283 ?_
  refine lv_aload_n S.1 S.2.1 dL_law_284 rfl (lv_at hl 3 rfl) ?_
  obtain ⟨e1, e2, e3⟩ := hRr k P σ τ (xs (5 * k + 1)) (xs (5 * k + 2)) (by omega) hR
  refine kgo_i (vx_runSW (hh := [(0, 17, 20, 13)]) (As := [.ref (a 0), .int (xs (5 * k + 1)), .int (xs (5 * k + 2)), .ref ao]) (rest := []) S (c_L_restore l hst9 D cy a (mB cy am τ) P σ ao f (xs (5 * k + 1)) (xs (5 * k + 2)) H.size) (vx_cwSW 4 S.2.2.2.2 (gw_good_1 wm_370 (gw_good_1 wm_371 (gw_good_1 wm_47 (gw_good_in wm_372)))) rfl rfl rfl (by decide +kernel) ⟨Nat.le_of_ble_eq_true rfl, Nat.le_of_ble_eq_true rfl⟩) ⟨klblind, kl_pre F9 hP hD hS⟩ rfl rfl hl.1 rfl (lv_room (Nat.le_of_ble_eq_true rfl)) dL_law_285 ⟨by show cells + 1 ≤ 601024; omega, by show slots + 6 ≤ 7293034; omega⟩) hD hS hA (fun H locs hP hD hS => ?_)
  generalize hfN : oF (failC (xs (5 * k + 1)) (xs (5 * k + 2)) σ) f (b2l (cRestR (xs (5 * k + 1)) (xs (5 * k + 2)) σ)) = fN at hP hD
  generalize hsN : cRest (xs (5 * k + 1)) (xs (5 * k + 2)) σ = sN at hP hD e3
  refine lv_istore (lv' := [(5, .int (nI (failC (xs (5 * k + 1)) (xs (5 * k + 2)) σ))), (0, .ref b), (1, .ref (a 0)), (2, .ref (am 0)), (3, .ref ao), (4, .int (nI (5 * k)))]) S.1 S.2.1 dL_law_288 hl (by decide) rfl (fun ls hl => ?_)
  refine lv_aload_n S.1 S.2.1 dL_law_290 rfl (lv_at hl 3 rfl) ?_
  refine ll_arg (k := k) (j := 1) S hX hbl hS rfl (by omega) hL (lv_at hl 1 rfl) (lv_at hl 5 rfl) dL_law_291 dL_law_292 dL_law_294 dL_law_295 dL_law_296 ?_
  refine ll_arg (k := k) (j := 2) S hX hbl hS rfl (by omega) hL (lv_at hl 1 rfl) (lv_at hl 5 rfl) dL_law_297 dL_law_298 dL_law_300 dL_law_301 dL_law_302 ?_
  have hP := P_perm hP (pm_lm (mB cy am τ) [oE cy ao fN] (cK cy a P sN) (cB cy a sN))
  have hD := D_perm hD (pm_lm (mB cy am τ) [oE cy ao fN] (cK cy a P sN) (cB cy a sN))
  refine kgo_i (va_runV (As := [.int (xs (5 * k + 1)), .int (xs (5 * k + 2))]) (rest := []) S (c_X3_restore l D cy am (([oE cy ao fN] ++ cK cy a P sN) ++ cB cy a sN) τ (xs (5 * k + 1)) (xs (5 * k + 2)) H.size) (cwV 2 S.2.2.2.2 (gw_good_1 wm_615 (gw_good_1 wm_616 (gw_good_1 wm_617 (gw_good_1 wm_50 (gw_good_in wm_618))))) rfl rfl rfl (by decide +kernel) ⟨Nat.le_of_ble_eq_true rfl, Nat.le_of_ble_eq_true rfl⟩) ⟨kblind kNok.nil, mrecv hK hP, kpre kNok.nil (kN.nil s) hK hP hD⟩ rfl rfl hl.1 rfl (lv_room (Nat.le_of_ble_eq_true rfl)) dL_law_303 ⟨by show cells + 1 + 0 ≤ 601024; omega, by show slots + 6 + 0 ≤ 7293034; omega⟩) hD hS hA (fun H locs hP hD hS => ?_)
  refine lv_istore (lv' := [(6, .int (b2i (mRestR (xs (5 * k + 1)) (xs (5 * k + 2)) τ))), (5, .int (nI (failC (xs (5 * k + 1)) (xs (5 * k + 2)) σ))), (0, .ref b), (1, .ref (a 0)), (2, .ref (am 0)), (3, .ref ao), (4, .int (nI (5 * k)))]) S.1 S.2.1 dL_law_306 hl (by decide) rfl (fun ls hl => ?_)
  refine lv_aload_n S.1 S.2.1 dL_law_308 rfl (lv_at hl 4 rfl) ?_
  refine kgo_i (va_runV (As := []) (rest := []) S (c_X3_thrown l D cy am (([oE cy ao fN] ++ cK cy a P sN) ++ cB cy a sN) (mRest (xs (5 * k + 1)) (xs (5 * k + 2)) τ) H.size) (cwV 0 S.2.2.2.2 (gw_good_1 wm_565 (gw_good_1 wm_566 (gw_good_1 wm_567 (gw_good_1 wm_50 (gw_good_in wm_568))))) rfl rfl rfl (by decide +kernel) ⟨Nat.le_of_ble_eq_true rfl, Nat.le_of_ble_eq_true rfl⟩) ⟨kblind kNok.nil, mrecv hK hP, kpre kNok.nil (kN.nil s) hK hP hD⟩ rfl rfl hl.1 rfl (lv_room (Nat.le_of_ble_eq_true rfl)) dL_law_309 ⟨by show cells + 1 + 0 + 0 ≤ 601024; omega, by show slots + 6 + 0 + 0 ≤ 7293034; omega⟩) hD hS hA (fun H locs hP hD hS => ?_)
  generalize hsT : mRest (xs (5 * k + 1)) (xs (5 * k + 2)) τ = sT at hP hD e1 e3
  have hP := P_perm hP (pm_lm (mB cy am sT) [oE cy ao fN] (cK cy a P sN) (cB cy a sN)).symm
  have hD := D_perm hD (pm_lm (mB cy am sT) [oE cy ao fN] (cK cy a P sN) (cB cy a sN)).symm
  refine k_top e1 ?_
  refine lv_iload S.1 S.2.1 dL_law_312 (lv_at hl 1 rfl) ?_
  refine lv_icmp_eq (tgt := 319) S.1 S.2.1 dL_law_314 (by decide) (fun _ => ?_) (fun h => absurd rfl h)
  have hfin : W p l e room_1 s m #[Value.ref b] below meth c H locs (cells + 1 + 0 + 0) (slots + 6 + 0 + 0) Q (F0 m 794 ls []) := nx _ _ _ _ _ _ _ _ _ _ e3 hP hD hS (lv_sub hl [2, 3, 4, 5, 6] rfl) (by omega) (by omega)
  refine lv_iload S.1 S.2.1 dL_law_319 (lv_at hl 1 rfl) ?_
  refine lv_if_ne (tgt := 343) S.1 S.2.1 dL_law_321 (by decide) (fun _ => lv_goto (tgt := 794) S.1 S.2.1 dL_law_343 (by decide) hfin) (fun hz => ?_)
  have hz : failC (xs (5 * k + 1)) (xs (5 * k + 2)) σ = 0 := by rcases (show failC (xs (5 * k + 1)) (xs (5 * k + 2)) σ = 0 ∨ failC (xs (5 * k + 1)) (xs (5 * k + 2)) σ = 1 ∨ failC (xs (5 * k + 1)) (xs (5 * k + 2)) σ = 2 from code_012_restore) with h | h | h; exact h; all_goals (rw [h] at hz; exact absurd hz (by decide))
  have e2 := e2 hz
  rw [oF, if_pos hz] at hfN
  refine lv_aload_n S.1 S.2.1 dL_law_324 rfl (lv_at hl 5 rfl) ?_
  refine lv_iconst (v := nI 0) S.1 S.2.1 dL_law_325 (by decide) ?_
  refine k_lald (q0 := (mB cy am sT).length) (t0 := 1) (j := 0) S hK hP oget rfl (by decide) (by decide) dL_law_326 ?_
  refine k_topl (y := (b2l (cRestR (xs (5 * k + 1)) (xs (5 * k + 2)) σ))) (by rw [← hfN]; rfl) ?_
  refine lv_iload S.1 S.2.1 dL_law_327 (lv_at hl 0 rfl) ?_
  refine kb_eq (tgt := 336) S dL_law_329 (by decide) (fun c1 => ?_) (fun c1 => ?_)
  · refine lv_lconst (v := b2l (mRestR (xs (5 * k + 1)) (xs (5 * k + 2)) τ)) S.1 S.2.1 dL_law_336 (by rw [c1]; rfl) ?_
    refine W.lcmp S.1 S.2.1 dL_law_337 ?_
    refine k_top (lg_self (by rw [e2])) ?_
    exact lv_if_eq (tgt := 343) S.1 S.2.1 dL_law_338 (by decide) (fun _ => lv_goto (tgt := 794) S.1 S.2.1 dL_law_343 (by decide) hfin) (fun h => absurd rfl h)
  · refine lv_lconst (v := b2l (mRestR (xs (5 * k + 1)) (xs (5 * k + 2)) τ)) S.1 S.2.1 dL_law_332 (by rw [c1]; rfl) ?_
    refine lv_goto (tgt := 337) S.1 S.2.1 dL_law_333 (by decide) ?_
    refine W.lcmp S.1 S.2.1 dL_law_337 ?_
    refine k_top (lg_self (by rw [e2])) ?_
    exact lv_if_eq (tgt := 343) S.1 S.2.1 dL_law_338 (by decide) (fun _ => lv_goto (tgt := 794) S.1 S.2.1 dL_law_343 (by decide) hfin) (fun h => absurd rfl h)
set_option maxHeartbeats 400000 in
set_option maxRecDepth 100000 in
theorem lc_start {Rr : Nat → Nat → CS → MS → Prop} {p : Program} {l : Launch} {e : Env} {s : State} {m : MethodId} {below : List Frame} {meth : Method} {c : Code} {H : Heap} {locs : List Loc} {cells slots : Nat} {Q : State → Prop} {ls : Array Slot} {D : va_G} {cy : Nat → ClassId} {am a : Nat → Nat} {ao b L k P : Nat} {xs : Nat → Int32} {σ : CS} {τ : MS} {f : Nat → Int64} (F : lFix p l m c s b L xs D cy) (hI9 : lrI Rr) (hRr : lrStart Rr) (hR : Rr k P σ τ) (hk : 5 * k + 4 < L) (hP : va_P D vwCl (wl cy am ao a P σ τ f) H) (hD : va_D (lA s) (wl cy am ao a P σ τ f)) (hS : va_S (lA s) s.heap H locs) (hl : lv_has ls 7 [(0, .ref b), (1, .ref (a 0)), (2, .ref (am 0)), (3, .ref ao), (4, .int (nI (5 * k)))]) (hc : cells ≤ 64 + 2 * k) (hs : slots ≤ 12000 + 39 * k) (nx : lNx Rr p l e s m below meth c b Q D cy am ao k) : W p l e room_1 s m #[Value.ref b] below meth c H locs cells slots Q (F0 m 346 ls []) := by
  have F9 := F
  obtain ⟨S, hst9, hK, hNA, -, -, -, hX, hbl, hL⟩ := F
  obtain ⟨hcI, hmI⟩ := hI9 _ _ _ _ hR
  have hA : ∀ q, s.heap.size ≤ q → lA s q := fun q h => h
  have hN := nestA_C hNA
  refine lv_aload_n S.1 S.2.1 dL_law_346 rfl (lv_at hl 1 rfl) ?_
  refine ll_arg (k := k) (j := 1) S hX hbl hS rfl (by omega) hL (lv_at hl 0 rfl) (lv_at hl 4 rfl) dL_law_347 dL_law_348 dL_law_350 dL_law_351 dL_law_352 ?_
  refine lv_aload_n S.1 S.2.1 dL_law_353 rfl (lv_at hl 3 rfl) ?_
  obtain ⟨e1, e2, e3⟩ := hRr k P σ τ (xs (5 * k + 1)) (by omega) hR
  refine kgo_i (vx_runSW (hh := [(0, 16, 19, 13)]) (As := [.ref (a 0), .int (xs (5 * k + 1)), .ref ao]) (rest := []) S (c_L_start l hst9 D cy a (mB cy am τ) P σ ao f (xs (5 * k + 1)) H.size) (vx_cwSW 3 S.2.2.2.2 (gw_good_1 wm_377 (gw_good_1 wm_378 (gw_good_1 wm_47 (gw_good_in wm_379)))) rfl rfl rfl (by decide +kernel) ⟨Nat.le_of_ble_eq_true rfl, Nat.le_of_ble_eq_true rfl⟩) ⟨klblind, kl_pre F9 hP hD hS⟩ rfl rfl hl.1 rfl (lv_room (Nat.le_of_ble_eq_true rfl)) dL_law_354 ⟨by show cells + 1 ≤ 601024; omega, by show slots + 6 ≤ 7293034; omega⟩) hD hS hA (fun H locs hP hD hS => ?_)
  generalize hfN : oF (nodeC (xs (5 * k + 1))) f (b2l (cStartR (xs (5 * k + 1)) σ)) = fN at hP hD
  generalize hsN : cStart (xs (5 * k + 1)) σ = sN at hP hD e3
  refine lv_istore (lv' := [(5, .int (nI (nodeC (xs (5 * k + 1))))), (0, .ref b), (1, .ref (a 0)), (2, .ref (am 0)), (3, .ref ao), (4, .int (nI (5 * k)))]) S.1 S.2.1 dL_law_357 hl (by decide) rfl (fun ls hl => ?_)
  refine lv_aload_n S.1 S.2.1 dL_law_359 rfl (lv_at hl 3 rfl) ?_
  refine ll_arg (k := k) (j := 1) S hX hbl hS rfl (by omega) hL (lv_at hl 1 rfl) (lv_at hl 5 rfl) dL_law_360 dL_law_361 dL_law_363 dL_law_364 dL_law_365 ?_
  have hP := P_perm hP (pm_lm (mB cy am τ) [oE cy ao fN] (cK cy a P sN) (cB cy a sN))
  have hD := D_perm hD (pm_lm (mB cy am τ) [oE cy ao fN] (cK cy a P sN) (cB cy a sN))
  refine kgo_i (va_runV (As := [.int (xs (5 * k + 1))]) (rest := []) S (c_X3_start l D cy am (([oE cy ao fN] ++ cK cy a P sN) ++ cB cy a sN) τ (xs (5 * k + 1)) H.size) (cwV 1 S.2.2.2.2 (gw_good_1 wm_619 (gw_good_1 wm_620 (gw_good_1 wm_621 (gw_good_1 wm_50 (gw_good_in wm_622))))) rfl rfl rfl (by decide +kernel) ⟨Nat.le_of_ble_eq_true rfl, Nat.le_of_ble_eq_true rfl⟩) ⟨kblind kNok.nil, mrecv hK hP, kpre kNok.nil (kN.nil s) hK hP hD⟩ rfl rfl hl.1 rfl (lv_room (Nat.le_of_ble_eq_true rfl)) dL_law_366 ⟨by show cells + 1 + 0 ≤ 601024; omega, by show slots + 6 + 0 ≤ 7293034; omega⟩) hD hS hA (fun H locs hP hD hS => ?_)
  refine lv_istore (lv' := [(6, .int (b2i (mStartR (xs (5 * k + 1)) τ))), (5, .int (nI (nodeC (xs (5 * k + 1))))), (0, .ref b), (1, .ref (a 0)), (2, .ref (am 0)), (3, .ref ao), (4, .int (nI (5 * k)))]) S.1 S.2.1 dL_law_369 hl (by decide) rfl (fun ls hl => ?_)
  refine lv_aload_n S.1 S.2.1 dL_law_371 rfl (lv_at hl 4 rfl) ?_
  refine kgo_i (va_runV (As := []) (rest := []) S (c_X3_thrown l D cy am (([oE cy ao fN] ++ cK cy a P sN) ++ cB cy a sN) (mStart (xs (5 * k + 1)) τ) H.size) (cwV 0 S.2.2.2.2 (gw_good_1 wm_565 (gw_good_1 wm_566 (gw_good_1 wm_567 (gw_good_1 wm_50 (gw_good_in wm_568))))) rfl rfl rfl (by decide +kernel) ⟨Nat.le_of_ble_eq_true rfl, Nat.le_of_ble_eq_true rfl⟩) ⟨kblind kNok.nil, mrecv hK hP, kpre kNok.nil (kN.nil s) hK hP hD⟩ rfl rfl hl.1 rfl (lv_room (Nat.le_of_ble_eq_true rfl)) dL_law_372 ⟨by show cells + 1 + 0 + 0 ≤ 601024; omega, by show slots + 6 + 0 + 0 ≤ 7293034; omega⟩) hD hS hA (fun H locs hP hD hS => ?_)
  generalize hsT : mStart (xs (5 * k + 1)) τ = sT at hP hD e1 e3
  have hP := P_perm hP (pm_lm (mB cy am sT) [oE cy ao fN] (cK cy a P sN) (cB cy a sN)).symm
  have hD := D_perm hD (pm_lm (mB cy am sT) [oE cy ao fN] (cK cy a P sN) (cB cy a sN)).symm
  refine k_top e1 ?_
  refine lv_iload S.1 S.2.1 dL_law_375 (lv_at hl 1 rfl) ?_
  refine lv_icmp_eq (tgt := 382) S.1 S.2.1 dL_law_377 (by decide) (fun _ => ?_) (fun h => absurd rfl h)
  have hfin : W p l e room_1 s m #[Value.ref b] below meth c H locs (cells + 1 + 0 + 0) (slots + 6 + 0 + 0) Q (F0 m 794 ls []) := nx _ _ _ _ _ _ _ _ _ _ e3 hP hD hS (lv_sub hl [2, 3, 4, 5, 6] rfl) (by omega) (by omega)
  refine lv_iload S.1 S.2.1 dL_law_382 (lv_at hl 1 rfl) ?_
  refine lv_if_ne (tgt := 406) S.1 S.2.1 dL_law_384 (by decide) (fun _ => lv_goto (tgt := 794) S.1 S.2.1 dL_law_406 (by decide) hfin) (fun hz => ?_)
  have hz : nodeC (xs (5 * k + 1)) = 0 := by rcases (show nodeC (xs (5 * k + 1)) = 0 ∨ nodeC (xs (5 * k + 1)) = 1 ∨ nodeC (xs (5 * k + 1)) = 2 from code_012_start) with h | h | h; exact h; all_goals (rw [h] at hz; exact absurd hz (by decide))
  have e2 := e2 hz
  rw [oF, if_pos hz] at hfN
  refine lv_aload_n S.1 S.2.1 dL_law_387 rfl (lv_at hl 5 rfl) ?_
  refine lv_iconst (v := nI 0) S.1 S.2.1 dL_law_388 (by decide) ?_
  refine k_lald (q0 := (mB cy am sT).length) (t0 := 1) (j := 0) S hK hP oget rfl (by decide) (by decide) dL_law_389 ?_
  refine k_topl (y := (b2l (cStartR (xs (5 * k + 1)) σ))) (by rw [← hfN]; rfl) ?_
  refine lv_iload S.1 S.2.1 dL_law_390 (lv_at hl 0 rfl) ?_
  refine kb_eq (tgt := 399) S dL_law_392 (by decide) (fun c1 => ?_) (fun c1 => ?_)
  · refine lv_lconst (v := b2l (mStartR (xs (5 * k + 1)) τ)) S.1 S.2.1 dL_law_399 (by rw [c1]; rfl) ?_
    refine W.lcmp S.1 S.2.1 dL_law_400 ?_
    refine k_top (lg_self (by rw [e2])) ?_
    exact lv_if_eq (tgt := 406) S.1 S.2.1 dL_law_401 (by decide) (fun _ => lv_goto (tgt := 794) S.1 S.2.1 dL_law_406 (by decide) hfin) (fun h => absurd rfl h)
  · refine lv_lconst (v := b2l (mStartR (xs (5 * k + 1)) τ)) S.1 S.2.1 dL_law_395 (by rw [c1]; rfl) ?_
    refine lv_goto (tgt := 400) S.1 S.2.1 dL_law_396 (by decide) ?_
    refine W.lcmp S.1 S.2.1 dL_law_400 ?_
    refine k_top (lg_self (by rw [e2])) ?_
    exact lv_if_eq (tgt := 406) S.1 S.2.1 dL_law_401 (by decide) (fun _ => lv_goto (tgt := 794) S.1 S.2.1 dL_law_406 (by decide) hfin) (fun h => absurd rfl h)
set_option maxHeartbeats 400000 in
set_option maxRecDepth 100000 in
theorem lc_crash {Rr : Nat → Nat → CS → MS → Prop} {p : Program} {l : Launch} {e : Env} {s : State} {m : MethodId} {below : List Frame} {meth : Method} {c : Code} {H : Heap} {locs : List Loc} {cells slots : Nat} {Q : State → Prop} {ls : Array Slot} {D : va_G} {cy : Nat → ClassId} {am a : Nat → Nat} {ao b L k P : Nat} {xs : Nat → Int32} {σ : CS} {τ : MS} {f : Nat → Int64} (F : lFix p l m c s b L xs D cy) (hI9 : lrI Rr) (hRr : lrCrash Rr) (hR : Rr k P σ τ) (hk : 5 * k + 4 < L) (hP : va_P D vwCl (wl cy am ao a P σ τ f) H) (hD : va_D (lA s) (wl cy am ao a P σ τ f)) (hS : va_S (lA s) s.heap H locs) (hl : lv_has ls 7 [(0, .ref b), (1, .ref (a 0)), (2, .ref (am 0)), (3, .ref ao), (4, .int (nI (5 * k)))]) (hc : cells ≤ 64 + 2 * k) (hs : slots ≤ 12000 + 39 * k) (nx : lNx Rr p l e s m below meth c b Q D cy am ao k) : W p l e room_1 s m #[Value.ref b] below meth c H locs cells slots Q (F0 m 409 ls []) := by
  have F9 := F
  obtain ⟨S, hst9, hK, hNA, -, -, -, hX, hbl, hL⟩ := F
  obtain ⟨hcI, hmI⟩ := hI9 _ _ _ _ hR
  have hA : ∀ q, s.heap.size ≤ q → lA s q := fun q h => h
  have hN := nestA_C hNA
  refine lv_aload_n S.1 S.2.1 dL_law_409 rfl (lv_at hl 1 rfl) ?_
  refine ll_arg (k := k) (j := 1) S hX hbl hS rfl (by omega) hL (lv_at hl 0 rfl) (lv_at hl 4 rfl) dL_law_410 dL_law_411 dL_law_413 dL_law_414 dL_law_415 ?_
  refine lv_aload_n S.1 S.2.1 dL_law_416 rfl (lv_at hl 3 rfl) ?_
  obtain ⟨e1, e2, e3⟩ := hRr k P σ τ (xs (5 * k + 1)) (by omega) hR
  refine kgo_i (vx_runSW (hh := [(0, 16, 19, 13)]) (As := [.ref (a 0), .int (xs (5 * k + 1)), .ref ao]) (rest := []) S (c_L_crash l hst9 D cy a (mB cy am τ) P σ ao f (xs (5 * k + 1)) hcI H.size) (vx_cwSW 3 S.2.2.2.2 (gw_good_1 wm_389 (gw_good_1 wm_390 (gw_good_1 wm_47 (gw_good_in wm_391)))) rfl rfl rfl (by decide +kernel) ⟨Nat.le_of_ble_eq_true rfl, Nat.le_of_ble_eq_true rfl⟩) ⟨klblind, kl_pre F9 hP hD hS⟩ rfl rfl hl.1 rfl (lv_room (Nat.le_of_ble_eq_true rfl)) dL_law_417 ⟨by show cells + 1 ≤ 601024; omega, by show slots + 6 ≤ 7293034; omega⟩) hD hS hA (fun H locs hP hD hS => ?_)
  generalize hfN : oF (nodeC (xs (5 * k + 1))) f (b2l (cCrashR (xs (5 * k + 1)) σ)) = fN at hP hD
  generalize hsN : cCrash P (xs (5 * k + 1)) σ = sN at hP hD e3
  refine lv_istore (lv' := [(5, .int (nI (nodeC (xs (5 * k + 1))))), (0, .ref b), (1, .ref (a 0)), (2, .ref (am 0)), (3, .ref ao), (4, .int (nI (5 * k)))]) S.1 S.2.1 dL_law_420 hl (by decide) rfl (fun ls hl => ?_)
  refine lv_aload_n S.1 S.2.1 dL_law_422 rfl (lv_at hl 3 rfl) ?_
  refine ll_arg (k := k) (j := 1) S hX hbl hS rfl (by omega) hL (lv_at hl 1 rfl) (lv_at hl 5 rfl) dL_law_423 dL_law_424 dL_law_426 dL_law_427 dL_law_428 ?_
  have hP := P_perm hP (pm_lm (mB cy am τ) [oE cy ao fN] (cK cy a P sN) (cB cy a sN))
  have hD := D_perm hD (pm_lm (mB cy am τ) [oE cy ao fN] (cK cy a P sN) (cB cy a sN))
  refine kgo_i (va_runV (As := [.int (xs (5 * k + 1))]) (rest := []) S (c_X3_crash l D cy am (([oE cy ao fN] ++ cK cy a P sN) ++ cB cy a sN) τ (xs (5 * k + 1)) P hmI H.size) (cwV 1 S.2.2.2.2 (gw_good_1 wm_627 (gw_good_1 wm_628 (gw_good_1 wm_629 (gw_good_1 wm_50 (gw_good_in wm_630))))) rfl rfl rfl (by decide +kernel) ⟨Nat.le_of_ble_eq_true rfl, Nat.le_of_ble_eq_true rfl⟩) ⟨kblind kNok.nil, mrecv hK hP, kpre kNok.nil (kN.nil s) hK hP hD⟩ rfl rfl hl.1 rfl (lv_room (Nat.le_of_ble_eq_true rfl)) dL_law_429 ⟨by show cells + 1 + 0 ≤ 601024; omega, by show slots + 6 + 0 ≤ 7293034; omega⟩) hD hS hA (fun H locs hP hD hS => ?_)
  refine lv_istore (lv' := [(6, .int (b2i (mCrashR (xs (5 * k + 1)) τ))), (5, .int (nI (nodeC (xs (5 * k + 1))))), (0, .ref b), (1, .ref (a 0)), (2, .ref (am 0)), (3, .ref ao), (4, .int (nI (5 * k)))]) S.1 S.2.1 dL_law_432 hl (by decide) rfl (fun ls hl => ?_)
  refine lv_aload_n S.1 S.2.1 dL_law_434 rfl (lv_at hl 4 rfl) ?_
  refine kgo_i (va_runV (As := []) (rest := []) S (c_X3_thrown l D cy am (([oE cy ao fN] ++ cK cy a P sN) ++ cB cy a sN) (mCrash P (xs (5 * k + 1)) τ) H.size) (cwV 0 S.2.2.2.2 (gw_good_1 wm_565 (gw_good_1 wm_566 (gw_good_1 wm_567 (gw_good_1 wm_50 (gw_good_in wm_568))))) rfl rfl rfl (by decide +kernel) ⟨Nat.le_of_ble_eq_true rfl, Nat.le_of_ble_eq_true rfl⟩) ⟨kblind kNok.nil, mrecv hK hP, kpre kNok.nil (kN.nil s) hK hP hD⟩ rfl rfl hl.1 rfl (lv_room (Nat.le_of_ble_eq_true rfl)) dL_law_435 ⟨by show cells + 1 + 0 + 0 ≤ 601024; omega, by show slots + 6 + 0 + 0 ≤ 7293034; omega⟩) hD hS hA (fun H locs hP hD hS => ?_)
  generalize hsT : mCrash P (xs (5 * k + 1)) τ = sT at hP hD e1 e3
  have hP := P_perm hP (pm_lm (mB cy am sT) [oE cy ao fN] (cK cy a P sN) (cB cy a sN)).symm
  have hD := D_perm hD (pm_lm (mB cy am sT) [oE cy ao fN] (cK cy a P sN) (cB cy a sN)).symm
  refine k_top e1 ?_
  refine lv_iload S.1 S.2.1 dL_law_438 (lv_at hl 1 rfl) ?_
  refine lv_icmp_eq (tgt := 445) S.1 S.2.1 dL_law_440 (by decide) (fun _ => ?_) (fun h => absurd rfl h)
  have hfin : W p l e room_1 s m #[Value.ref b] below meth c H locs (cells + 1 + 0 + 0) (slots + 6 + 0 + 0) Q (F0 m 794 ls []) := nx _ _ _ _ _ _ _ _ _ _ e3 hP hD hS (lv_sub hl [2, 3, 4, 5, 6] rfl) (by omega) (by omega)
  refine lv_iload S.1 S.2.1 dL_law_445 (lv_at hl 1 rfl) ?_
  refine lv_if_ne (tgt := 469) S.1 S.2.1 dL_law_447 (by decide) (fun _ => lv_goto (tgt := 794) S.1 S.2.1 dL_law_469 (by decide) hfin) (fun hz => ?_)
  have hz : nodeC (xs (5 * k + 1)) = 0 := by rcases (show nodeC (xs (5 * k + 1)) = 0 ∨ nodeC (xs (5 * k + 1)) = 1 ∨ nodeC (xs (5 * k + 1)) = 2 from code_012_crash) with h | h | h; exact h; all_goals (rw [h] at hz; exact absurd hz (by decide))
  have e2 := e2 hz
  rw [oF, if_pos hz] at hfN
  refine lv_aload_n S.1 S.2.1 dL_law_450 rfl (lv_at hl 5 rfl) ?_
  refine lv_iconst (v := nI 0) S.1 S.2.1 dL_law_451 (by decide) ?_
  refine k_lald (q0 := (mB cy am sT).length) (t0 := 1) (j := 0) S hK hP oget rfl (by decide) (by decide) dL_law_452 ?_
  refine k_topl (y := (b2l (cCrashR (xs (5 * k + 1)) σ))) (by rw [← hfN]; rfl) ?_
  refine lv_iload S.1 S.2.1 dL_law_453 (lv_at hl 0 rfl) ?_
  refine kb_eq (tgt := 462) S dL_law_455 (by decide) (fun c1 => ?_) (fun c1 => ?_)
  · refine lv_lconst (v := b2l (mCrashR (xs (5 * k + 1)) τ)) S.1 S.2.1 dL_law_462 (by rw [c1]; rfl) ?_
    refine W.lcmp S.1 S.2.1 dL_law_463 ?_
    refine k_top (lg_self (by rw [e2])) ?_
    exact lv_if_eq (tgt := 469) S.1 S.2.1 dL_law_464 (by decide) (fun _ => lv_goto (tgt := 794) S.1 S.2.1 dL_law_469 (by decide) hfin) (fun h => absurd rfl h)
  · refine lv_lconst (v := b2l (mCrashR (xs (5 * k + 1)) τ)) S.1 S.2.1 dL_law_458 (by rw [c1]; rfl) ?_
    refine lv_goto (tgt := 463) S.1 S.2.1 dL_law_459 (by decide) ?_
    refine W.lcmp S.1 S.2.1 dL_law_463 ?_
    refine k_top (lg_self (by rw [e2])) ?_
    exact lv_if_eq (tgt := 469) S.1 S.2.1 dL_law_464 (by decide) (fun _ => lv_goto (tgt := 794) S.1 S.2.1 dL_law_469 (by decide) hfin) (fun h => absurd rfl h)
set_option maxHeartbeats 400000 in
set_option maxRecDepth 100000 in
theorem lc_tick {Rr : Nat → Nat → CS → MS → Prop} {p : Program} {l : Launch} {e : Env} {s : State} {m : MethodId} {below : List Frame} {meth : Method} {c : Code} {H : Heap} {locs : List Loc} {cells slots : Nat} {Q : State → Prop} {ls : Array Slot} {D : va_G} {cy : Nat → ClassId} {am a : Nat → Nat} {ao b L k P : Nat} {xs : Nat → Int32} {σ : CS} {τ : MS} {f : Nat → Int64} (F : lFix p l m c s b L xs D cy) (hI9 : lrI Rr) (hT : lrT) (hRr : lrTick Rr) (hR : Rr k P σ τ) (hk : 5 * k + 4 < L) (hP : va_P D vwCl (wl cy am ao a P σ τ f) H) (hD : va_D (lA s) (wl cy am ao a P σ τ f)) (hS : va_S (lA s) s.heap H locs) (hl : lv_has ls 7 [(0, .ref b), (1, .ref (a 0)), (2, .ref (am 0)), (3, .ref ao), (4, .int (nI (5 * k)))]) (hc : cells ≤ 64 + 2 * k) (hs : slots ≤ 12000 + 39 * k) (nx : lNx Rr p l e s m below meth c b Q D cy am ao k) : W p l e room_1 s m #[Value.ref b] below meth c H locs cells slots Q (F0 m 472 ls []) := by
  have F9 := F
  obtain ⟨S, hst9, hK, hNA, -, -, -, hX, hbl, hL⟩ := F
  obtain ⟨hcI, hmI⟩ := hI9 _ _ _ _ hR
  have hA : ∀ q, s.heap.size ≤ q → lA s q := fun q h => h
  have hN := nestA_C hNA
  refine lv_aload_n S.1 S.2.1 dL_law_472 rfl (lv_at hl 1 rfl) ?_
  refine ll_arg (k := k) (j := 1) S hX hbl hS rfl (by omega) hL (lv_at hl 0 rfl) (lv_at hl 4 rfl) dL_law_473 dL_law_474 dL_law_476 dL_law_477 dL_law_478 ?_
  refine lv_aload_n S.1 S.2.1 dL_law_479 rfl (lv_at hl 3 rfl) ?_
  obtain ⟨e1, e2, e3⟩ := hRr k P σ τ (xs (5 * k + 1)) (by omega) hR
  refine kgo_i (vx_runSW (hh := [(0, 9, 12, 13)]) (As := [.ref (a 0), .int (xs (5 * k + 1)), .ref ao]) (rest := []) S (c_L_tick l hst9 D cy a (mB cy am τ) P σ ao f (xs (5 * k + 1)) hcI H.size) (vx_cwSW 3 S.2.2.2.2 (gw_good_1 wm_396 (gw_good_1 wm_397 (gw_good_1 wm_47 (gw_good_in wm_398)))) rfl rfl rfl (by decide +kernel) ⟨Nat.le_of_ble_eq_true rfl, Nat.le_of_ble_eq_true rfl⟩) ⟨klblind, kl_pre F9 hP hD hS⟩ rfl rfl hl.1 rfl (lv_room (Nat.le_of_ble_eq_true rfl)) dL_law_480 ⟨by show cells + 1 ≤ 601024; omega, by show slots + 6 ≤ 7293034; omega⟩) hD hS hA (fun H locs hP hD hS => ?_)
  generalize hfN : oF (tickC (xs (5 * k + 1))) f (cTickR P (xs (5 * k + 1)) σ).toInt64 = fN at hP hD
  generalize hsN : cTick P (xs (5 * k + 1)) σ = sN at hP hD e3
  refine lv_istore (lv' := [(5, .int (nI (tickC (xs (5 * k + 1))))), (0, .ref b), (1, .ref (a 0)), (2, .ref (am 0)), (3, .ref ao), (4, .int (nI (5 * k)))]) S.1 S.2.1 dL_law_483 hl (by decide) rfl (fun ls hl => ?_)
  refine lv_aload_n S.1 S.2.1 dL_law_485 rfl (lv_at hl 3 rfl) ?_
  refine ll_arg (k := k) (j := 1) S hX hbl hS rfl (by omega) hL (lv_at hl 1 rfl) (lv_at hl 5 rfl) dL_law_486 dL_law_487 dL_law_489 dL_law_490 dL_law_491 ?_
  have hP := P_perm hP (pm_lm (mB cy am τ) [oE cy ao fN] (cK cy a P sN) (cB cy a sN))
  have hD := D_perm hD (pm_lm (mB cy am τ) [oE cy ao fN] (cK cy a P sN) (cB cy a sN))
  refine kgo_i (va_runV (As := [.int (xs (5 * k + 1))]) (rest := []) S (c_X3_tick l D cy am (([oE cy ao fN] ++ cK cy a P sN) ++ cB cy a sN) τ (xs (5 * k + 1)) P hmI hT H.size) (cwV 1 S.2.2.2.2 (gw_good_1 wm_631 (gw_good_1 wm_632 (gw_good_1 wm_633 (gw_good_1 wm_50 (gw_good_in wm_634))))) rfl rfl rfl (by decide +kernel) ⟨Nat.le_of_ble_eq_true rfl, Nat.le_of_ble_eq_true rfl⟩) ⟨kblind kNok.nil, mrecv hK hP, kpre kNok.nil (kN.nil s) hK hP hD⟩ rfl rfl hl.1 rfl (lv_room (Nat.le_of_ble_eq_true rfl)) dL_law_492 ⟨by show cells + 1 + 0 ≤ 601024; omega, by show slots + 6 + 0 ≤ 7293034; omega⟩) hD hS hA (fun H locs hP hD hS => ?_)
  refine lv_istore (lv' := [(6, .int (mTickR P (xs (5 * k + 1)) τ)), (5, .int (nI (tickC (xs (5 * k + 1))))), (0, .ref b), (1, .ref (a 0)), (2, .ref (am 0)), (3, .ref ao), (4, .int (nI (5 * k)))]) S.1 S.2.1 dL_law_495 hl (by decide) rfl (fun ls hl => ?_)
  refine lv_aload_n S.1 S.2.1 dL_law_497 rfl (lv_at hl 4 rfl) ?_
  refine kgo_i (va_runV (As := []) (rest := []) S (c_X3_thrown l D cy am (([oE cy ao fN] ++ cK cy a P sN) ++ cB cy a sN) (mTick P (xs (5 * k + 1)) τ) H.size) (cwV 0 S.2.2.2.2 (gw_good_1 wm_565 (gw_good_1 wm_566 (gw_good_1 wm_567 (gw_good_1 wm_50 (gw_good_in wm_568))))) rfl rfl rfl (by decide +kernel) ⟨Nat.le_of_ble_eq_true rfl, Nat.le_of_ble_eq_true rfl⟩) ⟨kblind kNok.nil, mrecv hK hP, kpre kNok.nil (kN.nil s) hK hP hD⟩ rfl rfl hl.1 rfl (lv_room (Nat.le_of_ble_eq_true rfl)) dL_law_498 ⟨by show cells + 1 + 0 + 0 ≤ 601024; omega, by show slots + 6 + 0 + 0 ≤ 7293034; omega⟩) hD hS hA (fun H locs hP hD hS => ?_)
  generalize hsT : mTick P (xs (5 * k + 1)) τ = sT at hP hD e1 e3
  have hP := P_perm hP (pm_lm (mB cy am sT) [oE cy ao fN] (cK cy a P sN) (cB cy a sN)).symm
  have hD := D_perm hD (pm_lm (mB cy am sT) [oE cy ao fN] (cK cy a P sN) (cB cy a sN)).symm
  refine k_top e1 ?_
  refine lv_iload S.1 S.2.1 dL_law_501 (lv_at hl 1 rfl) ?_
  refine lv_icmp_eq (tgt := 508) S.1 S.2.1 dL_law_503 (by decide) (fun _ => ?_) (fun h => absurd rfl h)
  have hfin : W p l e room_1 s m #[Value.ref b] below meth c H locs (cells + 1 + 0 + 0) (slots + 6 + 0 + 0) Q (F0 m 794 ls []) := nx _ _ _ _ _ _ _ _ _ _ e3 hP hD hS (lv_sub hl [2, 3, 4, 5, 6] rfl) (by omega) (by omega)
  refine lv_iload S.1 S.2.1 dL_law_508 (lv_at hl 1 rfl) ?_
  refine lv_if_ne (tgt := 525) S.1 S.2.1 dL_law_510 (by decide) (fun _ => lv_goto (tgt := 794) S.1 S.2.1 dL_law_525 (by decide) hfin) (fun hz => ?_)
  have hz : tickC (xs (5 * k + 1)) = 0 := by rcases (show tickC (xs (5 * k + 1)) = 0 ∨ tickC (xs (5 * k + 1)) = 1 ∨ tickC (xs (5 * k + 1)) = 2 from code_012_tick) with h | h | h; exact h; all_goals (rw [h] at hz; exact absurd hz (by decide))
  have e2 := e2 hz
  rw [oF, if_pos hz] at hfN
  refine lv_aload_n S.1 S.2.1 dL_law_513 rfl (lv_at hl 5 rfl) ?_
  refine lv_iconst (v := nI 0) S.1 S.2.1 dL_law_514 (by decide) ?_
  refine k_lald (q0 := (mB cy am sT).length) (t0 := 1) (j := 0) S hK hP oget rfl (by decide) (by decide) dL_law_515 ?_
  refine k_topl (y := (cTickR P (xs (5 * k + 1)) σ).toInt64) (by rw [← hfN]; rfl) ?_
  refine lv_iload S.1 S.2.1 dL_law_516 (lv_at hl 0 rfl) ?_
  refine lv_i2l (v := (mTickR P (xs (5 * k + 1)) τ).toInt64) S.1 S.2.1 dL_law_518 rfl ?_
  refine W.lcmp S.1 S.2.1 dL_law_519 ?_
  refine k_top (lg_self (by rw [e2])) ?_
  exact lv_if_eq (tgt := 525) S.1 S.2.1 dL_law_520 (by decide) (fun _ => lv_goto (tgt := 794) S.1 S.2.1 dL_law_525 (by decide) hfin) (fun h => absurd rfl h)
set_option maxHeartbeats 400000 in
set_option maxRecDepth 100000 in
theorem lc_news {Rr : Nat → Nat → CS → MS → Prop} {p : Program} {l : Launch} {e : Env} {s : State} {m : MethodId} {below : List Frame} {meth : Method} {c : Code} {H : Heap} {locs : List Loc} {cells slots : Nat} {Q : State → Prop} {ls : Array Slot} {D : va_G} {cy : Nat → ClassId} {am a : Nat → Nat} {ao b L k P : Nat} {xs : Nat → Int32} {σ : CS} {τ : MS} {f : Nat → Int64} (F : lFix p l m c s b L xs D cy) (hI9 : lrI Rr) (hRr : lrNews Rr) (hR : Rr k P σ τ) (hk : 5 * k + 4 < L) (hP : va_P D vwCl (wl cy am ao a P σ τ f) H) (hD : va_D (lA s) (wl cy am ao a P σ τ f)) (hS : va_S (lA s) s.heap H locs) (hl : lv_has ls 7 [(0, .ref b), (1, .ref (a 0)), (2, .ref (am 0)), (3, .ref ao), (4, .int (nI (5 * k)))]) (hc : cells ≤ 64 + 2 * k) (hs : slots ≤ 12000 + 39 * k) (nx : lNx Rr p l e s m below meth c b Q D cy am ao k) : W p l e room_1 s m #[Value.ref b] below meth c H locs cells slots Q (F0 m 528 ls []) := by
  have F9 := F
  obtain ⟨S, hst9, hK, hNA, -, -, -, hX, hbl, hL⟩ := F
  obtain ⟨hcI, hmI⟩ := hI9 _ _ _ _ hR
  have hA : ∀ q, s.heap.size ≤ q → lA s q := fun q h => h
  have hN := nestA_C hNA
  refine lv_aload_n S.1 S.2.1 dL_law_528 rfl (lv_at hl 1 rfl) ?_
  refine ll_arg (k := k) (j := 1) S hX hbl hS rfl (by omega) hL (lv_at hl 0 rfl) (lv_at hl 4 rfl) dL_law_529 dL_law_530 dL_law_532 dL_law_533 dL_law_534 ?_
  refine ll_arg (k := k) (j := 2) S hX hbl hS rfl (by omega) hL (lv_at hl 0 rfl) (lv_at hl 4 rfl) dL_law_535 dL_law_536 dL_law_538 dL_law_539 dL_law_540 ?_
  refine ll_arg (k := k) (j := 3) S hX hbl hS rfl (by omega) hL (lv_at hl 0 rfl) (lv_at hl 4 rfl) dL_law_541 dL_law_542 dL_law_544 dL_law_545 dL_law_546 ?_
  obtain ⟨e2, e3⟩ := hRr k P σ τ (xs (5 * k + 1)) (xs (5 * k + 2)) (xs (5 * k + 3)) (by omega) hR
  refine kgo_i (va_runV (As := [.int (xs (5 * k + 1)), .int (xs (5 * k + 2)), .int (xs (5 * k + 3))]) (rest := []) S (c_X2_news l D cy a ((mB cy am τ ++ [oE cy ao f]) ++ cK cy a P σ) σ (xs (5 * k + 1)) (xs (5 * k + 2)) (xs (5 * k + 3)) H.size) (cwV 3 S.2.2.2.2 (gw_good_1 wm_134 (gw_good_1 wm_135 (gw_good_1 wm_136 (gw_good_1 wm_48 (gw_good_in wm_137))))) rfl rfl rfl (by decide +kernel) ⟨Nat.le_of_ble_eq_true rfl, Nat.le_of_ble_eq_true rfl⟩) ⟨kblind nestC_ok, crecv_net hK hP, kpre nestC_ok hN hK hP hD⟩ rfl rfl hl.1 rfl (lv_room (Nat.le_of_ble_eq_true rfl)) dL_law_547 ⟨by show cells + 0 ≤ 601024; omega, by show slots + 0 ≤ 7293034; omega⟩) hD hS hA (fun H locs hP hD hS => ?_)
  refine lv_aload_n S.1 S.2.1 dL_law_550 rfl (lv_at hl 2 rfl) ?_
  refine ll_arg (k := k) (j := 1) S hX hbl hS rfl (by omega) hL (lv_at hl 0 rfl) (lv_at hl 4 rfl) dL_law_551 dL_law_552 dL_law_554 dL_law_555 dL_law_556 ?_
  refine ll_arg (k := k) (j := 2) S hX hbl hS rfl (by omega) hL (lv_at hl 0 rfl) (lv_at hl 4 rfl) dL_law_557 dL_law_558 dL_law_560 dL_law_561 dL_law_562 ?_
  refine ll_arg (k := k) (j := 3) S hX hbl hS rfl (by omega) hL (lv_at hl 0 rfl) (lv_at hl 4 rfl) dL_law_563 dL_law_564 dL_law_566 dL_law_567 dL_law_568 ?_
  have hP := P_perm hP (pm_lm (mB cy am τ) [oE cy ao f] (cK cy a P σ) (cB cy a σ))
  have hD := D_perm hD (pm_lm (mB cy am τ) [oE cy ao f] (cK cy a P σ) (cB cy a σ))
  refine kgo_i (va_runV (As := [.int (xs (5 * k + 1)), .int (xs (5 * k + 2)), .int (xs (5 * k + 3))]) (rest := [.int (cNews (xs (5 * k + 1)) (xs (5 * k + 2)) (xs (5 * k + 3)) σ)]) S (c_X3_news l D cy am (([oE cy ao f] ++ cK cy a P σ) ++ cB cy a σ) τ (xs (5 * k + 1)) (xs (5 * k + 2)) (xs (5 * k + 3)) H.size) (cwV 3 S.2.2.2.2 (gw_good_1 wm_679 (gw_good_1 wm_680 (gw_good_1 wm_681 (gw_good_1 wm_50 (gw_good_in wm_682))))) rfl rfl rfl (by decide +kernel) ⟨Nat.le_of_ble_eq_true rfl, Nat.le_of_ble_eq_true rfl⟩) ⟨kblind kNok.nil, mrecv hK hP, kpre kNok.nil (kN.nil s) hK hP hD⟩ rfl rfl hl.1 rfl (lv_room (Nat.le_of_ble_eq_true rfl)) dL_law_569 ⟨by show cells + 0 + 0 ≤ 601024; omega, by show slots + 0 + 0 ≤ 7293034; omega⟩) hD hS hA (fun H locs hP hD hS => ?_)
  generalize hsT : mT0 τ = sT at hP hD e3
  have hP := P_perm hP (pm_lm (mB cy am sT) [oE cy ao f] (cK cy a P σ) (cB cy a σ)).symm
  have hD := D_perm hD (pm_lm (mB cy am sT) [oE cy ao f] (cK cy a P σ) (cB cy a σ)).symm
  exact lv_icmp_eq (tgt := 794) S.1 S.2.1 dL_law_572 (by decide) (fun _ => nx _ _ _ _ _ _ _ _ _ _ e3 hP hD hS hl (by omega) (by omega)) (fun h => absurd e2 h)
set_option maxHeartbeats 400000 in
set_option maxRecDepth 100000 in
theorem lc_flying {Rr : Nat → Nat → CS → MS → Prop} {p : Program} {l : Launch} {e : Env} {s : State} {m : MethodId} {below : List Frame} {meth : Method} {c : Code} {H : Heap} {locs : List Loc} {cells slots : Nat} {Q : State → Prop} {ls : Array Slot} {D : va_G} {cy : Nat → ClassId} {am a : Nat → Nat} {ao b L k P : Nat} {xs : Nat → Int32} {σ : CS} {τ : MS} {f : Nat → Int64} (F : lFix p l m c s b L xs D cy) (hI9 : lrI Rr) (hRr : lrFly Rr) (hR : Rr k P σ τ) (hk : 5 * k + 4 < L) (hP : va_P D vwCl (wl cy am ao a P σ τ f) H) (hD : va_D (lA s) (wl cy am ao a P σ τ f)) (hS : va_S (lA s) s.heap H locs) (hl : lv_has ls 7 [(0, .ref b), (1, .ref (a 0)), (2, .ref (am 0)), (3, .ref ao), (4, .int (nI (5 * k)))]) (hc : cells ≤ 64 + 2 * k) (hs : slots ≤ 12000 + 39 * k) (nx : lNx Rr p l e s m below meth c b Q D cy am ao k) : W p l e room_1 s m #[Value.ref b] below meth c H locs cells slots Q (F0 m 577 ls []) := by
  have F9 := F
  obtain ⟨S, hst9, hK, hNA, -, -, -, hX, hbl, hL⟩ := F
  obtain ⟨hcI, hmI⟩ := hI9 _ _ _ _ hR
  have hA : ∀ q, s.heap.size ≤ q → lA s q := fun q h => h
  have hN := nestA_C hNA
  refine lv_aload_n S.1 S.2.1 dL_law_577 rfl (lv_at hl 1 rfl) ?_
  obtain ⟨e2, e3⟩ := hRr k P σ τ  (by omega) hR
  refine kgo_i (va_runV (As := []) (rest := []) S (c_X2_flying l D cy a ((mB cy am τ ++ [oE cy ao f]) ++ cK cy a P σ) σ  H.size) (cwV 0 S.2.2.2.2 (gw_good_1 wm_153 (gw_good_1 wm_154 (gw_good_1 wm_155 (gw_good_1 wm_48 (gw_good_in wm_156))))) rfl rfl rfl (by decide +kernel) ⟨Nat.le_of_ble_eq_true rfl, Nat.le_of_ble_eq_true rfl⟩) ⟨kblind nestC_ok, crecv_net hK hP, kpre nestC_ok hN hK hP hD⟩ rfl rfl hl.1 rfl (lv_room (Nat.le_of_ble_eq_true rfl)) dL_law_578 ⟨by show cells + 0 ≤ 601024; omega, by show slots + 0 ≤ 7293034; omega⟩) hD hS hA (fun H locs hP hD hS => ?_)
  refine lv_aload_n S.1 S.2.1 dL_law_581 rfl (lv_at hl 2 rfl) ?_
  have hP := P_perm hP (pm_lm (mB cy am τ) [oE cy ao f] (cK cy a P σ) (cB cy a σ))
  have hD := D_perm hD (pm_lm (mB cy am τ) [oE cy ao f] (cK cy a P σ) (cB cy a σ))
  refine kgo_i (va_runV (As := []) (rest := [.int (σ.1 0 4)]) S (c_X3_flying l D cy am (([oE cy ao f] ++ cK cy a P σ) ++ cB cy a σ) τ  H.size) (cwV 0 S.2.2.2.2 (gw_good_1 wm_683 (gw_good_1 wm_684 (gw_good_1 wm_685 (gw_good_1 wm_50 (gw_good_in wm_686))))) rfl rfl rfl (by decide +kernel) ⟨Nat.le_of_ble_eq_true rfl, Nat.le_of_ble_eq_true rfl⟩) ⟨kblind kNok.nil, mrecv hK hP, kpre kNok.nil (kN.nil s) hK hP hD⟩ rfl rfl hl.1 rfl (lv_room (Nat.le_of_ble_eq_true rfl)) dL_law_582 ⟨by show cells + 0 + 0 ≤ 601024; omega, by show slots + 0 + 0 ≤ 7293034; omega⟩) hD hS hA (fun H locs hP hD hS => ?_)
  generalize hsT : mT0 τ = sT at hP hD e3
  have hP := P_perm hP (pm_lm (mB cy am sT) [oE cy ao f] (cK cy a P σ) (cB cy a σ)).symm
  have hD := D_perm hD (pm_lm (mB cy am sT) [oE cy ao f] (cK cy a P σ) (cB cy a σ)).symm
  exact lv_icmp_eq (tgt := 794) S.1 S.2.1 dL_law_585 (by decide) (fun _ => nx _ _ _ _ _ _ _ _ _ _ e3 hP hD hS hl (by omega) (by omega)) (fun h => absurd e2 h)
set_option maxHeartbeats 400000 in
set_option maxRecDepth 100000 in
theorem lc_distance {Rr : Nat → Nat → CS → MS → Prop} {p : Program} {l : Launch} {e : Env} {s : State} {m : MethodId} {below : List Frame} {meth : Method} {c : Code} {H : Heap} {locs : List Loc} {cells slots : Nat} {Q : State → Prop} {ls : Array Slot} {D : va_G} {cy : Nat → ClassId} {am a : Nat → Nat} {ao b L k P : Nat} {xs : Nat → Int32} {σ : CS} {τ : MS} {f : Nat → Int64} (F : lFix p l m c s b L xs D cy) (hI9 : lrI Rr) (hT : lrT) (hRr : lrDist Rr) (hR : Rr k P σ τ) (hk : 5 * k + 4 < L) (hP : va_P D vwCl (wl cy am ao a P σ τ f) H) (hD : va_D (lA s) (wl cy am ao a P σ τ f)) (hS : va_S (lA s) s.heap H locs) (hl : lv_has ls 7 [(0, .ref b), (1, .ref (a 0)), (2, .ref (am 0)), (3, .ref ao), (4, .int (nI (5 * k)))]) (hc : cells ≤ 64 + 2 * k) (hs : slots ≤ 12000 + 39 * k) (nx : lNx Rr p l e s m below meth c b Q D cy am ao k) : W p l e room_1 s m #[Value.ref b] below meth c H locs cells slots Q (F0 m 590 ls []) := by
  have F9 := F
  obtain ⟨S, hst9, hK, hNA, -, -, -, hX, hbl, hL⟩ := F
  obtain ⟨hcI, hmI⟩ := hI9 _ _ _ _ hR
  have hA : ∀ q, s.heap.size ≤ q → lA s q := fun q h => h
  have hN := nestA_C hNA
  refine lv_aload_n S.1 S.2.1 dL_law_590 rfl (lv_at hl 1 rfl) ?_
  refine ll_arg (k := k) (j := 1) S hX hbl hS rfl (by omega) hL (lv_at hl 0 rfl) (lv_at hl 4 rfl) dL_law_591 dL_law_592 dL_law_594 dL_law_595 dL_law_596 ?_
  refine ll_arg (k := k) (j := 2) S hX hbl hS rfl (by omega) hL (lv_at hl 0 rfl) (lv_at hl 4 rfl) dL_law_597 dL_law_598 dL_law_600 dL_law_601 dL_law_602 ?_
  obtain ⟨e2, e3⟩ := hRr k P σ τ (xs (5 * k + 1)) (xs (5 * k + 2)) (by omega) hR
  refine kgo_i (va_runV (As := [.int (xs (5 * k + 1)), .int (xs (5 * k + 2))]) (rest := []) S (c_X2_distance l D cy a ((mB cy am τ ++ [oE cy ao f]) ++ cK cy a P σ) σ (xs (5 * k + 1)) (xs (5 * k + 2)) H.size) (cwV 2 S.2.2.2.2 (gw_good_1 wm_157 (gw_good_1 wm_158 (gw_good_1 wm_159 (gw_good_1 wm_48 (gw_good_in wm_160))))) rfl rfl rfl (by decide +kernel) ⟨Nat.le_of_ble_eq_true rfl, Nat.le_of_ble_eq_true rfl⟩) ⟨kblind nestC_ok, crecv_net hK hP, kpre nestC_ok hN hK hP hD⟩ rfl rfl hl.1 rfl (lv_room (Nat.le_of_ble_eq_true rfl)) dL_law_603 ⟨by show cells + 0 ≤ 601024; omega, by show slots + 0 ≤ 7293034; omega⟩) hD hS hA (fun H locs hP hD hS => ?_)
  rw [cW_eq (show keep σ (cDistS (xs (5 * k + 1)) (xs (5 * k + 2)) σ) from cDistS_keep)] at hP hD
  generalize hsN : cDistS (xs (5 * k + 1)) (xs (5 * k + 2)) σ = sN at hP hD e3
  refine lv_aload_n S.1 S.2.1 dL_law_606 rfl (lv_at hl 2 rfl) ?_
  refine ll_arg (k := k) (j := 1) S hX hbl hS rfl (by omega) hL (lv_at hl 0 rfl) (lv_at hl 4 rfl) dL_law_607 dL_law_608 dL_law_610 dL_law_611 dL_law_612 ?_
  refine ll_arg (k := k) (j := 2) S hX hbl hS rfl (by omega) hL (lv_at hl 0 rfl) (lv_at hl 4 rfl) dL_law_613 dL_law_614 dL_law_616 dL_law_617 dL_law_618 ?_
  have hP := P_perm hP (pm_lm (mB cy am τ) [oE cy ao f] (cK cy a P sN) (cB cy a sN))
  have hD := D_perm hD (pm_lm (mB cy am τ) [oE cy ao f] (cK cy a P sN) (cB cy a sN))
  refine kgo_i (va_runV (As := [.int (xs (5 * k + 1)), .int (xs (5 * k + 2))]) (rest := [.int (cDist (xs (5 * k + 1)) (xs (5 * k + 2)) σ)]) S (c_X3_distance l D cy am (([oE cy ao f] ++ cK cy a P sN) ++ cB cy a sN) τ (xs (5 * k + 1)) (xs (5 * k + 2)) (hT _ hmI.2.2.2.2.1) H.size) (cwV 2 S.2.2.2.2 (gw_good_1 wm_663 (gw_good_1 wm_664 (gw_good_1 wm_665 (gw_good_1 wm_50 (gw_good_in wm_666))))) rfl rfl rfl (by decide +kernel) ⟨Nat.le_of_ble_eq_true rfl, Nat.le_of_ble_eq_true rfl⟩) ⟨kblind kNok.nil, mrecv hK hP, kpre kNok.nil (kN.nil s) hK hP hD⟩ rfl rfl hl.1 rfl (lv_room (Nat.le_of_ble_eq_true rfl)) dL_law_619 ⟨by show cells + 0 + 0 ≤ 601024; omega, by show slots + 0 + 0 ≤ 7293034; omega⟩) hD hS hA (fun H locs hP hD hS => ?_)
  generalize hsT : mDistS (xs (5 * k + 1)) (xs (5 * k + 2)) τ = sT at hP hD e3
  have hP := P_perm hP (pm_lm (mB cy am sT) [oE cy ao f] (cK cy a P sN) (cB cy a sN)).symm
  have hD := D_perm hD (pm_lm (mB cy am sT) [oE cy ao f] (cK cy a P sN) (cB cy a sN)).symm
  exact lv_icmp_eq (tgt := 794) S.1 S.2.1 dL_law_622 (by decide) (fun _ => nx _ _ _ _ _ _ _ _ _ _ e3 hP hD hS hl (by omega) (by omega)) (fun h => absurd e2 h)
set_option maxHeartbeats 400000 in
set_option maxRecDepth 100000 in
theorem lc_next {Rr : Nat → Nat → CS → MS → Prop} {p : Program} {l : Launch} {e : Env} {s : State} {m : MethodId} {below : List Frame} {meth : Method} {c : Code} {H : Heap} {locs : List Loc} {cells slots : Nat} {Q : State → Prop} {ls : Array Slot} {D : va_G} {cy : Nat → ClassId} {am a : Nat → Nat} {ao b L k P : Nat} {xs : Nat → Int32} {σ : CS} {τ : MS} {f : Nat → Int64} (F : lFix p l m c s b L xs D cy) (hI9 : lrI Rr) (hT : lrT) (hRr : lrNext Rr) (hR : Rr k P σ τ) (hk : 5 * k + 4 < L) (hP : va_P D vwCl (wl cy am ao a P σ τ f) H) (hD : va_D (lA s) (wl cy am ao a P σ τ f)) (hS : va_S (lA s) s.heap H locs) (hl : lv_has ls 7 [(0, .ref b), (1, .ref (a 0)), (2, .ref (am 0)), (3, .ref ao), (4, .int (nI (5 * k)))]) (hc : cells ≤ 64 + 2 * k) (hs : slots ≤ 12000 + 39 * k) (nx : lNx Rr p l e s m below meth c b Q D cy am ao k) : W p l e room_1 s m #[Value.ref b] below meth c H locs cells slots Q (F0 m 627 ls []) := by
  have F9 := F
  obtain ⟨S, hst9, hK, hNA, -, -, -, hX, hbl, hL⟩ := F
  obtain ⟨hcI, hmI⟩ := hI9 _ _ _ _ hR
  have hA : ∀ q, s.heap.size ≤ q → lA s q := fun q h => h
  have hN := nestA_C hNA
  refine lv_aload_n S.1 S.2.1 dL_law_627 rfl (lv_at hl 1 rfl) ?_
  refine ll_arg (k := k) (j := 1) S hX hbl hS rfl (by omega) hL (lv_at hl 0 rfl) (lv_at hl 4 rfl) dL_law_628 dL_law_629 dL_law_631 dL_law_632 dL_law_633 ?_
  refine ll_arg (k := k) (j := 2) S hX hbl hS rfl (by omega) hL (lv_at hl 0 rfl) (lv_at hl 4 rfl) dL_law_634 dL_law_635 dL_law_637 dL_law_638 dL_law_639 ?_
  obtain ⟨e2, e3⟩ := hRr k P σ τ (xs (5 * k + 1)) (xs (5 * k + 2)) (by omega) hR
  refine kgo_i (va_runV (As := [.int (xs (5 * k + 1)), .int (xs (5 * k + 2))]) (rest := []) S (c_X2_next l D cy a ((mB cy am τ ++ [oE cy ao f]) ++ cK cy a P σ) σ (xs (5 * k + 1)) (xs (5 * k + 2)) H.size) (cwV 2 S.2.2.2.2 (gw_good_1 wm_169 (gw_good_1 wm_170 (gw_good_1 wm_171 (gw_good_1 wm_48 (gw_good_in wm_172))))) rfl rfl rfl (by decide +kernel) ⟨Nat.le_of_ble_eq_true rfl, Nat.le_of_ble_eq_true rfl⟩) ⟨kblind nestC_ok, crecv_net hK hP, kpre nestC_ok hN hK hP hD⟩ rfl rfl hl.1 rfl (lv_room (Nat.le_of_ble_eq_true rfl)) dL_law_640 ⟨by show cells + 0 ≤ 601024; omega, by show slots + 0 ≤ 7293034; omega⟩) hD hS hA (fun H locs hP hD hS => ?_)
  rw [cW_eq (show keep σ (cDistS (xs (5 * k + 1)) (xs (5 * k + 2)) σ) from cDistS_keep)] at hP hD
  generalize hsN : cDistS (xs (5 * k + 1)) (xs (5 * k + 2)) σ = sN at hP hD e3
  refine lv_aload_n S.1 S.2.1 dL_law_643 rfl (lv_at hl 2 rfl) ?_
  refine ll_arg (k := k) (j := 1) S hX hbl hS rfl (by omega) hL (lv_at hl 0 rfl) (lv_at hl 4 rfl) dL_law_644 dL_law_645 dL_law_647 dL_law_648 dL_law_649 ?_
  refine ll_arg (k := k) (j := 2) S hX hbl hS rfl (by omega) hL (lv_at hl 0 rfl) (lv_at hl 4 rfl) dL_law_650 dL_law_651 dL_law_653 dL_law_654 dL_law_655 ?_
  have hP := P_perm hP (pm_lm (mB cy am τ) [oE cy ao f] (cK cy a P sN) (cB cy a sN))
  have hD := D_perm hD (pm_lm (mB cy am τ) [oE cy ao f] (cK cy a P sN) (cB cy a sN))
  refine kgo_i (va_runV (As := [.int (xs (5 * k + 1)), .int (xs (5 * k + 2))]) (rest := [.int (cNext (xs (5 * k + 1)) (xs (5 * k + 2)) σ)]) S (c_X3_next l D cy am (([oE cy ao f] ++ cK cy a P sN) ++ cB cy a sN) τ (xs (5 * k + 1)) (xs (5 * k + 2)) (hT _ hmI.2.2.2.2.1) H.size) (cwV 2 S.2.2.2.2 (gw_good_1 wm_667 (gw_good_1 wm_668 (gw_good_1 wm_669 (gw_good_1 wm_50 (gw_good_in wm_670))))) rfl rfl rfl (by decide +kernel) ⟨Nat.le_of_ble_eq_true rfl, Nat.le_of_ble_eq_true rfl⟩) ⟨kblind kNok.nil, mrecv hK hP, kpre kNok.nil (kN.nil s) hK hP hD⟩ rfl rfl hl.1 rfl (lv_room (Nat.le_of_ble_eq_true rfl)) dL_law_656 ⟨by show cells + 0 + 0 ≤ 601024; omega, by show slots + 0 + 0 ≤ 7293034; omega⟩) hD hS hA (fun H locs hP hD hS => ?_)
  generalize hsT : mNextS (xs (5 * k + 1)) (xs (5 * k + 2)) τ = sT at hP hD e3
  have hP := P_perm hP (pm_lm (mB cy am sT) [oE cy ao f] (cK cy a P sN) (cB cy a sN)).symm
  have hD := D_perm hD (pm_lm (mB cy am sT) [oE cy ao f] (cK cy a P sN) (cB cy a sN)).symm
  exact lv_icmp_eq (tgt := 794) S.1 S.2.1 dL_law_659 (by decide) (fun _ => nx _ _ _ _ _ _ _ _ _ _ e3 hP hD hS hl (by omega) (by omega)) (fun h => absurd e2 h)
set_option maxHeartbeats 400000 in
set_option maxRecDepth 100000 in
theorem lc_send {Rr : Nat → Nat → CS → MS → Prop} {p : Program} {l : Launch} {e : Env} {s : State} {m : MethodId} {below : List Frame} {meth : Method} {c : Code} {H : Heap} {locs : List Loc} {cells slots : Nat} {Q : State → Prop} {ls : Array Slot} {D : va_G} {cy : Nat → ClassId} {am a : Nat → Nat} {ao b L k P : Nat} {xs : Nat → Int32} {σ : CS} {τ : MS} {f : Nat → Int64} (F : lFix p l m c s b L xs D cy) (hI9 : lrI Rr) (hT : lrT) (hRr : lrSend Rr) (hR : Rr k P σ τ) (hk : 5 * k + 4 < L) (hP : va_P D vwCl (wl cy am ao a P σ τ f) H) (hD : va_D (lA s) (wl cy am ao a P σ τ f)) (hS : va_S (lA s) s.heap H locs) (hl : lv_has ls 7 [(0, .ref b), (1, .ref (a 0)), (2, .ref (am 0)), (3, .ref ao), (4, .int (nI (5 * k)))]) (hc : cells ≤ 64 + 2 * k) (hs : slots ≤ 12000 + 39 * k) (nx : lNx Rr p l e s m below meth c b Q D cy am ao k) : W p l e room_1 s m #[Value.ref b] below meth c H locs cells slots Q (F0 m 664 ls []) := by
  have F9 := F
  obtain ⟨S, hst9, hK, hNA, -, -, -, hX, hbl, hL⟩ := F
  obtain ⟨hcI, hmI⟩ := hI9 _ _ _ _ hR
  have hA : ∀ q, s.heap.size ≤ q → lA s q := fun q h => h
  have hN := nestA_C hNA
  refine lv_aload_n S.1 S.2.1 dL_law_664 rfl (lv_at hl 1 rfl) ?_
  refine ll_arg (k := k) (j := 1) S hX hbl hS rfl (by omega) hL (lv_at hl 0 rfl) (lv_at hl 4 rfl) dL_law_665 dL_law_666 dL_law_668 dL_law_669 dL_law_670 ?_
  refine ll_arg (k := k) (j := 2) S hX hbl hS rfl (by omega) hL (lv_at hl 0 rfl) (lv_at hl 4 rfl) dL_law_671 dL_law_672 dL_law_674 dL_law_675 dL_law_676 ?_
  refine ll_arg (k := k) (j := 3) S hX hbl hS rfl (by omega) hL (lv_at hl 0 rfl) (lv_at hl 4 rfl) dL_law_677 dL_law_678 dL_law_680 dL_law_681 dL_law_682 ?_
  refine lv_aload_n S.1 S.2.1 dL_law_683 rfl (lv_at hl 3 rfl) ?_
  obtain ⟨e1, e2, e3⟩ := hRr k P σ τ (xs (5 * k + 1)) (xs (5 * k + 2)) (xs (5 * k + 3)) (by omega) hR
  have hF := kfree hD hS hA
  refine va_calli (vx_runSW (hh := [(0, 12, 15, 13), (0, 12, 19, 15)]) (As := [.ref (a 0), .int (xs (5 * k + 1)), .int (xs (5 * k + 2)), .int (xs (5 * k + 3)), .ref ao]) (rest := []) S (c_L_send l hst9 D cy a (mB cy am τ) P σ ao f (xs (5 * k + 1)) (xs (5 * k + 2)) (xs (5 * k + 3)) hcI H.size) (vx_cwSW 5 S.2.2.2.2 (gw_good_1 wm_433 (gw_good_1 wm_434 (gw_good_1 wm_47 (gw_good_in wm_435)))) rfl rfl rfl (by decide +kernel) ⟨Nat.le_of_ble_eq_true rfl, Nat.le_of_ble_eq_true rfl⟩) ⟨klblind, kl_pre F9 hP hD hS⟩ rfl rfl hl.1 rfl (lv_room (Nat.le_of_ble_eq_true rfl)) dL_law_684 ⟨by show cells + 2 ≤ 601024; omega, by show slots + 39 ≤ 7293034; omega⟩) hS (fun q _ h => hF q h) hF (fun v b9 t H locs ht hvm hw hB hz1 hk1 hS => ?_)
  obtain ⟨rfl, hb9⟩ := hw
  obtain ⟨hP, hD⟩ := hB
  rw [ht] at hP
  have hD := hD.weaken (fun k q _ h => hF q.1 h)
  rw [← hb9] at hl
  generalize hfN : oF (sendC (xs (5 * k + 1)) (xs (5 * k + 2)) (xs (5 * k + 3)) σ) f (nI P).toInt64 = fN at hP hD
  generalize hPN : (if sendC (xs (5 * k + 1)) (xs (5 * k + 2)) (xs (5 * k + 3)) σ = 0 then P + 1 else P) = PN at hP hD e3
  generalize hsN : (if sendC (xs (5 * k + 1)) (xs (5 * k + 2)) (xs (5 * k + 3)) σ = 0 then cSend P (xs (5 * k + 1)) (xs (5 * k + 2)) (xs (5 * k + 3)) σ else σ) = sN at hP hD e3
  refine lv_istore (lv' := [(5, .int (nI (sendC (xs (5 * k + 1)) (xs (5 * k + 2)) (xs (5 * k + 3)) σ))), (0, .ref b), (1, .ref (b9 0)), (2, .ref (am 0)), (3, .ref ao), (4, .int (nI (5 * k)))]) S.1 S.2.1 dL_law_687 hl (by decide) rfl (fun ls hl => ?_)
  refine lv_aload_n S.1 S.2.1 dL_law_689 rfl (lv_at hl 3 rfl) ?_
  refine ll_arg (k := k) (j := 1) S hX hbl hS rfl (by omega) hL (lv_at hl 1 rfl) (lv_at hl 5 rfl) dL_law_690 dL_law_691 dL_law_693 dL_law_694 dL_law_695 ?_
  refine ll_arg (k := k) (j := 2) S hX hbl hS rfl (by omega) hL (lv_at hl 1 rfl) (lv_at hl 5 rfl) dL_law_696 dL_law_697 dL_law_699 dL_law_700 dL_law_701 ?_
  refine ll_arg (k := k) (j := 3) S hX hbl hS rfl (by omega) hL (lv_at hl 1 rfl) (lv_at hl 5 rfl) dL_law_702 dL_law_703 dL_law_705 dL_law_706 dL_law_707 ?_
  have hP := P_perm hP (pm_lm (mB cy am τ) [oE cy ao fN] (cK cy b9 PN sN) (cB cy b9 sN))
  have hD := D_perm hD (pm_lm (mB cy am τ) [oE cy ao fN] (cK cy b9 PN sN) (cB cy b9 sN))
  refine kgo_i (va_runV (As := [.int (xs (5 * k + 1)), .int (xs (5 * k + 2)), .int (xs (5 * k + 3))]) (rest := []) S (c_X3_send l D cy am (([oE cy ao fN] ++ cK cy b9 PN sN) ++ cB cy b9 sN) τ (xs (5 * k + 1)) (xs (5 * k + 2)) (xs (5 * k + 3)) P hmI hT H.size) (cwV 3 S.2.2.2.2 (gw_good_1 wm_671 (gw_good_1 wm_672 (gw_good_1 wm_673 (gw_good_1 wm_50 (gw_good_in wm_674))))) rfl rfl rfl (by decide +kernel) ⟨Nat.le_of_ble_eq_true rfl, Nat.le_of_ble_eq_true rfl⟩) ⟨kblind kNok.nil, mrecv hK hP, kpre kNok.nil (kN.nil s) hK hP hD⟩ rfl rfl hl.1 rfl (lv_room (Nat.le_of_ble_eq_true rfl)) dL_law_708 ⟨by show cells + 2 + 0 ≤ 601024; omega, by show slots + 39 + 0 ≤ 7293034; omega⟩) hD hS hA (fun H locs hP hD hS => ?_)
  refine lv_istore (lv' := [(6, .int (mSendR P (xs (5 * k + 1)) (xs (5 * k + 2)) (xs (5 * k + 3)) τ)), (5, .int (nI (sendC (xs (5 * k + 1)) (xs (5 * k + 2)) (xs (5 * k + 3)) σ))), (0, .ref b), (1, .ref (b9 0)), (2, .ref (am 0)), (3, .ref ao), (4, .int (nI (5 * k)))]) S.1 S.2.1 dL_law_711 hl (by decide) rfl (fun ls hl => ?_)
  refine lv_aload_n S.1 S.2.1 dL_law_713 rfl (lv_at hl 4 rfl) ?_
  refine kgo_i (va_runV (As := []) (rest := []) S (c_X3_thrown l D cy am (([oE cy ao fN] ++ cK cy b9 PN sN) ++ cB cy b9 sN) (mSend P (xs (5 * k + 1)) (xs (5 * k + 2)) (xs (5 * k + 3)) τ) H.size) (cwV 0 S.2.2.2.2 (gw_good_1 wm_565 (gw_good_1 wm_566 (gw_good_1 wm_567 (gw_good_1 wm_50 (gw_good_in wm_568))))) rfl rfl rfl (by decide +kernel) ⟨Nat.le_of_ble_eq_true rfl, Nat.le_of_ble_eq_true rfl⟩) ⟨kblind kNok.nil, mrecv hK hP, kpre kNok.nil (kN.nil s) hK hP hD⟩ rfl rfl hl.1 rfl (lv_room (Nat.le_of_ble_eq_true rfl)) dL_law_714 ⟨by show cells + 2 + 0 + 0 ≤ 601024; omega, by show slots + 39 + 0 + 0 ≤ 7293034; omega⟩) hD hS hA (fun H locs hP hD hS => ?_)
  generalize hsT : mSend P (xs (5 * k + 1)) (xs (5 * k + 2)) (xs (5 * k + 3)) τ = sT at hP hD e1 e3
  have hP := P_perm hP (pm_lm (mB cy am sT) [oE cy ao fN] (cK cy b9 PN sN) (cB cy b9 sN)).symm
  have hD := D_perm hD (pm_lm (mB cy am sT) [oE cy ao fN] (cK cy b9 PN sN) (cB cy b9 sN)).symm
  refine k_top e1 ?_
  refine lv_iload S.1 S.2.1 dL_law_717 (lv_at hl 1 rfl) ?_
  refine lv_icmp_eq (tgt := 724) S.1 S.2.1 dL_law_719 (by decide) (fun _ => ?_) (fun h => absurd rfl h)
  have hfin : W p l e room_1 s m #[Value.ref b] below meth c H locs (cells + 2 + 0 + 0) (slots + 39 + 0 + 0) Q (F0 m 794 ls []) := nx _ _ _ _ _ _ _ _ _ _ e3 hP hD hS (lv_sub hl [2, 3, 4, 5, 6] rfl) (by omega) (by omega)
  refine lv_iload S.1 S.2.1 dL_law_724 (lv_at hl 1 rfl) ?_
  refine lv_if_ne (tgt := 741) S.1 S.2.1 dL_law_726 (by decide) (fun _ => lv_goto (tgt := 794) S.1 S.2.1 dL_law_741 (by decide) hfin) (fun hz => ?_)
  have hz : sendC (xs (5 * k + 1)) (xs (5 * k + 2)) (xs (5 * k + 3)) σ = 0 := by rcases (show sendC (xs (5 * k + 1)) (xs (5 * k + 2)) (xs (5 * k + 3)) σ = 0 ∨ sendC (xs (5 * k + 1)) (xs (5 * k + 2)) (xs (5 * k + 3)) σ = 1 ∨ sendC (xs (5 * k + 1)) (xs (5 * k + 2)) (xs (5 * k + 3)) σ = 2 from code_012_send) with h | h | h; exact h; all_goals (rw [h] at hz; exact absurd hz (by decide))
  have e2 := e2 hz
  rw [oF, if_pos hz] at hfN
  refine lv_aload_n S.1 S.2.1 dL_law_729 rfl (lv_at hl 5 rfl) ?_
  refine lv_iconst (v := nI 0) S.1 S.2.1 dL_law_730 (by decide) ?_
  refine k_lald (q0 := (mB cy am sT).length) (t0 := 1) (j := 0) S hK hP oget rfl (by decide) (by decide) dL_law_731 ?_
  refine k_topl (y := (nI P).toInt64) (by rw [← hfN]; rfl) ?_
  refine lv_iload S.1 S.2.1 dL_law_732 (lv_at hl 0 rfl) ?_
  refine lv_i2l (v := (mSendR P (xs (5 * k + 1)) (xs (5 * k + 2)) (xs (5 * k + 3)) τ).toInt64) S.1 S.2.1 dL_law_734 rfl ?_
  refine W.lcmp S.1 S.2.1 dL_law_735 ?_
  refine k_top (lg_self (by rw [e2])) ?_
  exact lv_if_eq (tgt := 741) S.1 S.2.1 dL_law_736 (by decide) (fun _ => lv_goto (tgt := 794) S.1 S.2.1 dL_law_741 (by decide) hfin) (fun h => absurd rfl h)
set_option maxHeartbeats 400000 in
set_option maxRecDepth 100000 in
theorem lc_packet {Rr : Nat → Nat → CS → MS → Prop} {p : Program} {l : Launch} {e : Env} {s : State} {m : MethodId} {below : List Frame} {meth : Method} {c : Code} {H : Heap} {locs : List Loc} {cells slots : Nat} {Q : State → Prop} {ls : Array Slot} {D : va_G} {cy : Nat → ClassId} {am a : Nat → Nat} {ao b L k P : Nat} {xs : Nat → Int32} {σ : CS} {τ : MS} {f : Nat → Int64} (F : lFix p l m c s b L xs D cy) (hI9 : lrI Rr) (hRr : lrPkt Rr) (hR : Rr k P σ τ) (hk : 5 * k + 4 < L) (hP : va_P D vwCl (wl cy am ao a P σ τ f) H) (hD : va_D (lA s) (wl cy am ao a P σ τ f)) (hS : va_S (lA s) s.heap H locs) (hl : lv_has ls 7 [(0, .ref b), (1, .ref (a 0)), (2, .ref (am 0)), (3, .ref ao), (4, .int (nI (5 * k)))]) (hc : cells ≤ 64 + 2 * k) (hs : slots ≤ 12000 + 39 * k) (nx : lNx Rr p l e s m below meth c b Q D cy am ao k) : W p l e room_1 s m #[Value.ref b] below meth c H locs cells slots Q (F0 m 744 ls []) := by
  have F9 := F
  obtain ⟨S, hst9, hK, hNA, -, -, -, hX, hbl, hL⟩ := F
  obtain ⟨hcI, hmI⟩ := hI9 _ _ _ _ hR
  have hA : ∀ q, s.heap.size ≤ q → lA s q := fun q h => h
  have hN := nestA_C hNA
  refine lv_aload_n S.1 S.2.1 dL_law_744 rfl (lv_at hl 1 rfl) ?_
  refine ll_arg (k := k) (j := 1) S hX hbl hS rfl (by omega) hL (lv_at hl 0 rfl) (lv_at hl 4 rfl) dL_law_745 dL_law_746 dL_law_748 dL_law_749 dL_law_750 ?_
  refine ll_arg (k := k) (j := 2) S hX hbl hS rfl (by omega) hL (lv_at hl 0 rfl) (lv_at hl 4 rfl) dL_law_751 dL_law_752 dL_law_754 dL_law_755 dL_law_756 ?_
  obtain ⟨e2, e3⟩ := hRr k P σ τ (xs (5 * k + 1)) (xs (5 * k + 2)) (by omega) hR
  refine kgo_i (va_runV (As := [.int (xs (5 * k + 1)), .int (xs (5 * k + 2))]) (rest := []) S (c_X2_packet l D cy a (mB cy am τ ++ [oE cy ao f]) P σ (xs (5 * k + 1)) (xs (5 * k + 2)) hcI H.size) (cwV 2 S.2.2.2.2 (gw_good_1 wm_177 (gw_good_1 wm_178 (gw_good_1 wm_179 (gw_good_1 wm_48 (gw_good_in wm_180))))) rfl rfl rfl (by decide +kernel) ⟨Nat.le_of_ble_eq_true rfl, Nat.le_of_ble_eq_true rfl⟩) ⟨kblind nestC_ok, crecv_net hK hP, kpre nestC_ok hN hK hP hD⟩ rfl rfl hl.1 rfl (lv_room (Nat.le_of_ble_eq_true rfl)) dL_law_757 ⟨by show cells + 0 ≤ 601024; omega, by show slots + 0 ≤ 7293034; omega⟩) hD hS hA (fun H locs hP hD hS => ?_)
  refine lv_aload_n S.1 S.2.1 dL_law_760 rfl (lv_at hl 2 rfl) ?_
  refine ll_arg (k := k) (j := 1) S hX hbl hS rfl (by omega) hL (lv_at hl 0 rfl) (lv_at hl 4 rfl) dL_law_761 dL_law_762 dL_law_764 dL_law_765 dL_law_766 ?_
  refine ll_arg (k := k) (j := 2) S hX hbl hS rfl (by omega) hL (lv_at hl 0 rfl) (lv_at hl 4 rfl) dL_law_767 dL_law_768 dL_law_770 dL_law_771 dL_law_772 ?_
  have hP := P_perm hP (pm_lm (mB cy am τ) [oE cy ao f] (cK cy a P σ) (cB cy a σ))
  have hD := D_perm hD (pm_lm (mB cy am τ) [oE cy ao f] (cK cy a P σ) (cB cy a σ))
  refine kgo_i (va_runV (As := [.int (xs (5 * k + 1)), .int (xs (5 * k + 2))]) (rest := [.int (cPkt P (xs (5 * k + 1)) (xs (5 * k + 2)) σ)]) S (c_X3_packet l D cy am (([oE cy ao f] ++ cK cy a P σ) ++ cB cy a σ) τ (xs (5 * k + 1)) (xs (5 * k + 2)) P hmI H.size) (cwV 2 S.2.2.2.2 (gw_good_1 wm_675 (gw_good_1 wm_676 (gw_good_1 wm_677 (gw_good_1 wm_50 (gw_good_in wm_678))))) rfl rfl rfl (by decide +kernel) ⟨Nat.le_of_ble_eq_true rfl, Nat.le_of_ble_eq_true rfl⟩) ⟨kblind kNok.nil, mrecv hK hP, kpre kNok.nil (kN.nil s) hK hP hD⟩ rfl rfl hl.1 rfl (lv_room (Nat.le_of_ble_eq_true rfl)) dL_law_773 ⟨by show cells + 0 + 0 ≤ 601024; omega, by show slots + 0 + 0 ≤ 7293034; omega⟩) hD hS hA (fun H locs hP hD hS => ?_)
  generalize hsT : mT0 τ = sT at hP hD e3
  have hP := P_perm hP (pm_lm (mB cy am sT) [oE cy ao f] (cK cy a P σ) (cB cy a σ)).symm
  have hD := D_perm hD (pm_lm (mB cy am sT) [oE cy ao f] (cK cy a P σ) (cB cy a σ)).symm
  exact lv_icmp_eq (tgt := 794) S.1 S.2.1 dL_law_776 (by decide) (fun _ => nx _ _ _ _ _ _ _ _ _ _ e3 hP hD hS hl (by omega) (by omega)) (fun h => absurd e2 h)
set_option maxHeartbeats 400000 in
set_option maxRecDepth 100000 in
theorem lc_settled {Rr : Nat → Nat → CS → MS → Prop} {p : Program} {l : Launch} {e : Env} {s : State} {m : MethodId} {below : List Frame} {meth : Method} {c : Code} {H : Heap} {locs : List Loc} {cells slots : Nat} {Q : State → Prop} {ls : Array Slot} {D : va_G} {cy : Nat → ClassId} {am a : Nat → Nat} {ao b L k P : Nat} {xs : Nat → Int32} {σ : CS} {τ : MS} {f : Nat → Int64} (F : lFix p l m c s b L xs D cy) (hI9 : lrI Rr) (hRr : lrSet Rr) (hR : Rr k P σ τ) (hk : 5 * k + 4 < L) (hP : va_P D vwCl (wl cy am ao a P σ τ f) H) (hD : va_D (lA s) (wl cy am ao a P σ τ f)) (hS : va_S (lA s) s.heap H locs) (hl : lv_has ls 7 [(0, .ref b), (1, .ref (a 0)), (2, .ref (am 0)), (3, .ref ao), (4, .int (nI (5 * k)))]) (hc : cells ≤ 64 + 2 * k) (hs : slots ≤ 12000 + 39 * k) (nx : lNx Rr p l e s m below meth c b Q D cy am ao k) : W p l e room_1 s m #[Value.ref b] below meth c H locs cells slots Q (F0 m 781 ls []) := by
  have F9 := F
  obtain ⟨S, hst9, hK, hNA, -, -, -, hX, hbl, hL⟩ := F
  obtain ⟨hcI, hmI⟩ := hI9 _ _ _ _ hR
  have hA : ∀ q, s.heap.size ≤ q → lA s q := fun q h => h
  have hN := nestA_C hNA
  refine lv_aload_n S.1 S.2.1 dL_law_781 rfl (lv_at hl 1 rfl) ?_
  obtain ⟨e2, e3⟩ := hRr k P σ τ  (by omega) hR
  refine kgo_i (va_runV (As := []) (rest := []) S (c_X2_settled l D cy a ((mB cy am τ ++ [oE cy ao f]) ++ cK cy a P σ) σ  H.size) (cwV 0 S.2.2.2.2 (gw_good_1 wm_181 (gw_good_1 wm_182 (gw_good_1 wm_183 (gw_good_1 wm_48 (gw_good_in wm_184))))) rfl rfl rfl (by decide +kernel) ⟨Nat.le_of_ble_eq_true rfl, Nat.le_of_ble_eq_true rfl⟩) ⟨kblind nestC_ok, crecv_net hK hP, kpre nestC_ok hN hK hP hD⟩ rfl rfl hl.1 rfl (lv_room (Nat.le_of_ble_eq_true rfl)) dL_law_782 ⟨by show cells + 0 ≤ 601024; omega, by show slots + 0 ≤ 7293034; omega⟩) hD hS hA (fun H locs hP hD hS => ?_)
  refine lv_aload_n S.1 S.2.1 dL_law_785 rfl (lv_at hl 2 rfl) ?_
  have hP := P_perm hP (pm_lm (mB cy am τ) [oE cy ao f] (cK cy a P σ) (cB cy a σ))
  have hD := D_perm hD (pm_lm (mB cy am τ) [oE cy ao f] (cK cy a P σ) (cB cy a σ))
  refine kgo_i (va_runV (As := []) (rest := [.int (b2i (cSettled σ))]) S (c_X3_settled l D cy am (([oE cy ao f] ++ cK cy a P σ) ++ cB cy a σ) τ  H.size) (cwV 0 S.2.2.2.2 (gw_good_1 wm_687 (gw_good_1 wm_688 (gw_good_1 wm_689 (gw_good_1 wm_50 (gw_good_in wm_690))))) rfl rfl rfl (by decide +kernel) ⟨Nat.le_of_ble_eq_true rfl, Nat.le_of_ble_eq_true rfl⟩) ⟨kblind kNok.nil, mrecv hK hP, kpre kNok.nil (kN.nil s) hK hP hD⟩ rfl rfl hl.1 rfl (lv_room (Nat.le_of_ble_eq_true rfl)) dL_law_786 ⟨by show cells + 0 + 0 ≤ 601024; omega, by show slots + 0 + 0 ≤ 7293034; omega⟩) hD hS hA (fun H locs hP hD hS => ?_)
  generalize hsT : mSetS τ = sT at hP hD e3
  have hP := P_perm hP (pm_lm (mB cy am sT) [oE cy ao f] (cK cy a P σ) (cB cy a σ)).symm
  have hD := D_perm hD (pm_lm (mB cy am sT) [oE cy ao f] (cK cy a P σ) (cB cy a σ)).symm
  exact lv_icmp_eq (tgt := 794) S.1 S.2.1 dL_law_789 (by decide) (fun _ => nx _ _ _ _ _ _ _ _ _ _ e3 hP hD hS hl (by omega) (by omega)) (fun h => absurd e2 h)
