set_option maxHeartbeats 400000 in
set_option maxRecDepth 100000 in
theorem c_L_link (l : Launch) (hst9 : l.stackTraces = false) (D : va_G) (cy : Nat → ClassId) (a : Nat → Nat) (Y : va_W) (P : Nat) (σ : CS) (ao : Nat) (f : Nat → Int64) (x y z w : Int32) : ∀ sz : Nat, Met l yL_link (Cond.codeWith yL_link cL_link 7 (some .int) [(0, 14, 17, 13), (0, 14, 21, 15)] :: gw) (kRm 7 1 6) (va_Pc [.ref (a 0), .int x, .int y, .int z, .int w, .ref ao] (kPl D (tyA cy) (cW (Y ++ [oE cy ao f]) cy a P σ) sz)) (kQi D (cW (Y ++ [oE cy ao f]) cy a P σ) (cW (Y ++ [oE cy ao (oF (linkC x y z w σ) f (cLinkR x y z w σ).toInt64)]) cy a P (cLink x y z w σ)) (nI (linkC x y z w σ)) sz) 1 6 (va_A (cW (Y ++ [oE cy ao f]) cy a P σ) sz) := by
  intro sz
  have h0 : ¬ linkC x y z w σ = 0 → cLink x y z w σ = σ := fun h => if_neg h
  refine lh_start (hh := [(0, 14, 17, 13), (0, 14, 21, 15)]) (by decide) rfl (Nat.le_of_ble_eq_true rfl) (fun p e s m args below meth c S hr hlk hK hNA hP hD hsz hA hPx hno htab ls hl => ?_)
  subst hsz
  have hS : va_S (va_A (cW (Y ++ [oE cy ao f]) cy a P σ) s.heap.size) s.heap s.heap [] := va_S.rf
  have hl : lv_has ls 7 [(0, .ref (a 0)), (1, .int x), (2, .int y), (3, .int z), (4, .int w), (5, .ref ao)] := hl
  refine lv_aload S.1 S.2.1 dL_link_0 (lv_at hl 5 rfl) ?_
  refine lv_iconst (v := nI 0) S.1 S.2.1 dL_link_2 (by decide) ?_
  refine lv_aload_n S.1 S.2.1 dL_link_3 rfl (lv_at hl 0 rfl) ?_
  refine lv_iload_n S.1 S.2.1 dL_link_4 rfl (lv_at hl 1 rfl) ?_
  refine lv_iload_n S.1 S.2.1 dL_link_5 rfl (lv_at hl 2 rfl) ?_
  refine lv_iload_n S.1 S.2.1 dL_link_6 rfl (lv_at hl 3 rfl) ?_
  refine lv_iload S.1 S.2.1 dL_link_7 (lv_at hl 4 rfl) ?_
  refine vx_calli (vx_runV (As := [.int x, .int y, .int z, .int w]) (rest := [.int (nI 0), .ref ao]) S (c_X2_link l hst9 D cy a (Y ++ [oE cy ao f]) P σ x y z w s.heap.size) (cwV 4 S.2.2.2.2 (gw_good_1 wm_209 (gw_good_1 wm_210 (gw_good_1 wm_211 (gw_good_1 wm_48 (gw_good_in wm_212))))) rfl rfl rfl (by decide +kernel) ⟨Nat.le_of_ble_eq_true rfl, Nat.le_of_ble_eq_true rfl⟩) ⟨kxblind, crecv_net hK hP, kxpre hPx⟩ rfl rfl hl.1 rfl (lv_room (Nat.le_of_ble_eq_true rfl)) dL_link_9 ⟨Nat.le_of_ble_eq_true rfl, Nat.le_of_ble_eq_true rfl⟩) hS (fun q _ h => h) (fun q h => h) (fun q _ h => h) (fun E ce q9 u t H1 locs1 ht hvm hw hB hz1 hk1 hS hce hcv hcl => ?_) (fun r u t H1 locs1 ht hvm hw hB hz1 hk1 hS => ?_)
  · obtain ⟨hX, hP, hD⟩ := hB
    rw [ht] at hP
    rcases hX with ⟨hc, rfl⟩ | ⟨hc, rfl⟩
    · refine xc_catch1 S.2.2.2.1 ⟨0, 14, 17, 13⟩ [⟨0, 14, 21, 15⟩] htab (by decide) (by decide) (S.2.2.2.2 _ (List.mem_cons_of_mem _ wm_207)) (hcA hNA) hce hcv hcl ?_
      refine W.eq (g2 := F0 m 17 ls [.ref q9]) rfl ?_
      refine lv_astore (lv' := [(6, .ref q9), (0, .ref (a 0)), (1, .int x), (2, .int y), (3, .int z), (4, .int w), (5, .ref ao)]) S.1 S.2.1 dL_link_17 hl (by decide) rfl (fun ls hl => ?_)
      refine lv_iconst (v := nI 1) S.1 S.2.1 dL_link_19 (by decide) ?_
      rw [h0 (by omega), oF, if_neg (by omega)]
      exact kret_i S hr hlk hP hD hS (by rw [hc]) dL_link_20
    · refine xc_catch2 S.2.2.2.1 ⟨0, 14, 17, 13⟩ ⟨0, 14, 21, 15⟩ [] htab (by decide) (by decide) (S.2.2.2.2 _ (List.mem_cons_of_mem _ wm_207)) hno (by decide) (by decide) (S.2.2.2.2 _ (List.mem_cons_of_mem _ wm_208)) (hcS hNA) hce hcv hcl ?_
      refine W.eq (g2 := F0 m 21 ls [.ref q9]) rfl ?_
      refine lv_astore (lv' := [(6, .ref q9), (0, .ref (a 0)), (1, .int x), (2, .int y), (3, .int z), (4, .int w), (5, .ref ao)]) S.1 S.2.1 dL_link_21 hl (by decide) rfl (fun ls hl => ?_)
      refine lv_iconst (v := nI 2) S.1 S.2.1 dL_link_23 (by decide) ?_
      rw [h0 (by omega), oF, if_neg (by omega)]
      exact kret_i S hr hlk hP hD hS (by rw [hc]) dL_link_24
  · obtain ⟨hr0, hc⟩ := hw
    obtain ⟨hP, hD⟩ := hB
    rw [ht] at hP
    subst hr0
    refine lv_i2l S.1 S.2.1 dL_link_12 rfl ?_
    refine k_last (q0 := Y.length) (t0 := 1) (j := 0) (w1 := cW (Y ++ [oE cy ao (vp_updL f 0 (cLinkR x y z w σ).toInt64)]) cy a P (cLink x y z w σ)) S hK hP hD hS oget rfl (by decide) (by decide) oset dL_link_13 (fun H locs hP hD hS => ?_)
    refine lv_goto (tgt := 25) S.1 S.2.1 dL_link_14 (by decide) ?_
    refine lv_iconst (v := nI 0) S.1 S.2.1 dL_link_25 (by decide) ?_
    rw [oF, if_pos hc]
    exact kret_i S hr hlk hP hD hS (by rw [hc]) dL_link_26
set_option maxHeartbeats 400000 in
set_option maxRecDepth 100000 in
theorem c_L_fail (l : Launch) (hst9 : l.stackTraces = false) (D : va_G) (cy : Nat → ClassId) (a : Nat → Nat) (Y : va_W) (P : Nat) (σ : CS) (ao : Nat) (f : Nat → Int64) (x y : Int32) (hI : cI P σ) : ∀ sz : Nat, Met l yL_fail (Cond.codeWith yL_fail cL_fail 5 (some .int) [(0, 17, 20, 13)] :: gw) (kRm 7 1 6) (va_Pc [.ref (a 0), .int x, .int y, .ref ao] (kPl D (tyA cy) (cW (Y ++ [oE cy ao f]) cy a P σ) sz)) (kQi D (cW (Y ++ [oE cy ao f]) cy a P σ) (cW (Y ++ [oE cy ao (oF (failC x y σ) f (b2l (cFailR x y σ)))]) cy a P (cFail P x y σ)) (nI (failC x y σ)) sz) 1 6 (va_A (cW (Y ++ [oE cy ao f]) cy a P σ) sz) := by
  intro sz
  have h0 : ¬ failC x y σ = 0 → cFail P x y σ = σ := fun h => if_neg h
  have h2 : ¬ failC x y σ = 2 := by unfold failC; split <;> decide
  refine lh_start (hh := [(0, 17, 20, 13)]) (by decide) rfl (Nat.le_of_ble_eq_true rfl) (fun p e s m args below meth c S hr hlk hK hNA hP hD hsz hA hPx hno htab ls hl => ?_)
  subst hsz
  have hS : va_S (va_A (cW (Y ++ [oE cy ao f]) cy a P σ) s.heap.size) s.heap s.heap [] := va_S.rf
  have hl : lv_has ls 5 [(0, .ref (a 0)), (1, .int x), (2, .int y), (3, .ref ao)] := hl
  refine lv_aload_n S.1 S.2.1 dL_fail_0 rfl (lv_at hl 3 rfl) ?_
  refine lv_iconst (v := nI 0) S.1 S.2.1 dL_fail_1 (by decide) ?_
  refine lv_aload_n S.1 S.2.1 dL_fail_2 rfl (lv_at hl 0 rfl) ?_
  refine lv_iload_n S.1 S.2.1 dL_fail_3 rfl (lv_at hl 1 rfl) ?_
  refine lv_iload_n S.1 S.2.1 dL_fail_4 rfl (lv_at hl 2 rfl) ?_
  refine vx_calli (vx_runV (As := [.int x, .int y]) (rest := [.int (nI 0), .ref ao]) S (c_X2_fail l hst9 D cy a (Y ++ [oE cy ao f]) P σ x y hI s.heap.size) (cwV 2 S.2.2.2.2 (gw_good_1 wm_348 (gw_good_1 wm_349 (gw_good_1 wm_350 (gw_good_1 wm_48 (gw_good_in wm_351))))) rfl rfl rfl (by decide +kernel) ⟨Nat.le_of_ble_eq_true rfl, Nat.le_of_ble_eq_true rfl⟩) ⟨kxblind, crecv_net hK hP, kxpre hPx⟩ rfl rfl hl.1 rfl (lv_room (Nat.le_of_ble_eq_true rfl)) dL_fail_5 ⟨Nat.le_of_ble_eq_true rfl, Nat.le_of_ble_eq_true rfl⟩) hS (fun q _ h => h) (fun q h => h) (fun q _ h => h) (fun E ce q9 u t H1 locs1 ht hvm hw hB hz1 hk1 hS hce hcv hcl => ?_) (fun r u t H1 locs1 ht hvm hw hB hz1 hk1 hS => ?_)
  · obtain ⟨hX, hP, hD⟩ := hB
    rw [ht] at hP
    rcases hX with ⟨hc, rfl⟩ | ⟨hc, rfl⟩
    · refine xc_catch1 S.2.2.2.1 ⟨0, 17, 20, 13⟩ [] htab (by decide) (by decide) (S.2.2.2.2 _ (List.mem_cons_of_mem _ wm_207)) (hcA hNA) hce hcv hcl ?_
      refine W.eq (g2 := F0 m 20 ls [.ref q9]) rfl ?_
      refine lv_astore (lv' := [(4, .ref q9), (0, .ref (a 0)), (1, .int x), (2, .int y), (3, .ref ao)]) S.1 S.2.1 dL_fail_20 hl (by decide) rfl (fun ls hl => ?_)
      refine lv_iconst (v := nI 1) S.1 S.2.1 dL_fail_22 (by decide) ?_
      rw [h0 (by omega), oF, if_neg (by omega)]
      exact kret_i S hr hlk hP hD hS (by rw [hc]) dL_fail_23
    · exact absurd hc h2
  · obtain ⟨hr0, hc⟩ := hw
    obtain ⟨hP, hD⟩ := hB
    rw [ht] at hP
    subst hr0
    refine kb_eq (tgt := 15) S dL_fail_8 (by decide) (fun c1 => ?_) (fun c1 => ?_)
    · refine lv_lconst (v := b2l (cFailR x y σ)) S.1 S.2.1 dL_fail_15 (by rw [c1]; rfl) ?_
      refine k_last (q0 := Y.length) (t0 := 1) (j := 0) (w1 := cW (Y ++ [oE cy ao (vp_updL f 0 (b2l (cFailR x y σ)))]) cy a P (cFail P x y σ)) S hK hP hD hS oget rfl (by decide) (by decide) oset dL_fail_16 (fun H locs hP hD hS => ?_)
      refine lv_goto (tgt := 24) S.1 S.2.1 dL_fail_17 (by decide) ?_
      refine lv_iconst (v := nI 0) S.1 S.2.1 dL_fail_24 (by decide) ?_
      rw [oF, if_pos hc]
      exact kret_i S hr hlk hP hD hS (by rw [hc]) dL_fail_25
    · refine lv_lconst (v := b2l (cFailR x y σ)) S.1 S.2.1 dL_fail_11 (by rw [c1]; rfl) ?_
      refine lv_goto (tgt := 16) S.1 S.2.1 dL_fail_12 (by decide) ?_
      refine k_last (q0 := Y.length) (t0 := 1) (j := 0) (w1 := cW (Y ++ [oE cy ao (vp_updL f 0 (b2l (cFailR x y σ)))]) cy a P (cFail P x y σ)) S hK hP hD hS oget rfl (by decide) (by decide) oset dL_fail_16 (fun H locs hP hD hS => ?_)
      refine lv_goto (tgt := 24) S.1 S.2.1 dL_fail_17 (by decide) ?_
      refine lv_iconst (v := nI 0) S.1 S.2.1 dL_fail_24 (by decide) ?_
      rw [oF, if_pos hc]
      exact kret_i S hr hlk hP hD hS (by rw [hc]) dL_fail_25
set_option maxHeartbeats 400000 in
set_option maxRecDepth 100000 in
theorem c_L_restore (l : Launch) (hst9 : l.stackTraces = false) (D : va_G) (cy : Nat → ClassId) (a : Nat → Nat) (Y : va_W) (P : Nat) (σ : CS) (ao : Nat) (f : Nat → Int64) (x y : Int32) : ∀ sz : Nat, Met l yL_restore (Cond.codeWith yL_restore cL_restore 5 (some .int) [(0, 17, 20, 13)] :: gw) (kRm 7 1 6) (va_Pc [.ref (a 0), .int x, .int y, .ref ao] (kPl D (tyA cy) (cW (Y ++ [oE cy ao f]) cy a P σ) sz)) (kQi D (cW (Y ++ [oE cy ao f]) cy a P σ) (cW (Y ++ [oE cy ao (oF (failC x y σ) f (b2l (cRestR x y σ)))]) cy a P (cRest x y σ)) (nI (failC x y σ)) sz) 1 6 (va_A (cW (Y ++ [oE cy ao f]) cy a P σ) sz) := by
  intro sz
  have h0 : ¬ failC x y σ = 0 → cRest x y σ = σ := fun h => if_neg h
  have h2 : ¬ failC x y σ = 2 := by unfold failC; split <;> decide
  refine lh_start (hh := [(0, 17, 20, 13)]) (by decide) rfl (Nat.le_of_ble_eq_true rfl) (fun p e s m args below meth c S hr hlk hK hNA hP hD hsz hA hPx hno htab ls hl => ?_)
  subst hsz
  have hS : va_S (va_A (cW (Y ++ [oE cy ao f]) cy a P σ) s.heap.size) s.heap s.heap [] := va_S.rf
  have hl : lv_has ls 5 [(0, .ref (a 0)), (1, .int x), (2, .int y), (3, .ref ao)] := hl
  refine lv_aload_n S.1 S.2.1 dL_restore_0 rfl (lv_at hl 3 rfl) ?_
  refine lv_iconst (v := nI 0) S.1 S.2.1 dL_restore_1 (by decide) ?_
  refine lv_aload_n S.1 S.2.1 dL_restore_2 rfl (lv_at hl 0 rfl) ?_
  refine lv_iload_n S.1 S.2.1 dL_restore_3 rfl (lv_at hl 1 rfl) ?_
  refine lv_iload_n S.1 S.2.1 dL_restore_4 rfl (lv_at hl 2 rfl) ?_
  refine vx_calli (vx_runV (As := [.int x, .int y]) (rest := [.int (nI 0), .ref ao]) S (c_X2_restore l hst9 D cy a (Y ++ [oE cy ao f]) P σ x y s.heap.size) (cwV 2 S.2.2.2.2 (gw_good_1 wm_373 (gw_good_1 wm_374 (gw_good_1 wm_375 (gw_good_1 wm_48 (gw_good_in wm_376))))) rfl rfl rfl (by decide +kernel) ⟨Nat.le_of_ble_eq_true rfl, Nat.le_of_ble_eq_true rfl⟩) ⟨kxblind, crecv_net hK hP, kxpre hPx⟩ rfl rfl hl.1 rfl (lv_room (Nat.le_of_ble_eq_true rfl)) dL_restore_5 ⟨Nat.le_of_ble_eq_true rfl, Nat.le_of_ble_eq_true rfl⟩) hS (fun q _ h => h) (fun q h => h) (fun q _ h => h) (fun E ce q9 u t H1 locs1 ht hvm hw hB hz1 hk1 hS hce hcv hcl => ?_) (fun r u t H1 locs1 ht hvm hw hB hz1 hk1 hS => ?_)
  · obtain ⟨hX, hP, hD⟩ := hB
    rw [ht] at hP
    rcases hX with ⟨hc, rfl⟩ | ⟨hc, rfl⟩
    · refine xc_catch1 S.2.2.2.1 ⟨0, 17, 20, 13⟩ [] htab (by decide) (by decide) (S.2.2.2.2 _ (List.mem_cons_of_mem _ wm_207)) (hcA hNA) hce hcv hcl ?_
      refine W.eq (g2 := F0 m 20 ls [.ref q9]) rfl ?_
      refine lv_astore (lv' := [(4, .ref q9), (0, .ref (a 0)), (1, .int x), (2, .int y), (3, .ref ao)]) S.1 S.2.1 dL_restore_20 hl (by decide) rfl (fun ls hl => ?_)
      refine lv_iconst (v := nI 1) S.1 S.2.1 dL_restore_22 (by decide) ?_
      rw [h0 (by omega), oF, if_neg (by omega)]
      exact kret_i S hr hlk hP hD hS (by rw [hc]) dL_restore_23
    · exact absurd hc h2
  · obtain ⟨hr0, hc⟩ := hw
    obtain ⟨hP, hD⟩ := hB
    rw [ht] at hP
    subst hr0
    refine kb_eq (tgt := 15) S dL_restore_8 (by decide) (fun c1 => ?_) (fun c1 => ?_)
    · refine lv_lconst (v := b2l (cRestR x y σ)) S.1 S.2.1 dL_restore_15 (by rw [c1]; rfl) ?_
      refine k_last (q0 := Y.length) (t0 := 1) (j := 0) (w1 := cW (Y ++ [oE cy ao (vp_updL f 0 (b2l (cRestR x y σ)))]) cy a P (cRest x y σ)) S hK hP hD hS oget rfl (by decide) (by decide) oset dL_restore_16 (fun H locs hP hD hS => ?_)
      refine lv_goto (tgt := 24) S.1 S.2.1 dL_restore_17 (by decide) ?_
      refine lv_iconst (v := nI 0) S.1 S.2.1 dL_restore_24 (by decide) ?_
      rw [oF, if_pos hc]
      exact kret_i S hr hlk hP hD hS (by rw [hc]) dL_restore_25
    · refine lv_lconst (v := b2l (cRestR x y σ)) S.1 S.2.1 dL_restore_11 (by rw [c1]; rfl) ?_
      refine lv_goto (tgt := 16) S.1 S.2.1 dL_restore_12 (by decide) ?_
      refine k_last (q0 := Y.length) (t0 := 1) (j := 0) (w1 := cW (Y ++ [oE cy ao (vp_updL f 0 (b2l (cRestR x y σ)))]) cy a P (cRest x y σ)) S hK hP hD hS oget rfl (by decide) (by decide) oset dL_restore_16 (fun H locs hP hD hS => ?_)
      refine lv_goto (tgt := 24) S.1 S.2.1 dL_restore_17 (by decide) ?_
      refine lv_iconst (v := nI 0) S.1 S.2.1 dL_restore_24 (by decide) ?_
      rw [oF, if_pos hc]
      exact kret_i S hr hlk hP hD hS (by rw [hc]) dL_restore_25
set_option maxHeartbeats 400000 in
set_option maxRecDepth 100000 in
theorem c_L_start (l : Launch) (hst9 : l.stackTraces = false) (D : va_G) (cy : Nat → ClassId) (a : Nat → Nat) (Y : va_W) (P : Nat) (σ : CS) (ao : Nat) (f : Nat → Int64) (x : Int32) : ∀ sz : Nat, Met l yL_start (Cond.codeWith yL_start cL_start 4 (some .int) [(0, 16, 19, 13)] :: gw) (kRm 7 1 6) (va_Pc [.ref (a 0), .int x, .ref ao] (kPl D (tyA cy) (cW (Y ++ [oE cy ao f]) cy a P σ) sz)) (kQi D (cW (Y ++ [oE cy ao f]) cy a P σ) (cW (Y ++ [oE cy ao (oF (nodeC x) f (b2l (cStartR x σ)))]) cy a P (cStart x σ)) (nI (nodeC x)) sz) 1 6 (va_A (cW (Y ++ [oE cy ao f]) cy a P σ) sz) := by
  intro sz
  have h0 : ¬ nodeC x = 0 → cStart x σ = σ := fun h => if_neg h
  have h2 : ¬ nodeC x = 2 := by unfold nodeC; split <;> decide
  refine lh_start (hh := [(0, 16, 19, 13)]) (by decide) rfl (Nat.le_of_ble_eq_true rfl) (fun p e s m args below meth c S hr hlk hK hNA hP hD hsz hA hPx hno htab ls hl => ?_)
  subst hsz
  have hS : va_S (va_A (cW (Y ++ [oE cy ao f]) cy a P σ) s.heap.size) s.heap s.heap [] := va_S.rf
  have hl : lv_has ls 4 [(0, .ref (a 0)), (1, .int x), (2, .ref ao)] := hl
  refine lv_aload_n S.1 S.2.1 dL_start_0 rfl (lv_at hl 2 rfl) ?_
  refine lv_iconst (v := nI 0) S.1 S.2.1 dL_start_1 (by decide) ?_
  refine lv_aload_n S.1 S.2.1 dL_start_2 rfl (lv_at hl 0 rfl) ?_
  refine lv_iload_n S.1 S.2.1 dL_start_3 rfl (lv_at hl 1 rfl) ?_
  refine vx_calli (vx_runV (As := [.int x]) (rest := [.int (nI 0), .ref ao]) S (c_X2_start l hst9 D cy a (Y ++ [oE cy ao f]) P σ x s.heap.size) (cwV 1 S.2.2.2.2 (gw_good_1 wm_380 (gw_good_1 wm_381 (gw_good_1 wm_382 (gw_good_1 wm_48 (gw_good_in wm_383))))) rfl rfl rfl (by decide +kernel) ⟨Nat.le_of_ble_eq_true rfl, Nat.le_of_ble_eq_true rfl⟩) ⟨kxblind, crecv_net hK hP, kxpre hPx⟩ rfl rfl hl.1 rfl (lv_room (Nat.le_of_ble_eq_true rfl)) dL_start_4 ⟨Nat.le_of_ble_eq_true rfl, Nat.le_of_ble_eq_true rfl⟩) hS (fun q _ h => h) (fun q h => h) (fun q _ h => h) (fun E ce q9 u t H1 locs1 ht hvm hw hB hz1 hk1 hS hce hcv hcl => ?_) (fun r u t H1 locs1 ht hvm hw hB hz1 hk1 hS => ?_)
  · obtain ⟨hX, hP, hD⟩ := hB
    rw [ht] at hP
    rcases hX with ⟨hc, rfl⟩ | ⟨hc, rfl⟩
    · refine xc_catch1 S.2.2.2.1 ⟨0, 16, 19, 13⟩ [] htab (by decide) (by decide) (S.2.2.2.2 _ (List.mem_cons_of_mem _ wm_207)) (hcA hNA) hce hcv hcl ?_
      refine W.eq (g2 := F0 m 19 ls [.ref q9]) rfl ?_
      refine lv_astore_n (lv' := [(3, .ref q9), (0, .ref (a 0)), (1, .int x), (2, .ref ao)]) S.1 S.2.1 dL_start_19 rfl hl (by decide) rfl (fun ls hl => ?_)
      refine lv_iconst (v := nI 1) S.1 S.2.1 dL_start_20 (by decide) ?_
      rw [h0 (by omega), oF, if_neg (by omega)]
      exact kret_i S hr hlk hP hD hS (by rw [hc]) dL_start_21
    · exact absurd hc h2
  · obtain ⟨hr0, hc⟩ := hw
    obtain ⟨hP, hD⟩ := hB
    rw [ht] at hP
    subst hr0
    refine kb_eq (tgt := 14) S dL_start_7 (by decide) (fun c1 => ?_) (fun c1 => ?_)
    · refine lv_lconst (v := b2l (cStartR x σ)) S.1 S.2.1 dL_start_14 (by rw [c1]; rfl) ?_
      refine k_last (q0 := Y.length) (t0 := 1) (j := 0) (w1 := cW (Y ++ [oE cy ao (vp_updL f 0 (b2l (cStartR x σ)))]) cy a P (cStart x σ)) S hK hP hD hS oget rfl (by decide) (by decide) oset dL_start_15 (fun H locs hP hD hS => ?_)
      refine lv_goto (tgt := 22) S.1 S.2.1 dL_start_16 (by decide) ?_
      refine lv_iconst (v := nI 0) S.1 S.2.1 dL_start_22 (by decide) ?_
      rw [oF, if_pos hc]
      exact kret_i S hr hlk hP hD hS (by rw [hc]) dL_start_23
    · refine lv_lconst (v := b2l (cStartR x σ)) S.1 S.2.1 dL_start_10 (by rw [c1]; rfl) ?_
      refine lv_goto (tgt := 15) S.1 S.2.1 dL_start_11 (by decide) ?_
      refine k_last (q0 := Y.length) (t0 := 1) (j := 0) (w1 := cW (Y ++ [oE cy ao (vp_updL f 0 (b2l (cStartR x σ)))]) cy a P (cStart x σ)) S hK hP hD hS oget rfl (by decide) (by decide) oset dL_start_15 (fun H locs hP hD hS => ?_)
      refine lv_goto (tgt := 22) S.1 S.2.1 dL_start_16 (by decide) ?_
      refine lv_iconst (v := nI 0) S.1 S.2.1 dL_start_22 (by decide) ?_
      rw [oF, if_pos hc]
      exact kret_i S hr hlk hP hD hS (by rw [hc]) dL_start_23
set_option maxHeartbeats 400000 in
set_option maxRecDepth 100000 in
theorem c_L_crash (l : Launch) (hst9 : l.stackTraces = false) (D : va_G) (cy : Nat → ClassId) (a : Nat → Nat) (Y : va_W) (P : Nat) (σ : CS) (ao : Nat) (f : Nat → Int64) (x : Int32) (hI : cI P σ) : ∀ sz : Nat, Met l yL_crash (Cond.codeWith yL_crash cL_crash 4 (some .int) [(0, 16, 19, 13)] :: gw) (kRm 7 1 6) (va_Pc [.ref (a 0), .int x, .ref ao] (kPl D (tyA cy) (cW (Y ++ [oE cy ao f]) cy a P σ) sz)) (kQi D (cW (Y ++ [oE cy ao f]) cy a P σ) (cW (Y ++ [oE cy ao (oF (nodeC x) f (b2l (cCrashR x σ)))]) cy a P (cCrash P x σ)) (nI (nodeC x)) sz) 1 6 (va_A (cW (Y ++ [oE cy ao f]) cy a P σ) sz) := by
  intro sz
  have h0 : ¬ nodeC x = 0 → cCrash P x σ = σ := fun h => if_neg h
  have h2 : ¬ nodeC x = 2 := by unfold nodeC; split <;> decide
  refine lh_start (hh := [(0, 16, 19, 13)]) (by decide) rfl (Nat.le_of_ble_eq_true rfl) (fun p e s m args below meth c S hr hlk hK hNA hP hD hsz hA hPx hno htab ls hl => ?_)
  subst hsz
  have hS : va_S (va_A (cW (Y ++ [oE cy ao f]) cy a P σ) s.heap.size) s.heap s.heap [] := va_S.rf
  have hl : lv_has ls 4 [(0, .ref (a 0)), (1, .int x), (2, .ref ao)] := hl
  refine lv_aload_n S.1 S.2.1 dL_crash_0 rfl (lv_at hl 2 rfl) ?_
  refine lv_iconst (v := nI 0) S.1 S.2.1 dL_crash_1 (by decide) ?_
  refine lv_aload_n S.1 S.2.1 dL_crash_2 rfl (lv_at hl 0 rfl) ?_
  refine lv_iload_n S.1 S.2.1 dL_crash_3 rfl (lv_at hl 1 rfl) ?_
  refine vx_calli (vx_runV (As := [.int x]) (rest := [.int (nI 0), .ref ao]) S (c_X2_crash l hst9 D cy a (Y ++ [oE cy ao f]) P σ x hI s.heap.size) (cwV 1 S.2.2.2.2 (gw_good_1 wm_392 (gw_good_1 wm_393 (gw_good_1 wm_394 (gw_good_1 wm_48 (gw_good_in wm_395))))) rfl rfl rfl (by decide +kernel) ⟨Nat.le_of_ble_eq_true rfl, Nat.le_of_ble_eq_true rfl⟩) ⟨kxblind, crecv_net hK hP, kxpre hPx⟩ rfl rfl hl.1 rfl (lv_room (Nat.le_of_ble_eq_true rfl)) dL_crash_4 ⟨Nat.le_of_ble_eq_true rfl, Nat.le_of_ble_eq_true rfl⟩) hS (fun q _ h => h) (fun q h => h) (fun q _ h => h) (fun E ce q9 u t H1 locs1 ht hvm hw hB hz1 hk1 hS hce hcv hcl => ?_) (fun r u t H1 locs1 ht hvm hw hB hz1 hk1 hS => ?_)
  · obtain ⟨hX, hP, hD⟩ := hB
    rw [ht] at hP
    rcases hX with ⟨hc, rfl⟩ | ⟨hc, rfl⟩
    · refine xc_catch1 S.2.2.2.1 ⟨0, 16, 19, 13⟩ [] htab (by decide) (by decide) (S.2.2.2.2 _ (List.mem_cons_of_mem _ wm_207)) (hcA hNA) hce hcv hcl ?_
      refine W.eq (g2 := F0 m 19 ls [.ref q9]) rfl ?_
      refine lv_astore_n (lv' := [(3, .ref q9), (0, .ref (a 0)), (1, .int x), (2, .ref ao)]) S.1 S.2.1 dL_crash_19 rfl hl (by decide) rfl (fun ls hl => ?_)
      refine lv_iconst (v := nI 1) S.1 S.2.1 dL_crash_20 (by decide) ?_
      rw [h0 (by omega), oF, if_neg (by omega)]
      exact kret_i S hr hlk hP hD hS (by rw [hc]) dL_crash_21
    · exact absurd hc h2
  · obtain ⟨hr0, hc⟩ := hw
    obtain ⟨hP, hD⟩ := hB
    rw [ht] at hP
    subst hr0
    refine kb_eq (tgt := 14) S dL_crash_7 (by decide) (fun c1 => ?_) (fun c1 => ?_)
    · refine lv_lconst (v := b2l (cCrashR x σ)) S.1 S.2.1 dL_crash_14 (by rw [c1]; rfl) ?_
      refine k_last (q0 := Y.length) (t0 := 1) (j := 0) (w1 := cW (Y ++ [oE cy ao (vp_updL f 0 (b2l (cCrashR x σ)))]) cy a P (cCrash P x σ)) S hK hP hD hS oget rfl (by decide) (by decide) oset dL_crash_15 (fun H locs hP hD hS => ?_)
      refine lv_goto (tgt := 22) S.1 S.2.1 dL_crash_16 (by decide) ?_
      refine lv_iconst (v := nI 0) S.1 S.2.1 dL_crash_22 (by decide) ?_
      rw [oF, if_pos hc]
      exact kret_i S hr hlk hP hD hS (by rw [hc]) dL_crash_23
    · refine lv_lconst (v := b2l (cCrashR x σ)) S.1 S.2.1 dL_crash_10 (by rw [c1]; rfl) ?_
      refine lv_goto (tgt := 15) S.1 S.2.1 dL_crash_11 (by decide) ?_
      refine k_last (q0 := Y.length) (t0 := 1) (j := 0) (w1 := cW (Y ++ [oE cy ao (vp_updL f 0 (b2l (cCrashR x σ)))]) cy a P (cCrash P x σ)) S hK hP hD hS oget rfl (by decide) (by decide) oset dL_crash_15 (fun H locs hP hD hS => ?_)
      refine lv_goto (tgt := 22) S.1 S.2.1 dL_crash_16 (by decide) ?_
      refine lv_iconst (v := nI 0) S.1 S.2.1 dL_crash_22 (by decide) ?_
      rw [oF, if_pos hc]
      exact kret_i S hr hlk hP hD hS (by rw [hc]) dL_crash_23
set_option maxHeartbeats 400000 in
set_option maxRecDepth 100000 in
theorem c_L_tick (l : Launch) (hst9 : l.stackTraces = false) (D : va_G) (cy : Nat → ClassId) (a : Nat → Nat) (Y : va_W) (P : Nat) (σ : CS) (ao : Nat) (f : Nat → Int64) (x : Int32) (hI : cI P σ) : ∀ sz : Nat, Met l yL_tick (Cond.codeWith yL_tick cL_tick 4 (some .int) [(0, 9, 12, 13)] :: gw) (kRm 7 1 6) (va_Pc [.ref (a 0), .int x, .ref ao] (kPl D (tyA cy) (cW (Y ++ [oE cy ao f]) cy a P σ) sz)) (kQi D (cW (Y ++ [oE cy ao f]) cy a P σ) (cW (Y ++ [oE cy ao (oF (tickC x) f (cTickR P x σ).toInt64)]) cy a P (cTick P x σ)) (nI (tickC x)) sz) 1 6 (va_A (cW (Y ++ [oE cy ao f]) cy a P σ) sz) := by
  intro sz
  have h0 : ¬ tickC x = 0 → cTick P x σ = σ := fun h => if_neg h
  have h2 : ¬ tickC x = 2 := by unfold tickC; (split <;> first | decide | (split <;> decide))
  refine lh_start (hh := [(0, 9, 12, 13)]) (by decide) rfl (Nat.le_of_ble_eq_true rfl) (fun p e s m args below meth c S hr hlk hK hNA hP hD hsz hA hPx hno htab ls hl => ?_)
  subst hsz
  have hS : va_S (va_A (cW (Y ++ [oE cy ao f]) cy a P σ) s.heap.size) s.heap s.heap [] := va_S.rf
  have hl : lv_has ls 4 [(0, .ref (a 0)), (1, .int x), (2, .ref ao)] := hl
  refine lv_aload_n S.1 S.2.1 dL_tick_0 rfl (lv_at hl 2 rfl) ?_
  refine lv_iconst (v := nI 0) S.1 S.2.1 dL_tick_1 (by decide) ?_
  refine lv_aload_n S.1 S.2.1 dL_tick_2 rfl (lv_at hl 0 rfl) ?_
  refine lv_iload_n S.1 S.2.1 dL_tick_3 rfl (lv_at hl 1 rfl) ?_
  refine vx_calli (vx_runV (As := [.int x]) (rest := [.int (nI 0), .ref ao]) S (c_X2_tick l hst9 D cy a (Y ++ [oE cy ao f]) P σ x hI s.heap.size) (cwV 1 S.2.2.2.2 (gw_good_1 wm_399 (gw_good_1 wm_400 (gw_good_1 wm_401 (gw_good_1 wm_48 (gw_good_in wm_402))))) rfl rfl rfl (by decide +kernel) ⟨Nat.le_of_ble_eq_true rfl, Nat.le_of_ble_eq_true rfl⟩) ⟨kxblind, crecv_net hK hP, kxpre hPx⟩ rfl rfl hl.1 rfl (lv_room (Nat.le_of_ble_eq_true rfl)) dL_tick_4 ⟨Nat.le_of_ble_eq_true rfl, Nat.le_of_ble_eq_true rfl⟩) hS (fun q _ h => h) (fun q h => h) (fun q _ h => h) (fun E ce q9 u t H1 locs1 ht hvm hw hB hz1 hk1 hS hce hcv hcl => ?_) (fun r u t H1 locs1 ht hvm hw hB hz1 hk1 hS => ?_)
  · obtain ⟨hX, hP, hD⟩ := hB
    rw [ht] at hP
    rcases hX with ⟨hc, rfl⟩ | ⟨hc, rfl⟩
    · refine xc_catch1 S.2.2.2.1 ⟨0, 9, 12, 13⟩ [] htab (by decide) (by decide) (S.2.2.2.2 _ (List.mem_cons_of_mem _ wm_207)) (hcA hNA) hce hcv hcl ?_
      refine W.eq (g2 := F0 m 12 ls [.ref q9]) rfl ?_
      refine lv_astore_n (lv' := [(3, .ref q9), (0, .ref (a 0)), (1, .int x), (2, .ref ao)]) S.1 S.2.1 dL_tick_12 rfl hl (by decide) rfl (fun ls hl => ?_)
      refine lv_iconst (v := nI 1) S.1 S.2.1 dL_tick_13 (by decide) ?_
      rw [h0 (by omega), oF, if_neg (by omega)]
      exact kret_i S hr hlk hP hD hS (by rw [hc]) dL_tick_14
    · exact absurd hc h2
  · obtain ⟨hr0, hc⟩ := hw
    obtain ⟨hP, hD⟩ := hB
    rw [ht] at hP
    subst hr0
    refine lv_i2l S.1 S.2.1 dL_tick_7 rfl ?_
    refine k_last (q0 := Y.length) (t0 := 1) (j := 0) (w1 := cW (Y ++ [oE cy ao (vp_updL f 0 (cTickR P x σ).toInt64)]) cy a P (cTick P x σ)) S hK hP hD hS oget rfl (by decide) (by decide) oset dL_tick_8 (fun H locs hP hD hS => ?_)
    refine lv_goto (tgt := 15) S.1 S.2.1 dL_tick_9 (by decide) ?_
    refine lv_iconst (v := nI 0) S.1 S.2.1 dL_tick_15 (by decide) ?_
    rw [oF, if_pos hc]
    exact kret_i S hr hlk hP hD hS (by rw [hc]) dL_tick_16
set_option maxHeartbeats 400000 in
set_option maxRecDepth 100000 in
theorem c_L_send (l : Launch) (hst9 : l.stackTraces = false) (D : va_G) (cy : Nat → ClassId) (a : Nat → Nat) (Y : va_W) (P : Nat) (σ : CS) (ao : Nat) (f : Nat → Int64) (x y z : Int32) (hI : cI P σ) : ∀ sz : Nat, Met l yL_send (Cond.codeWith yL_send cL_send 6 (some .int) [(0, 12, 15, 13), (0, 12, 19, 15)] :: gw) (kRm 7 2 39) (va_Pc [.ref (a 0), .int x, .int y, .int z, .ref ao] (kPl D (tyA cy) (cW (Y ++ [oE cy ao f]) cy a P σ) sz)) (va_Qi (fun (v : Int32) (b : Nat → Nat) => v = nI (sendC x y z σ) ∧ b 0 = a 0) (fun b t => kB D (cW (Y ++ [oE cy ao f]) cy a P σ) (cW (Y ++ [oE cy ao (oF (sendC x y z σ) f (nI P).toInt64)]) cy b (if sendC x y z σ = 0 then P + 1 else P) (if sendC x y z σ = 0 then cSend P x y z σ else σ)) sz t) (va_A (cW (Y ++ [oE cy ao f]) cy a P σ) sz)) 2 39 (va_A (cW (Y ++ [oE cy ao f]) cy a P σ) sz) := by
  intro sz
  refine lh_start (hh := [(0, 12, 15, 13), (0, 12, 19, 15)]) (by decide) rfl (Nat.le_of_ble_eq_true rfl) (fun p e s m args below meth c S hr hlk hK hNA hP hD hsz hA hPx hno htab ls hl => ?_)
  subst hsz
  have hS : va_S (va_A (cW (Y ++ [oE cy ao f]) cy a P σ) s.heap.size) s.heap s.heap [] := va_S.rf
  have hl : lv_has ls 6 [(0, .ref (a 0)), (1, .int x), (2, .int y), (3, .int z), (4, .ref ao)] := hl
  refine lv_aload S.1 S.2.1 dL_send_0 (lv_at hl 4 rfl) ?_
  refine lv_iconst (v := nI 0) S.1 S.2.1 dL_send_2 (by decide) ?_
  refine lv_aload_n S.1 S.2.1 dL_send_3 rfl (lv_at hl 0 rfl) ?_
  refine lv_iload_n S.1 S.2.1 dL_send_4 rfl (lv_at hl 1 rfl) ?_
  refine lv_iload_n S.1 S.2.1 dL_send_5 rfl (lv_at hl 2 rfl) ?_
  refine lv_iload_n S.1 S.2.1 dL_send_6 rfl (lv_at hl 3 rfl) ?_
  refine vx_calli (vx_runV (As := [.int x, .int y, .int z]) (rest := [.int (nI 0), .ref ao]) S (c_X2_send l hst9 D cy a (Y ++ [oE cy ao f]) P σ x y z hI s.heap.size) (cwV 3 S.2.2.2.2 (gw_good_1 wm_436 (gw_good_1 wm_437 (gw_good_1 wm_438 (gw_good_1 wm_48 (gw_good_in wm_439))))) rfl rfl rfl (by decide +kernel) ⟨Nat.le_of_ble_eq_true rfl, Nat.le_of_ble_eq_true rfl⟩) ⟨kxblind, crecv_net hK hP, kxpre hPx⟩ rfl rfl hl.1 rfl (lv_room (Nat.le_of_ble_eq_true rfl)) dL_send_7 ⟨Nat.le_of_ble_eq_true rfl, Nat.le_of_ble_eq_true rfl⟩) hS (fun q _ h => h) (fun q h => h) (fun q _ h => h) (fun E ce q9 u t H1 locs1 ht hvm hw hB hz1 hk1 hS hce hcv hcl => ?_) (fun r u t H1 locs1 ht hvm hw hB hz1 hk1 hS => ?_)
  · obtain ⟨hX, hP, hD⟩ := hB
    rw [ht] at hP
    rcases hX with ⟨hc, rfl⟩ | ⟨hc, rfl⟩
    · refine xc_catch1 S.2.2.2.1 ⟨0, 12, 15, 13⟩ [⟨0, 12, 19, 15⟩] htab (by decide) (by decide) (S.2.2.2.2 _ (List.mem_cons_of_mem _ wm_207)) (hcA hNA) hce hcv hcl ?_
      refine W.eq (g2 := F0 m 15 ls [.ref q9]) rfl ?_
      refine lv_astore (lv' := [(5, .ref q9), (0, .ref (a 0)), (1, .int x), (2, .int y), (3, .int z), (4, .ref ao)]) S.1 S.2.1 dL_send_15 hl (by decide) rfl (fun ls hl => ?_)
      refine lv_iconst (v := nI 1) S.1 S.2.1 dL_send_17 (by decide) ?_
      exact W.iret S.1 S.2.1 hr (fun t ht hW => ⟨⟨nI 1, a, rfl, ⟨by rw [hc], rfl⟩, by rw [oF, if_neg (by omega), if_neg (by omega), if_neg (by omega), ht]; exact hP, by rw [oF, if_neg (by omega), if_neg (by omega), if_neg (by omega)]; exact hD⟩, hS.F ht⟩) hS.2.2 dL_send_18 hlk
    · refine xc_catch2 S.2.2.2.1 ⟨0, 12, 15, 13⟩ ⟨0, 12, 19, 15⟩ [] htab (by decide) (by decide) (S.2.2.2.2 _ (List.mem_cons_of_mem _ wm_207)) hno (by decide) (by decide) (S.2.2.2.2 _ (List.mem_cons_of_mem _ wm_208)) (hcS hNA) hce hcv hcl ?_
      refine W.eq (g2 := F0 m 19 ls [.ref q9]) rfl ?_
      refine lv_astore (lv' := [(5, .ref q9), (0, .ref (a 0)), (1, .int x), (2, .int y), (3, .int z), (4, .ref ao)]) S.1 S.2.1 dL_send_19 hl (by decide) rfl (fun ls hl => ?_)
      refine lv_iconst (v := nI 2) S.1 S.2.1 dL_send_21 (by decide) ?_
      exact W.iret S.1 S.2.1 hr (fun t ht hW => ⟨⟨nI 2, a, rfl, ⟨by rw [hc], rfl⟩, by rw [oF, if_neg (by omega), if_neg (by omega), if_neg (by omega), ht]; exact hP, by rw [oF, if_neg (by omega), if_neg (by omega), if_neg (by omega)]; exact hD⟩, hS.F ht⟩) hS.2.2 dL_send_22 hlk
  · obtain ⟨⟨hr0, hc⟩, hb⟩ := hw
    obtain ⟨hP, hD⟩ := hB
    rw [ht] at hP
    subst hr0
    refine lv_i2l S.1 S.2.1 dL_send_10 rfl ?_
    refine k_last (q0 := Y.length) (t0 := 1) (j := 0) (w1 := cW (Y ++ [oE cy ao (vp_updL f 0 (nI P).toInt64)]) cy u (P + 1) (cSend P x y z σ)) S hK hP hD hS oget rfl (by decide) (by decide) oset dL_send_11 (fun H locs hP hD hS => ?_)
    refine lv_goto (tgt := 23) S.1 S.2.1 dL_send_12 (by decide) ?_
    refine lv_iconst (v := nI 0) S.1 S.2.1 dL_send_23 (by decide) ?_
    exact W.iret S.1 S.2.1 hr (fun t ht hW => ⟨⟨nI 0, u, rfl, ⟨by rw [hc], hb 0 (by omega)⟩, by rw [oF, if_pos hc, if_pos hc, if_pos hc, ht]; exact hP, by rw [oF, if_pos hc, if_pos hc, if_pos hc]; exact hD⟩, hS.F ht⟩) hS.2.2 dL_send_24 hlk
