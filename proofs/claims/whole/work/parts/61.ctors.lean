set_option maxHeartbeats 800000 in
set_option maxRecDepth 100000 in
theorem c_X1_init0 (l : Launch) (D : va_G) (cy : Nat → ClassId) (X : va_W) (h n : Nat) (hn : n ≤ 600) (W0 : va_W) (hW0 : W0 = X ++ [(h, .inr (1, [.null, .null, .null, .int 0]))]) : ∀ sz : Nat, Met l yX1_init (kWs yX1_init cX1_init 2 none) (kRm 1 3 (3 * n)) (va_Pc [.ref h, .int (nI n)] (kP D (tyA cy) nestC W0 sz)) (va_Qv (fun _ : Nat × Nat × Nat => True) (fun u t => va_P D vwCl (X ++ [(h, .inr (1, [.ref u.1, .ref u.2.1, .ref u.2.2, .int 0])), (u.1, .inl (cy 0, n, .inl (fun _ => 0))), (u.2.1, .inl (cy 0, n, .inl (fun _ => 0))), (u.2.2, .inl (cy 1, n, .inr (.inl (fun _ => 0))))]) t.heap ∧ va_D (va_A W0 sz) (X ++ [(h, .inr (1, [.ref u.1, .ref u.2.1, .ref u.2.2, .int 0])), (u.1, .inl (cy 0, n, .inl (fun _ => 0))), (u.2.1, .inl (cy 0, n, .inl (fun _ => 0))), (u.2.2, .inl (cy 1, n, .inr (.inl (fun _ => 0))))])) (va_A W0 sz)) 3 (3 * n) (va_A W0 sz) := by
  intro sz
  refine kmet (own := RX1) (by decide) rfl (Nat.le_of_ble_eq_true rfl) (fun p e s m args below meth c S hr hlk hK hN hP hD hsz hA hnm ls hl => ?_)
  have hS : va_S (va_A W0 sz) s.heap s.heap [] := va_S.rf
  have hl : lv_has ls 2 [(0, .ref h), (1, .int (nI n))] := hl
  have hP : va_P D vwCl (X ++ [(h, .inr (1, [.null, .null, .null, .int 0]))]) s.heap := by rw [← hW0]; exact hP
  have hD : va_D (va_A W0 sz) (X ++ [(h, .inr (1, [.null, .null, .null, .int 0]))]) := by rw [← hW0]; exact hD
  refine lv_aload_n S.1 S.2.1 dX1_init_0 rfl (lv_at hl 0 rfl) ?_
  refine W.objInit S.1 S.2.1 S.2.2.2.1 (S.2.2.2.2 _ (List.mem_cons_of_mem _ wm_71)) (S.2.2.2.2 _ (List.mem_cons_of_mem _ wm_64)) (S.2.2.2.2 _ (List.mem_cons_of_mem _ wm_65)) rfl (by rw [S.2.2.1]; exact hl.1) rfl dX1_init_1 (Nat.le_of_ble_eq_true rfl) (Nat.le_of_ble_eq_true rfl) ?_
  refine W.eq (g2 := F0 m 4 ls []) rfl ?_
  refine lv_aload_n S.1 S.2.1 dX1_init_4 rfl (lv_at hl 0 rfl) ?_
  refine lv_iload_n S.1 S.2.1 dX1_init_5 rfl (lv_at hl 1 rfl) ?_
  refine k_newI (n := n) S (S.2.2.2.2 _ (List.mem_cons_of_mem _ wm_90)) hK hP hD hS hA (by omega) (by first | omega | (simp only [kRm]; omega)) (by first | omega | (simp only [kRm]; omega)) dX1_init_6 (fun q1 H hP hD hS => ?_)
  rw [List.append_assoc] at hP hD
  have hP : va_P D vwCl (X ++ [(h, .inr (1, [.null, .null, .null, .int 0])), (q1, .inl (cy 0, n, .inl (fun _ => 0)))]) H := hP
  have hD : va_D (va_A W0 sz) (X ++ [(h, .inr (1, [.null, .null, .null, .int 0])), (q1, .inl (cy 0, n, .inl (fun _ => 0)))]) := hD
  refine va_putF (D := D) (ci := 1) (v := .ref q1) (ty := .array .int) (C := RX1) (T := TX1) (N := 4) S.1 S.2.1 S.2.2.2.2 (fun w h => List.mem_cons_of_mem _ (inX1 w h)) tyX1 tyX1_ok nmX1 S.2.2.2.1 hK hP hD hS (X.length + 0) (ap_get.trans rfl) rfl 0 (by decide) (S.2.2.2.2 _ (List.mem_cons_of_mem _ wm_72)) (fun _ h9 => h9) rfl hnm rfl (by decide +kernel) rfl rfl (Nat.le_of_ble_eq_true rfl) dX1_init_8 (fun H locs hP hD hS => ?_)
  rw [ap_set] at hP hD
  have hP : va_P D vwCl (X ++ [(h, .inr (1, [.ref q1, .null, .null, .int 0])), (q1, .inl (cy 0, n, .inl (fun _ => 0)))]) H := hP
  have hD : va_D (va_A W0 sz) (X ++ [(h, .inr (1, [.ref q1, .null, .null, .int 0])), (q1, .inl (cy 0, n, .inl (fun _ => 0)))]) := hD
  refine lv_aload_n S.1 S.2.1 dX1_init_11 rfl (lv_at hl 0 rfl) ?_
  refine lv_iload_n S.1 S.2.1 dX1_init_12 rfl (lv_at hl 1 rfl) ?_
  refine k_newI (n := n) S (S.2.2.2.2 _ (List.mem_cons_of_mem _ wm_90)) hK hP hD hS hA (by omega) (by first | omega | (simp only [kRm]; omega)) (by first | omega | (simp only [kRm]; omega)) dX1_init_13 (fun q2 H hP hD hS => ?_)
  rw [List.append_assoc] at hP hD
  have hP : va_P D vwCl (X ++ [(h, .inr (1, [.ref q1, .null, .null, .int 0])), (q1, .inl (cy 0, n, .inl (fun _ => 0))), (q2, .inl (cy 0, n, .inl (fun _ => 0)))]) H := hP
  have hD : va_D (va_A W0 sz) (X ++ [(h, .inr (1, [.ref q1, .null, .null, .int 0])), (q1, .inl (cy 0, n, .inl (fun _ => 0))), (q2, .inl (cy 0, n, .inl (fun _ => 0)))]) := hD
  refine va_putF (D := D) (ci := 1) (v := .ref q2) (ty := .array .int) (C := RX1) (T := TX1) (N := 4) S.1 S.2.1 S.2.2.2.2 (fun w h => List.mem_cons_of_mem _ (inX1 w h)) tyX1 tyX1_ok nmX1 S.2.2.2.1 hK hP hD hS (X.length + 0) (ap_get.trans rfl) rfl 1 (by decide) (S.2.2.2.2 _ (List.mem_cons_of_mem _ wm_74)) (fun _ h9 => h9) rfl hnm rfl (by decide +kernel) rfl rfl (Nat.le_of_ble_eq_true rfl) dX1_init_15 (fun H locs hP hD hS => ?_)
  rw [ap_set] at hP hD
  have hP : va_P D vwCl (X ++ [(h, .inr (1, [.ref q1, .ref q2, .null, .int 0])), (q1, .inl (cy 0, n, .inl (fun _ => 0))), (q2, .inl (cy 0, n, .inl (fun _ => 0)))]) H := hP
  have hD : va_D (va_A W0 sz) (X ++ [(h, .inr (1, [.ref q1, .ref q2, .null, .int 0])), (q1, .inl (cy 0, n, .inl (fun _ => 0))), (q2, .inl (cy 0, n, .inl (fun _ => 0)))]) := hD
  refine lv_aload_n S.1 S.2.1 dX1_init_18 rfl (lv_at hl 0 rfl) ?_
  refine lv_iload_n S.1 S.2.1 dX1_init_19 rfl (lv_at hl 1 rfl) ?_
  refine k_newJ (n := n) S (S.2.2.2.2 _ (List.mem_cons_of_mem _ wm_91)) hK hP hD hS hA (by omega) (by first | omega | (simp only [kRm]; omega)) (by first | omega | (simp only [kRm]; omega)) dX1_init_20 (fun q3 H hP hD hS => ?_)
  rw [List.append_assoc] at hP hD
  have hP : va_P D vwCl (X ++ [(h, .inr (1, [.ref q1, .ref q2, .null, .int 0])), (q1, .inl (cy 0, n, .inl (fun _ => 0))), (q2, .inl (cy 0, n, .inl (fun _ => 0))), (q3, .inl (cy 1, n, .inr (.inl (fun _ => 0))))]) H := hP
  have hD : va_D (va_A W0 sz) (X ++ [(h, .inr (1, [.ref q1, .ref q2, .null, .int 0])), (q1, .inl (cy 0, n, .inl (fun _ => 0))), (q2, .inl (cy 0, n, .inl (fun _ => 0))), (q3, .inl (cy 1, n, .inr (.inl (fun _ => 0))))]) := hD
  refine va_putF (D := D) (ci := 1) (v := .ref q3) (ty := .array .long) (C := RX1) (T := TX1) (N := 4) S.1 S.2.1 S.2.2.2.2 (fun w h => List.mem_cons_of_mem _ (inX1 w h)) tyX1 tyX1_ok nmX1 S.2.2.2.1 hK hP hD hS (X.length + 0) (ap_get.trans rfl) rfl 2 (by decide) (S.2.2.2.2 _ (List.mem_cons_of_mem _ wm_76)) (fun _ h9 => h9) rfl hnm rfl (by decide +kernel) rfl rfl (Nat.le_of_ble_eq_true rfl) dX1_init_22 (fun H locs hP hD hS => ?_)
  rw [ap_set] at hP hD
  have hP : va_P D vwCl (X ++ [(h, .inr (1, [.ref q1, .ref q2, .ref q3, .int 0])), (q1, .inl (cy 0, n, .inl (fun _ => 0))), (q2, .inl (cy 0, n, .inl (fun _ => 0))), (q3, .inl (cy 1, n, .inr (.inl (fun _ => 0))))]) H := hP
  have hD : va_D (va_A W0 sz) (X ++ [(h, .inr (1, [.ref q1, .ref q2, .ref q3, .int 0])), (q1, .inl (cy 0, n, .inl (fun _ => 0))), (q2, .inl (cy 0, n, .inl (fun _ => 0))), (q3, .inl (cy 1, n, .inr (.inl (fun _ => 0))))]) := hD
  refine W.widen (k := 3) (n := 3 * n) (by omega) (by omega) ?_
  exact W.vret S.1 S.2.1 hr (fun t ht hW => ⟨⟨(q1, q2, q3), rfl, trivial, by rw [ht]; exact hP, hD⟩, hS.F ht⟩) hS.2.2 dX1_init_25 hlk
theorem c_X1_init (l : Launch) (D : va_G) (cy : Nat → ClassId) (X : va_W) (h n : Nat) (hn : n ≤ 600) : ∀ sz : Nat, Met l yX1_init (kWs yX1_init cX1_init 2 none) (kRm 1 3 (3 * n)) (va_Pc [.ref h, .int (nI n)] (kP D (tyA cy) nestC (X ++ [(h, .inr (1, [.null, .null, .null, .int 0]))]) sz)) (va_Qv (fun _ : Nat × Nat × Nat => True) (fun u t => va_P D vwCl (X ++ [(h, .inr (1, [.ref u.1, .ref u.2.1, .ref u.2.2, .int 0])), (u.1, .inl (cy 0, n, .inl (fun _ => 0))), (u.2.1, .inl (cy 0, n, .inl (fun _ => 0))), (u.2.2, .inl (cy 1, n, .inr (.inl (fun _ => 0))))]) t.heap ∧ va_D (va_A (X ++ [(h, .inr (1, [.null, .null, .null, .int 0]))]) sz) (X ++ [(h, .inr (1, [.ref u.1, .ref u.2.1, .ref u.2.2, .int 0])), (u.1, .inl (cy 0, n, .inl (fun _ => 0))), (u.2.1, .inl (cy 0, n, .inl (fun _ => 0))), (u.2.2, .inl (cy 1, n, .inr (.inl (fun _ => 0))))])) (va_A (X ++ [(h, .inr (1, [.null, .null, .null, .int 0]))]) sz)) 3 (3 * n) (va_A (X ++ [(h, .inr (1, [.null, .null, .null, .int 0]))]) sz) := c_X1_init0 l D cy X h n hn _ rfl
set_option maxHeartbeats 800000 in
set_option maxRecDepth 100000 in
theorem c_X0_init (l : Launch) (D : va_G) (cy : Nat → ClassId) (X : va_W) (h : Nat) (x y : Int32) (W0 : va_W) (hW0 : W0 = X ++ [(h, .inr (0, [.int 0, .null, .int 0, .int 0, .int 0, .int 0, .int 0, .int 0]))]) : ∀ sz : Nat, Met l yX0_init (kWs yX0_init cX0_init 3 none) (kRm 1 1 31) (va_Pc [.ref h, .int x, .int y] (kP D (tyA cy) nestC W0 sz)) (va_Qv (fun _ : Nat => True) (fun u t => va_P D vwCl (X ++ [(h, .inr (0, [.int x, .ref u, .int 0, .int y, .int (nI 0), .int 0, .int 0, .int 0])), (u, .inl (cy 0, 31, .inl (fun _ => 0)))]) t.heap ∧ va_D (va_A W0 sz) (X ++ [(h, .inr (0, [.int x, .ref u, .int 0, .int y, .int (nI 0), .int 0, .int 0, .int 0])), (u, .inl (cy 0, 31, .inl (fun _ => 0)))])) (va_A W0 sz)) 1 31 (va_A W0 sz) := by
  intro sz
  refine kmet (own := RX0) (by decide) rfl (Nat.le_of_ble_eq_true rfl) (fun p e s m args below meth c S hr hlk hK hN hP hD hsz hA hnm ls hl => ?_)
  have hS : va_S (va_A W0 sz) s.heap s.heap [] := va_S.rf
  have hl : lv_has ls 3 [(0, .ref h), (1, .int x), (2, .int y)] := hl
  have hP : va_P D vwCl (X ++ [(h, .inr (0, [.int 0, .null, .int 0, .int 0, .int 0, .int 0, .int 0, .int 0]))]) s.heap := by rw [← hW0]; exact hP
  have hD : va_D (va_A W0 sz) (X ++ [(h, .inr (0, [.int 0, .null, .int 0, .int 0, .int 0, .int 0, .int 0, .int 0]))]) := by rw [← hW0]; exact hD
  refine lv_aload_n S.1 S.2.1 dX0_init_0 rfl (lv_at hl 0 rfl) ?_
  refine W.objInit S.1 S.2.1 S.2.2.2.1 (S.2.2.2.2 _ (List.mem_cons_of_mem _ wm_445)) (S.2.2.2.2 _ (List.mem_cons_of_mem _ wm_64)) (S.2.2.2.2 _ (List.mem_cons_of_mem _ wm_65)) rfl (by rw [S.2.2.1]; exact hl.1) rfl dX0_init_1 (Nat.le_of_ble_eq_true rfl) (Nat.le_of_ble_eq_true rfl) ?_
  refine W.eq (g2 := F0 m 4 ls []) rfl ?_
  refine lv_aload_n S.1 S.2.1 dX0_init_4 rfl (lv_at hl 0 rfl) ?_
  refine lv_iload_n S.1 S.2.1 dX0_init_5 rfl (lv_at hl 1 rfl) ?_
  refine va_putF (D := D) (ci := 0) (v := .int x) (ty := .int) (C := RX0) (T := TX0) (N := 8) S.1 S.2.1 S.2.2.2.2 (fun w h => List.mem_cons_of_mem _ (inX0 w h)) tyX0 tyX0_ok nmX0 S.2.2.2.1 hK hP hD hS (X.length + 0) (ap_get.trans rfl) rfl 0 (by decide) (S.2.2.2.2 _ (List.mem_cons_of_mem _ wm_446)) (fun _ h9 => h9) rfl hnm rfl (by decide +kernel) rfl rfl (Nat.le_of_ble_eq_true rfl) dX0_init_6 (fun H locs hP hD hS => ?_)
  rw [ap_set] at hP hD
  have hP : va_P D vwCl (X ++ [(h, .inr (0, [.int x, .null, .int 0, .int 0, .int 0, .int 0, .int 0, .int 0]))]) H := hP
  have hD : va_D (va_A W0 sz) (X ++ [(h, .inr (0, [.int x, .null, .int 0, .int 0, .int 0, .int 0, .int 0, .int 0]))]) := hD
  refine lv_aload_n S.1 S.2.1 dX0_init_9 rfl (lv_at hl 0 rfl) ?_
  refine lv_iload_n S.1 S.2.1 dX0_init_10 rfl (lv_at hl 2 rfl) ?_
  refine va_put (D := D) (ci := 0) (v := .int y) (ty := .int) (C := RX0) (T := TX0) (N := 8) S.1 S.2.1 S.2.2.2.2 (fun w h => List.mem_cons_of_mem _ (inX0 w h)) tyX0 tyX0_ok nmX0 S.2.2.2.1 hK hP hD hS (X.length + 0) (ap_get.trans rfl) rfl 3 (by decide) (S.2.2.2.2 _ (List.mem_cons_of_mem _ wm_452)) (fun _ h9 => h9) rfl (by decide +kernel) rfl rfl (Nat.le_of_ble_eq_true rfl) dX0_init_11 (fun H locs hP hD hS => ?_)
  rw [ap_set] at hP hD
  have hP : va_P D vwCl (X ++ [(h, .inr (0, [.int x, .null, .int 0, .int y, .int 0, .int 0, .int 0, .int 0]))]) H := hP
  have hD : va_D (va_A W0 sz) (X ++ [(h, .inr (0, [.int x, .null, .int 0, .int y, .int 0, .int 0, .int 0, .int 0]))]) := hD
  refine lv_aload_n S.1 S.2.1 dX0_init_14 rfl (lv_at hl 0 rfl) ?_
  refine lv_bipush (v := nI 31) S.1 S.2.1 dX0_init_15 (by decide) ?_
  refine k_newI (n := 31) S (S.2.2.2.2 _ (List.mem_cons_of_mem _ wm_90)) hK hP hD hS hA (by omega) (by first | omega | (simp only [kRm]; omega)) (by first | omega | (simp only [kRm]; omega)) dX0_init_17 (fun q1 H hP hD hS => ?_)
  rw [List.append_assoc] at hP hD
  have hP : va_P D vwCl (X ++ [(h, .inr (0, [.int x, .null, .int 0, .int y, .int 0, .int 0, .int 0, .int 0])), (q1, .inl (cy 0, 31, .inl (fun _ => 0)))]) H := hP
  have hD : va_D (va_A W0 sz) (X ++ [(h, .inr (0, [.int x, .null, .int 0, .int y, .int 0, .int 0, .int 0, .int 0])), (q1, .inl (cy 0, 31, .inl (fun _ => 0)))]) := hD
  refine va_putF (D := D) (ci := 0) (v := .ref q1) (ty := .array .int) (C := RX0) (T := TX0) (N := 8) S.1 S.2.1 S.2.2.2.2 (fun w h => List.mem_cons_of_mem _ (inX0 w h)) tyX0 tyX0_ok nmX0 S.2.2.2.1 hK hP hD hS (X.length + 0) (ap_get.trans rfl) rfl 1 (by decide) (S.2.2.2.2 _ (List.mem_cons_of_mem _ wm_448)) (fun _ h9 => h9) rfl hnm rfl (by decide +kernel) rfl rfl (Nat.le_of_ble_eq_true rfl) dX0_init_19 (fun H locs hP hD hS => ?_)
  rw [ap_set] at hP hD
  have hP : va_P D vwCl (X ++ [(h, .inr (0, [.int x, .ref q1, .int 0, .int y, .int 0, .int 0, .int 0, .int 0])), (q1, .inl (cy 0, 31, .inl (fun _ => 0)))]) H := hP
  have hD : va_D (va_A W0 sz) (X ++ [(h, .inr (0, [.int x, .ref q1, .int 0, .int y, .int 0, .int 0, .int 0, .int 0])), (q1, .inl (cy 0, 31, .inl (fun _ => 0)))]) := hD
  refine lv_aload_n S.1 S.2.1 dX0_init_22 rfl (lv_at hl 0 rfl) ?_
  refine lv_iconst (v := nI 0) S.1 S.2.1 dX0_init_23 (by decide) ?_
  refine va_put (D := D) (ci := 0) (v := .int (nI 0)) (ty := .int) (C := RX0) (T := TX0) (N := 8) S.1 S.2.1 S.2.2.2.2 (fun w h => List.mem_cons_of_mem _ (inX0 w h)) tyX0 tyX0_ok nmX0 S.2.2.2.1 hK hP hD hS (X.length + 0) (ap_get.trans rfl) rfl 4 (by decide) (S.2.2.2.2 _ (List.mem_cons_of_mem _ wm_454)) (fun _ h9 => h9) rfl (by decide +kernel) rfl rfl (Nat.le_of_ble_eq_true rfl) dX0_init_24 (fun H locs hP hD hS => ?_)
  rw [ap_set] at hP hD
  have hP : va_P D vwCl (X ++ [(h, .inr (0, [.int x, .ref q1, .int 0, .int y, .int (nI 0), .int 0, .int 0, .int 0])), (q1, .inl (cy 0, 31, .inl (fun _ => 0)))]) H := hP
  have hD : va_D (va_A W0 sz) (X ++ [(h, .inr (0, [.int x, .ref q1, .int 0, .int y, .int (nI 0), .int 0, .int 0, .int 0])), (q1, .inl (cy 0, 31, .inl (fun _ => 0)))]) := hD
  exact W.vret S.1 S.2.1 hr (fun t ht hW => ⟨⟨q1, rfl, trivial, by rw [ht]; exact hP, hD⟩, hS.F ht⟩) hS.2.2 dX0_init_27 hlk
