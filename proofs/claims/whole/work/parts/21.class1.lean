set_option maxHeartbeats 400000 in
set_option maxRecDepth 100000 in
theorem c_X1_write_known (l : Launch) (D : va_G) (cy : Nat → ClassId) (a : Nat → Nat) (X : va_W) (σ : CS) (row : Nat) (x : Int32) (y : Int32) (z : Int64) (hrow : row < 64) : MetV l yX1_write cX1_write 6 (kRm 0 0 0) D (tyA cy) nestC [.ref (a 6), .int (nI (row)), .int (x), .int (y), .long (z)] (X ++ cB cy a σ) (X ++ cB cy a (pWrite 6 7 0 3 row x y z σ)) 0 0 := by
  intro sz
  refine kmet (own := RX1) (by decide) rfl (Nat.le_of_ble_eq_true rfl) (fun p e s m args below meth c S hr hlk hK hN hP hD hsz hA hnm ls hl => ?_)
  have hS : va_S (va_A (X ++ cB cy a σ) sz) s.heap s.heap [] := va_S.rf
  have hl : lv_has ls 6 [(0, .ref (a 6)), (1, .int (nI (row))), (2, .int (x)), (3, .int (y)), (4, .long (z))] := hl
  refine lv_aload_n S.1 S.2.1 dX1_write_0 rfl (lv_at hl 0 rfl) ?_
  refine cf_known_number S hK hP dX1_write_1 ?_
  refine lv_iload_n S.1 S.2.1 dX1_write_4 rfl (lv_at hl 1 rfl) ?_
  refine ca_knNumber S hK hP (j := row) (by omega) dX1_write_5 ?_
  refine lv_if_ne (tgt := 19) S.1 S.2.1 dX1_write_6 (by decide) (fun c1 => ?_) (fun c1 => ?_)
  · refine lv_aload_n S.1 S.2.1 dX1_write_19 rfl (lv_at hl 0 rfl) ?_
    refine cf_known_number S hK hP dX1_write_20 ?_
    refine lv_iload_n S.1 S.2.1 dX1_write_23 rfl (lv_at hl 1 rfl) ?_
    refine lv_iload_n S.1 S.2.1 dX1_write_24 rfl (lv_at hl 2 rfl) ?_
    refine cs_knNumber S hK hP hD hS (j := row) (by omega) dX1_write_25 (fun H locs hP hD hS => ?_)
    refine lv_aload_n S.1 S.2.1 dX1_write_26 rfl (lv_at hl 0 rfl) ?_
    refine cf_known_born S hK hP dX1_write_27 ?_
    refine lv_iload_n S.1 S.2.1 dX1_write_30 rfl (lv_at hl 1 rfl) ?_
    refine lv_iload_n S.1 S.2.1 dX1_write_31 rfl (lv_at hl 3 rfl) ?_
    refine cs_knBorn S hK hP hD hS (j := row) (by omega) dX1_write_32 (fun H locs hP hD hS => ?_)
    refine lv_aload_n S.1 S.2.1 dX1_write_33 rfl (lv_at hl 0 rfl) ?_
    refine cf_known_costs S hK hP dX1_write_34 ?_
    refine lv_iload_n S.1 S.2.1 dX1_write_37 rfl (lv_at hl 1 rfl) ?_
    refine lv_lload S.1 S.2.1 dX1_write_38 (lv_at hl 4 rfl) ?_
    refine cs_knCosts S hK hP hD hS (j := row) (by omega) dX1_write_40 (fun H locs hP hD hS => ?_)
    have e9 : pWrite 6 7 0 3 row x y z σ = sJ 0 row (z) (sI 7 row (y) (sI 6 row (x) σ)) := by first | (simp only [pWrite, c1, reduceIte, Bool.false_eq_true, eq_self_iff_true, if_true, if_false]; done) | with_reducible rfl
    rw [e9]
    exact kret_v S hr hlk hP hD hS dX1_write_41
  · refine lv_aload_n S.1 S.2.1 dX1_write_9 rfl (lv_at hl 0 rfl) ?_
    refine lv_dup S.1 S.2.1 dX1_write_10 rfl ?_
    refine cf_known_count S hK hP dX1_write_11 ?_
    refine lv_iconst (v := (nI 1)) S.1 S.2.1 dX1_write_14 (by decide) ?_
    refine lv_iadd S.1 S.2.1 dX1_write_15 ?_
    refine cp_known_count S hK hP hD hS dX1_write_16 (fun H locs hP hD hS => ?_)
    refine lv_aload_n S.1 S.2.1 dX1_write_19 rfl (lv_at hl 0 rfl) ?_
    refine cf_known_number S hK hP dX1_write_20 ?_
    refine lv_iload_n S.1 S.2.1 dX1_write_23 rfl (lv_at hl 1 rfl) ?_
    refine lv_iload_n S.1 S.2.1 dX1_write_24 rfl (lv_at hl 2 rfl) ?_
    refine cs_knNumber S hK hP hD hS (j := row) (by omega) dX1_write_25 (fun H locs hP hD hS => ?_)
    refine lv_aload_n S.1 S.2.1 dX1_write_26 rfl (lv_at hl 0 rfl) ?_
    refine cf_known_born S hK hP dX1_write_27 ?_
    refine lv_iload_n S.1 S.2.1 dX1_write_30 rfl (lv_at hl 1 rfl) ?_
    refine lv_iload_n S.1 S.2.1 dX1_write_31 rfl (lv_at hl 3 rfl) ?_
    refine cs_knBorn S hK hP hD hS (j := row) (by omega) dX1_write_32 (fun H locs hP hD hS => ?_)
    refine lv_aload_n S.1 S.2.1 dX1_write_33 rfl (lv_at hl 0 rfl) ?_
    refine cf_known_costs S hK hP dX1_write_34 ?_
    refine lv_iload_n S.1 S.2.1 dX1_write_37 rfl (lv_at hl 1 rfl) ?_
    refine lv_lload S.1 S.2.1 dX1_write_38 (lv_at hl 4 rfl) ?_
    refine cs_knCosts S hK hP hD hS (j := row) (by omega) dX1_write_40 (fun H locs hP hD hS => ?_)
    have e9 : pWrite 6 7 0 3 row x y z σ = sJ 0 row (z) (sI 7 row (y) (sI 6 row (x) (sI 0 3 ((σ.1 0 3) + (nI 1)) σ))) := by first | (simp only [pWrite, eq_true c1, reduceIte, Bool.false_eq_true, eq_self_iff_true, if_true, if_false]; done) | with_reducible rfl
    rw [e9]
    exact kret_v S hr hlk hP hD hS dX1_write_41
theorem call_X1_write_known {p : Program} {l : Launch} {e : Env} {R : Room} {s : State} {m : MethodId} {args : Array Value} {below : List Frame} {meth : Method} {c : Code} {H : Heap} {locs : List Loc} {cells slots : Nat} {Q : State → Prop} {cc : ByteArray} {pc nL : Nat} {ls : Array Slot} {rest : List Value} {D : va_G} {A : Nat → Prop} {w0 : Cond} {X : va_W} {cy : Nat → ClassId} {a : Nat → Nat} {σ : CS} (S : CallFix p m c cc nL s args (w0 :: gw) RX2) (hK : va_K D vwCl (tyA cy) s) (hN : kN nestC s) (hP : va_P D vwCl (X ++ cB cy a σ) H) (hD : va_D A (X ++ cB cy a σ)) (hS : va_S A s.heap H locs) (hA : ∀ q, s.heap.size ≤ q → A q) {row : Nat} {x : Int32} {y : Int32} {z : Int64} (hrow : row < 64) (hsz : ls.size = nL) (hW : (rest.map fun v => v.category).sum ≤ 8) (hR : 0 + 1 ≤ R.frames ∧ 8 + (6 + 11) + 32 * 0 ≤ R.locals) (hdg : decode cc pc = .ok (.invokevirtual 202, 3)) (hfc : cells ≤ R.cells ∧ slots ≤ R.slots)
    (kk : ∀ (H1 : Heap) (locs1 : List Loc), va_P D vwCl (X ++ cB cy a (pWrite 6 7 0 3 row x y z σ)) H1 → va_D A (X ++ cB cy a (pWrite 6 7 0 3 row x y z σ)) → va_S A s.heap H1 locs1 → W p l e R s m args below meth c H1 locs1 cells slots Q (F0 m (pc + 3) ls (rest))) : W p l e R s m args below meth c H locs cells slots Q (F0 m pc ls (.long (z) :: .int (y) :: .int (x) :: .int (nI (row)) :: .ref (a 6) :: rest)) :=
  kgo_v (va_runVN (As := [.int (nI (row)), .int (x), .int (y), .long (z)]) (rest := rest) S (c_X1_write_known l D cy a X σ row x y z hrow H.size) ⟨va_cnB 4 S.2.2.2.2 (gw_good_in wm_329) rfl rfl rfl (hN _ nc_8) (S.2.2.2.2 _ (List.mem_cons_of_mem _ wm_49)) (by decide +kernel) hR, (S.2.2.2.2 _ (List.mem_cons_of_mem _ wm_328)), (S.2.2.2.2 _ (List.mem_cons_of_mem _ wm_15))⟩ ⟨kblind nestC_ok, crecv_known hK hP, kpre nestC_ok hN hK hP hD⟩ rfl rfl hsz rfl (lv_room hW) hdg hfc) hD hS hA kk
set_option maxHeartbeats 400000 in
set_option maxRecDepth 100000 in
theorem c_X1_clear_known (l : Launch) (D : va_G) (cy : Nat → ClassId) (a : Nat → Nat) (X : va_W) (σ : CS) (row : Nat) (hrow : row < 64) : MetV l yX1_clear cX1_clear 2 (kRm 0 0 0) D (tyA cy) nestC [.ref (a 6), .int (nI (row))] (X ++ cB cy a σ) (X ++ cB cy a (pClear 6 0 3 row σ)) 0 0 := by
  intro sz
  refine kmet (own := RX1) (by decide) rfl (Nat.le_of_ble_eq_true rfl) (fun p e s m args below meth c S hr hlk hK hN hP hD hsz hA hnm ls hl => ?_)
  have hS : va_S (va_A (X ++ cB cy a σ) sz) s.heap s.heap [] := va_S.rf
  have hl : lv_has ls 2 [(0, .ref (a 6)), (1, .int (nI (row)))] := hl
  refine lv_aload_n S.1 S.2.1 dX1_clear_0 rfl (lv_at hl 0 rfl) ?_
  refine cf_known_number S hK hP dX1_clear_1 ?_
  refine lv_iload_n S.1 S.2.1 dX1_clear_4 rfl (lv_at hl 1 rfl) ?_
  refine ca_knNumber S hK hP (j := row) (by omega) dX1_clear_5 ?_
  refine lv_if_le (tgt := 19) S.1 S.2.1 dX1_clear_6 (by decide) (fun c1 => ?_) (fun c1 => ?_)
  · refine lv_aload_n S.1 S.2.1 dX1_clear_19 rfl (lv_at hl 0 rfl) ?_
    refine cf_known_number S hK hP dX1_clear_20 ?_
    refine lv_iload_n S.1 S.2.1 dX1_clear_23 rfl (lv_at hl 1 rfl) ?_
    refine lv_iconst (v := (nI 0)) S.1 S.2.1 dX1_clear_24 (by decide) ?_
    refine cs_knNumber S hK hP hD hS (j := row) (by omega) dX1_clear_25 (fun H locs hP hD hS => ?_)
    refine lv_aload_n S.1 S.2.1 dX1_clear_26 rfl (lv_at hl 0 rfl) ?_
    refine cf_known_costs S hK hP dX1_clear_27 ?_
    refine lv_iload_n S.1 S.2.1 dX1_clear_30 rfl (lv_at hl 1 rfl) ?_
    refine lv_lconst (v := 0) S.1 S.2.1 dX1_clear_31 (by decide) ?_
    refine cs_knCosts S hK hP hD hS (j := row) (by omega) dX1_clear_32 (fun H locs hP hD hS => ?_)
    have e9 : pClear 6 0 3 row σ = sJ 0 row (0) (sI 6 row (nI 0) σ) := by first | (simp only [pClear, c1, reduceIte, Bool.false_eq_true, eq_self_iff_true, if_true, if_false]; done) | with_reducible rfl
    rw [e9]
    exact kret_v S hr hlk hP hD hS dX1_clear_33
  · refine lv_aload_n S.1 S.2.1 dX1_clear_9 rfl (lv_at hl 0 rfl) ?_
    refine lv_dup S.1 S.2.1 dX1_clear_10 rfl ?_
    refine cf_known_count S hK hP dX1_clear_11 ?_
    refine lv_iconst (v := (nI 1)) S.1 S.2.1 dX1_clear_14 (by decide) ?_
    refine lv_isub S.1 S.2.1 dX1_clear_15 ?_
    refine cp_known_count S hK hP hD hS dX1_clear_16 (fun H locs hP hD hS => ?_)
    refine lv_aload_n S.1 S.2.1 dX1_clear_19 rfl (lv_at hl 0 rfl) ?_
    refine cf_known_number S hK hP dX1_clear_20 ?_
    refine lv_iload_n S.1 S.2.1 dX1_clear_23 rfl (lv_at hl 1 rfl) ?_
    refine lv_iconst (v := (nI 0)) S.1 S.2.1 dX1_clear_24 (by decide) ?_
    refine cs_knNumber S hK hP hD hS (j := row) (by omega) dX1_clear_25 (fun H locs hP hD hS => ?_)
    refine lv_aload_n S.1 S.2.1 dX1_clear_26 rfl (lv_at hl 0 rfl) ?_
    refine cf_known_costs S hK hP dX1_clear_27 ?_
    refine lv_iload_n S.1 S.2.1 dX1_clear_30 rfl (lv_at hl 1 rfl) ?_
    refine lv_lconst (v := 0) S.1 S.2.1 dX1_clear_31 (by decide) ?_
    refine cs_knCosts S hK hP hD hS (j := row) (by omega) dX1_clear_32 (fun H locs hP hD hS => ?_)
    have e9 : pClear 6 0 3 row σ = sJ 0 row (0) (sI 6 row (nI 0) (sI 0 3 ((σ.1 0 3) - (nI 1)) σ)) := by first | (simp only [pClear, c1, reduceIte, Bool.false_eq_true, eq_self_iff_true, if_true, if_false]; done) | with_reducible rfl
    rw [e9]
    exact kret_v S hr hlk hP hD hS dX1_clear_33
theorem call_X1_clear_known_X2 {p : Program} {l : Launch} {e : Env} {R : Room} {s : State} {m : MethodId} {args : Array Value} {below : List Frame} {meth : Method} {c : Code} {H : Heap} {locs : List Loc} {cells slots : Nat} {Q : State → Prop} {cc : ByteArray} {pc nL : Nat} {ls : Array Slot} {rest : List Value} {D : va_G} {A : Nat → Prop} {w0 : Cond} {X : va_W} {cy : Nat → ClassId} {a : Nat → Nat} {σ : CS} (S : CallFix p m c cc nL s args (w0 :: gw) RX2) (hK : va_K D vwCl (tyA cy) s) (hN : kN nestC s) (hP : va_P D vwCl (X ++ cB cy a σ) H) (hD : va_D A (X ++ cB cy a σ)) (hS : va_S A s.heap H locs) (hA : ∀ q, s.heap.size ≤ q → A q) {row : Nat} (hrow : row < 64) (hsz : ls.size = nL) (hW : (rest.map fun v => v.category).sum ≤ 8) (hR : 0 + 1 ≤ R.frames ∧ 8 + (2 + 11) + 32 * 0 ≤ R.locals) (hdg : decode cc pc = .ok (.invokevirtual 110, 3)) (hfc : cells ≤ R.cells ∧ slots ≤ R.slots)
    (kk : ∀ (H1 : Heap) (locs1 : List Loc), va_P D vwCl (X ++ cB cy a (pClear 6 0 3 row σ)) H1 → va_D A (X ++ cB cy a (pClear 6 0 3 row σ)) → va_S A s.heap H1 locs1 → W p l e R s m args below meth c H1 locs1 cells slots Q (F0 m (pc + 3) ls (rest))) : W p l e R s m args below meth c H locs cells slots Q (F0 m pc ls (.int (nI (row)) :: .ref (a 6) :: rest)) :=
  kgo_v (va_runVN (As := [.int (nI (row))]) (rest := rest) S (c_X1_clear_known l D cy a X σ row hrow H.size) ⟨va_cnB 1 S.2.2.2.2 (gw_good_in wm_364) rfl rfl rfl (hN _ nc_9) (S.2.2.2.2 _ (List.mem_cons_of_mem _ wm_49)) (by decide +kernel) hR, (S.2.2.2.2 _ (List.mem_cons_of_mem _ wm_363)), (S.2.2.2.2 _ (List.mem_cons_of_mem _ wm_21))⟩ ⟨kblind nestC_ok, crecv_known hK hP, kpre nestC_ok hN hK hP hD⟩ rfl rfl hsz rfl (lv_room hW) hdg hfc) hD hS hA kk
theorem call_X1_clear_known_X1 {p : Program} {l : Launch} {e : Env} {R : Room} {s : State} {m : MethodId} {args : Array Value} {below : List Frame} {meth : Method} {c : Code} {H : Heap} {locs : List Loc} {cells slots : Nat} {Q : State → Prop} {cc : ByteArray} {pc nL : Nat} {ls : Array Slot} {rest : List Value} {D : va_G} {A : Nat → Prop} {w0 : Cond} {X : va_W} {cy : Nat → ClassId} {a : Nat → Nat} {σ : CS} (S : CallFix p m c cc nL s args (w0 :: gw) RX1) (hK : va_K D vwCl (tyA cy) s) (hN : kN nestC s) (hP : va_P D vwCl (X ++ cB cy a σ) H) (hD : va_D A (X ++ cB cy a σ)) (hS : va_S A s.heap H locs) (hA : ∀ q, s.heap.size ≤ q → A q) {row : Nat} (hrow : row < 64) (hsz : ls.size = nL) (hW : (rest.map fun v => v.category).sum ≤ 8) (hR : 0 + 1 ≤ R.frames ∧ 8 + (2 + 11) + 32 * 0 ≤ R.locals) (hdg : decode cc pc = .ok (.invokevirtual 30, 3)) (hfc : cells ≤ R.cells ∧ slots ≤ R.slots)
    (kk : ∀ (H1 : Heap) (locs1 : List Loc), va_P D vwCl (X ++ cB cy a (pClear 6 0 3 row σ)) H1 → va_D A (X ++ cB cy a (pClear 6 0 3 row σ)) → va_S A s.heap H1 locs1 → W p l e R s m args below meth c H1 locs1 cells slots Q (F0 m (pc + 3) ls (rest))) : W p l e R s m args below meth c H locs cells slots Q (F0 m pc ls (.int (nI (row)) :: .ref (a 6) :: rest)) :=
  kgo_v (va_runV (As := [.int (nI (row))]) (rest := rest) S (c_X1_clear_known l D cy a X σ row hrow H.size) (cwV 1 S.2.2.2.2 (gw_good_1 wm_408 (gw_good_1 wm_363 (gw_good_1 wm_21 (gw_good_1 wm_49 (gw_good_in wm_364))))) rfl rfl rfl (by decide +kernel) hR) ⟨kblind nestC_ok, crecv_known hK hP, kpre nestC_ok hN hK hP hD⟩ rfl rfl hsz rfl (lv_room hW) hdg hfc) hD hS hA kk
set_option maxHeartbeats 400000 in
set_option maxRecDepth 100000 in
theorem c_X1_costFor_known (l : Launch) (D : va_G) (cy : Nat → ClassId) (a : Nat → Nat) (X : va_W) (σ : CS) (row : Nat) (w : Nat) (hrow : row < 64) : MetI l yX1_costFor cX1_costFor 3 .int (kRm 0 0 0) D (tyA cy) nestC [.ref (a 6), .int (nI (row)), .int (nI (w))] (X ++ cB cy a σ) (X ++ cB cy a σ) (costF (σ.2 0 row) w) 0 0 := by
  intro sz
  refine kmet (own := RX1) (by decide) rfl (Nat.le_of_ble_eq_true rfl) (fun p e s m args below meth c S hr hlk hK hN hP hD hsz hA hnm ls hl => ?_)
  have hS : va_S (va_A (X ++ cB cy a σ) sz) s.heap s.heap [] := va_S.rf
  have hl : lv_has ls 3 [(0, .ref (a 6)), (1, .int (nI (row))), (2, .int (nI (w)))] := hl
  refine lv_aload_n S.1 S.2.1 dX1_costFor_0 rfl (lv_at hl 0 rfl) ?_
  refine cf_known_costs S hK hP dX1_costFor_1 ?_
  refine lv_iload_n S.1 S.2.1 dX1_costFor_4 rfl (lv_at hl 1 rfl) ?_
  refine ca_knCosts S hK hP (j := row) (by omega) dX1_costFor_5 ?_
  refine lv_bipush (v := (nI 6)) S.1 S.2.1 dX1_costFor_6 (by decide) ?_
  refine lv_iload_n S.1 S.2.1 dX1_costFor_8 rfl (lv_at hl 2 rfl) ?_
  refine lv_imul S.1 S.2.1 dX1_costFor_9 ?_
  refine k_top (pk_mul _ _) ?_
  refine lv_lshr (v := (σ.2 0 row) >>> (((nI (6 * w))).toInt64 &&& 63)) S.1 S.2.1 dX1_costFor_10 rfl ?_
  refine lv_l2i (v := ((σ.2 0 row) >>> (((nI (6 * w))).toInt64 &&& 63)).toInt32) S.1 S.2.1 dX1_costFor_11 rfl ?_
  refine lv_bipush (v := (nI 63)) S.1 S.2.1 dX1_costFor_12 (by decide) ?_
  refine lv_iand S.1 S.2.1 dX1_costFor_14 ?_
  exact kret_i S hr hlk hP hD hS (by first | (simp only [costF, reduceIte, Bool.false_eq_true, eq_self_iff_true, if_true, if_false]; done) | with_reducible rfl) dX1_costFor_15
theorem call_X1_costFor_known_X2 {p : Program} {l : Launch} {e : Env} {R : Room} {s : State} {m : MethodId} {args : Array Value} {below : List Frame} {meth : Method} {c : Code} {H : Heap} {locs : List Loc} {cells slots : Nat} {Q : State → Prop} {cc : ByteArray} {pc nL : Nat} {ls : Array Slot} {rest : List Value} {D : va_G} {A : Nat → Prop} {w0 : Cond} {X : va_W} {cy : Nat → ClassId} {a : Nat → Nat} {σ : CS} (S : CallFix p m c cc nL s args (w0 :: gw) RX2) (hK : va_K D vwCl (tyA cy) s) (hN : kN nestC s) (hP : va_P D vwCl (X ++ cB cy a σ) H) (hD : va_D A (X ++ cB cy a σ)) (hS : va_S A s.heap H locs) (hA : ∀ q, s.heap.size ≤ q → A q) {row : Nat} {w : Nat} (hrow : row < 64) (hsz : ls.size = nL) (hW : (rest.map fun v => v.category).sum ≤ 8) (hR : 0 + 1 ≤ R.frames ∧ 8 + (3 + 11) + 32 * 0 ≤ R.locals) (hdg : decode cc pc = .ok (.invokevirtual 143, 3)) (hfc : cells ≤ R.cells ∧ slots ≤ R.slots)
    (kk : ∀ (H1 : Heap) (locs1 : List Loc), va_P D vwCl (X ++ cB cy a σ) H1 → va_D A (X ++ cB cy a σ) → va_S A s.heap H1 locs1 → W p l e R s m args below meth c H1 locs1 cells slots Q (F0 m (pc + 3) ls (.int (costF (σ.2 0 row) w) :: rest))) : W p l e R s m args below meth c H locs cells slots Q (F0 m pc ls (.int (nI (w)) :: .int (nI (row)) :: .ref (a 6) :: rest)) :=
  kgo_i (va_runVN (As := [.int (nI (row)), .int (nI (w))]) (rest := rest) S (c_X1_costFor_known l D cy a X σ row w hrow H.size) ⟨va_cnB 2 S.2.2.2.2 (gw_good_in wm_151) rfl rfl rfl (hN _ nc_6) (S.2.2.2.2 _ (List.mem_cons_of_mem _ wm_49)) (by decide +kernel) hR, (S.2.2.2.2 _ (List.mem_cons_of_mem _ wm_150)), (S.2.2.2.2 _ (List.mem_cons_of_mem _ wm_1))⟩ ⟨kblind nestC_ok, crecv_known hK hP, kpre nestC_ok hN hK hP hD⟩ rfl rfl hsz rfl (lv_room hW) hdg hfc) hD hS hA kk
theorem call_X1_costFor_known_X1 {p : Program} {l : Launch} {e : Env} {R : Room} {s : State} {m : MethodId} {args : Array Value} {below : List Frame} {meth : Method} {c : Code} {H : Heap} {locs : List Loc} {cells slots : Nat} {Q : State → Prop} {cc : ByteArray} {pc nL : Nat} {ls : Array Slot} {rest : List Value} {D : va_G} {A : Nat → Prop} {w0 : Cond} {X : va_W} {cy : Nat → ClassId} {a : Nat → Nat} {σ : CS} (S : CallFix p m c cc nL s args (w0 :: gw) RX1) (hK : va_K D vwCl (tyA cy) s) (hN : kN nestC s) (hP : va_P D vwCl (X ++ cB cy a σ) H) (hD : va_D A (X ++ cB cy a σ)) (hS : va_S A s.heap H locs) (hA : ∀ q, s.heap.size ≤ q → A q) {row : Nat} {w : Nat} (hrow : row < 64) (hsz : ls.size = nL) (hW : (rest.map fun v => v.category).sum ≤ 8) (hR : 0 + 1 ≤ R.frames ∧ 8 + (3 + 11) + 32 * 0 ≤ R.locals) (hdg : decode cc pc = .ok (.invokevirtual 26, 3)) (hfc : cells ≤ R.cells ∧ slots ≤ R.slots)
    (kk : ∀ (H1 : Heap) (locs1 : List Loc), va_P D vwCl (X ++ cB cy a σ) H1 → va_D A (X ++ cB cy a σ) → va_S A s.heap H1 locs1 → W p l e R s m args below meth c H1 locs1 cells slots Q (F0 m (pc + 3) ls (.int (costF (σ.2 0 row) w) :: rest))) : W p l e R s m args below meth c H locs cells slots Q (F0 m pc ls (.int (nI (w)) :: .int (nI (row)) :: .ref (a 6) :: rest)) :=
  kgo_i (va_runV (As := [.int (nI (row)), .int (nI (w))]) (rest := rest) S (c_X1_costFor_known l D cy a X σ row w hrow H.size) (cwV 2 S.2.2.2.2 (gw_good_1 wm_148 (gw_good_1 wm_150 (gw_good_1 wm_1 (gw_good_1 wm_49 (gw_good_in wm_151))))) rfl rfl rfl (by decide +kernel) hR) ⟨kblind nestC_ok, crecv_known hK hP, kpre nestC_ok hN hK hP hD⟩ rfl rfl hsz rfl (lv_room hW) hdg hfc) hD hS hA kk
set_option maxHeartbeats 400000 in
set_option maxRecDepth 100000 in
theorem c_X1_costCount_known (l : Launch) (D : va_G) (cy : Nat → ClassId) (a : Nat → Nat) (X : va_W) (σ : CS) (row : Nat) (hrow : row < 64) : MetI l yX1_costCount cX1_costCount 4 .int (kRm 1 0 0) D (tyA cy) nestC [.ref (a 6), .int (nI (row))] (X ++ cB cy a σ) (X ++ cB cy a σ) (cntF (σ.2 0 row)) 0 0 := by
  intro sz
  refine kmet (own := RX1) (by decide) rfl (Nat.le_of_ble_eq_true rfl) (fun p e s m args below meth c S hr hlk hK hN hP hD hsz hA hnm ls hl => ?_)
  have hS : va_S (va_A (X ++ cB cy a σ) sz) s.heap s.heap [] := va_S.rf
  have hl : lv_has ls 4 [(0, .ref (a 6)), (1, .int (nI (row)))] := hl
  refine lv_iconst (v := (nI 0)) S.1 S.2.1 dX1_costCount_0 (by decide) ?_
  refine lv_istore_n (lv' := [(2, .int (nI 0)), (0, .ref (a 6)), (1, .int (nI (row)))]) S.1 S.2.1 dX1_costCount_1 rfl hl (by decide) rfl (fun ls hl => ?_)
  refine lv_iconst (v := (nI 0)) S.1 S.2.1 dX1_costCount_2 (by decide) ?_
  refine lv_istore_n (lv' := [(3, .int (nI 0)), (2, .int (nI 0)), (0, .ref (a 6)), (1, .int (nI (row)))]) S.1 S.2.1 dX1_costCount_3 rfl hl (by decide) rfl (fun ls hl => ?_)
  have lp1 : ∀ (n1 i1 : Nat)  (x1_0 : Int32), i1 + n1 = 8 → itr (fCnt (σ.2 0 row)) n1 i1 x1_0 = itr (fCnt (σ.2 0 row)) 8 0 (nI 0) → ∀ (H : Heap) (locs : List Loc), va_P D vwCl (X ++ cB cy a σ) H → va_D (va_A (X ++ cB cy a σ) sz) (X ++ cB cy a σ) → va_S (va_A (X ++ cB cy a σ) sz) s.heap H locs → ∀ ls : Array Slot, lv_has ls 4 [(3, .int (nI (i1))), (2, .int (x1_0)), (0, .ref (a 6)), (1, .int (nI (row)))] → W p l e (kRm 1 0 0) s m args below meth c H locs 0 0 (MQ below (kQi D (X ++ cB cy a σ) (X ++ cB cy a σ) (cntF (σ.2 0 row)) sz) args s 0 0 (va_A (X ++ cB cy a σ) sz)) (F0 m 4 ls []) := by
    intro n1
    induction n1 with
    | zero =>
      intro i1 x1_0 hi1 he1 H locs hP hD hS ls hl
      have hi1 : i1 = 8 := by omega
      have he1 : x1_0 = itr (fCnt (σ.2 0 row)) 8 0 (nI 0) := he1
      refine lv_iload_n S.1 S.2.1 dX1_costCount_4 rfl (lv_at hl 0 rfl) ?_
      refine lv_bipush (v := (nI 8)) S.1 S.2.1 dX1_costCount_5 (by decide) ?_
      refine lv_icmp_ge (tgt := 28) S.1 S.2.1 dX1_costCount_7 (by decide) (fun _ => ?_) (fun c => absurd (nI_le (by omega) (by omega)) c)
      refine lv_iload_n S.1 S.2.1 dX1_costCount_28 rfl (lv_at hl 1 rfl) ?_
      exact kret_i S hr hlk hP hD hS (by first | (simp only [cntF, ← he1, reduceIte, Bool.false_eq_true, eq_self_iff_true, if_true, if_false]; done) | with_reducible rfl) dX1_costCount_29
    | succ n1 ih1 =>
      intro i1 x1_0 hi1 he1 H locs hP hD hS ls hl
      have hlt1 : i1 < 8 := by omega
      refine lv_iload_n S.1 S.2.1 dX1_costCount_4 rfl (lv_at hl 0 rfl) ?_
      refine lv_bipush (v := (nI 8)) S.1 S.2.1 dX1_costCount_5 (by decide) ?_
      refine lv_icmp_ge (tgt := 28) S.1 S.2.1 dX1_costCount_7 (by decide) (fun c => absurd c (nI_ge (by omega) (by omega))) (fun _ => ?_)
      refine lv_aload_n S.1 S.2.1 dX1_costCount_10 rfl (lv_at hl 2 rfl) ?_
      refine lv_iload_n S.1 S.2.1 dX1_costCount_11 rfl (lv_at hl 3 rfl) ?_
      refine lv_iload_n S.1 S.2.1 dX1_costCount_12 rfl (lv_at hl 0 rfl) ?_
      refine call_X1_costFor_known_X1 S hK hN hP hD hS hA (row := row) (w := i1) (by omega) hl.1 (Nat.le_of_ble_eq_true rfl) ⟨Nat.le_of_ble_eq_true rfl, Nat.le_of_ble_eq_true rfl⟩ dX1_costCount_13 ⟨Nat.le_refl _, Nat.le_refl _⟩ (fun H locs hP hD hS => ?_)
      refine lv_if_le (tgt := 22) S.1 S.2.1 dX1_costCount_16 (by decide) (fun c4 => ?_) (fun c4 => ?_)
      · refine lv_iinc (v := (nI (i1 + 1))) (lv' := [(3, .int (nI (i1 + 1))), (2, .int (x1_0)), (0, .ref (a 6)), (1, .int (nI (row)))]) S.1 S.2.1 dX1_costCount_22 hl (k := 0) rfl (nI_add _ 1) (by decide) rfl (fun ls hl => ?_)
        refine lv_goto (tgt := 4) S.1 S.2.1 dX1_costCount_25 (by decide) ?_
        exact ih1 (i1 + 1)  ((x1_0)) (by omega) (itr_step he1 (by first | (simp only [fCnt, c4, reduceIte, Bool.false_eq_true, eq_self_iff_true, if_true, if_false]; done) | with_reducible rfl)) _ _ hP hD hS _ (lv_sub hl [0, 1, 2, 3] rfl)
      · refine lv_iinc (v := ((x1_0) + (Int32.ofInt (1)))) (lv' := [(2, .int ((x1_0) + (Int32.ofInt (1)))), (3, .int (nI (i1))), (0, .ref (a 6)), (1, .int (nI (row)))]) S.1 S.2.1 dX1_costCount_19 hl (k := 1) rfl rfl (by decide) rfl (fun ls hl => ?_)
        refine lv_iinc (v := (nI (i1 + 1))) (lv' := [(3, .int (nI (i1 + 1))), (2, .int ((x1_0) + (Int32.ofInt (1)))), (0, .ref (a 6)), (1, .int (nI (row)))]) S.1 S.2.1 dX1_costCount_22 hl (k := 1) rfl (nI_add _ 1) (by decide) rfl (fun ls hl => ?_)
        refine lv_goto (tgt := 4) S.1 S.2.1 dX1_costCount_25 (by decide) ?_
        exact ih1 (i1 + 1)  (((x1_0) + (Int32.ofInt (1)))) (by omega) (itr_step he1 (by first | (simp only [fCnt, c4, reduceIte, Bool.false_eq_true, eq_self_iff_true, if_true, if_false]; done) | with_reducible rfl)) _ _ hP hD hS _ (lv_sub hl [0, 1, 2, 3] rfl)
  exact lp1 8 0  ((nI 0)) (by omega) rfl _ _ hP hD hS _ (lv_sub hl [0, 1, 2, 3] rfl)
theorem call_X1_costCount_known {p : Program} {l : Launch} {e : Env} {R : Room} {s : State} {m : MethodId} {args : Array Value} {below : List Frame} {meth : Method} {c : Code} {H : Heap} {locs : List Loc} {cells slots : Nat} {Q : State → Prop} {cc : ByteArray} {pc nL : Nat} {ls : Array Slot} {rest : List Value} {D : va_G} {A : Nat → Prop} {w0 : Cond} {X : va_W} {cy : Nat → ClassId} {a : Nat → Nat} {σ : CS} (S : CallFix p m c cc nL s args (w0 :: gw) RX2) (hK : va_K D vwCl (tyA cy) s) (hN : kN nestC s) (hP : va_P D vwCl (X ++ cB cy a σ) H) (hD : va_D A (X ++ cB cy a σ)) (hS : va_S A s.heap H locs) (hA : ∀ q, s.heap.size ≤ q → A q) {row : Nat} (hrow : row < 64) (hsz : ls.size = nL) (hW : (rest.map fun v => v.category).sum ≤ 8) (hR : 1 + 1 ≤ R.frames ∧ 8 + (4 + 11) + 32 * 1 ≤ R.locals) (hdg : decode cc pc = .ok (.invokevirtual 139, 3)) (hfc : cells ≤ R.cells ∧ slots ≤ R.slots)
    (kk : ∀ (H1 : Heap) (locs1 : List Loc), va_P D vwCl (X ++ cB cy a σ) H1 → va_D A (X ++ cB cy a σ) → va_S A s.heap H1 locs1 → W p l e R s m args below meth c H1 locs1 cells slots Q (F0 m (pc + 3) ls (.int (cntF (σ.2 0 row)) :: rest))) : W p l e R s m args below meth c H locs cells slots Q (F0 m pc ls (.int (nI (row)) :: .ref (a 6) :: rest)) :=
  kgo_i (va_runVN (As := [.int (nI (row))]) (rest := rest) S (c_X1_costCount_known l D cy a X σ row hrow H.size) ⟨va_cnB 1 S.2.2.2.2 (gw_good_in wm_147) rfl rfl rfl (hN _ nc_5) (S.2.2.2.2 _ (List.mem_cons_of_mem _ wm_49)) (by decide +kernel) hR, (S.2.2.2.2 _ (List.mem_cons_of_mem _ wm_146)), (S.2.2.2.2 _ (List.mem_cons_of_mem _ wm_0))⟩ ⟨kblind nestC_ok, crecv_known hK hP, kpre nestC_ok hN hK hP hD⟩ rfl rfl hsz rfl (lv_room hW) hdg hfc) hD hS hA kk
set_option maxHeartbeats 400000 in
set_option maxRecDepth 100000 in
theorem c_X1_write_inFlight (l : Launch) (D : va_G) (cy : Nat → ClassId) (a : Nat → Nat) (X : va_W) (σ : CS) (row : Nat) (x : Int32) (y : Int32) (z : Int64) (hrow : row < 512) : MetV l yX1_write cX1_write 6 (kRm 0 0 0) D (tyA cy) nestC [.ref (a 7), .int (nI (row)), .int (x), .int (y), .long (z)] (X ++ cB cy a σ) (X ++ cB cy a (pWrite 8 9 1 4 row x y z σ)) 0 0 := by
  intro sz
  refine kmet (own := RX1) (by decide) rfl (Nat.le_of_ble_eq_true rfl) (fun p e s m args below meth c S hr hlk hK hN hP hD hsz hA hnm ls hl => ?_)
  have hS : va_S (va_A (X ++ cB cy a σ) sz) s.heap s.heap [] := va_S.rf
  have hl : lv_has ls 6 [(0, .ref (a 7)), (1, .int (nI (row))), (2, .int (x)), (3, .int (y)), (4, .long (z))] := hl
  refine lv_aload_n S.1 S.2.1 dX1_write_0 rfl (lv_at hl 0 rfl) ?_
  refine cf_inFlight_number S hK hP dX1_write_1 ?_
  refine lv_iload_n S.1 S.2.1 dX1_write_4 rfl (lv_at hl 1 rfl) ?_
  refine ca_inNumber S hK hP (j := row) (by omega) dX1_write_5 ?_
  refine lv_if_ne (tgt := 19) S.1 S.2.1 dX1_write_6 (by decide) (fun c1 => ?_) (fun c1 => ?_)
  · refine lv_aload_n S.1 S.2.1 dX1_write_19 rfl (lv_at hl 0 rfl) ?_
    refine cf_inFlight_number S hK hP dX1_write_20 ?_
    refine lv_iload_n S.1 S.2.1 dX1_write_23 rfl (lv_at hl 1 rfl) ?_
    refine lv_iload_n S.1 S.2.1 dX1_write_24 rfl (lv_at hl 2 rfl) ?_
    refine cs_inNumber S hK hP hD hS (j := row) (by omega) dX1_write_25 (fun H locs hP hD hS => ?_)
    refine lv_aload_n S.1 S.2.1 dX1_write_26 rfl (lv_at hl 0 rfl) ?_
    refine cf_inFlight_born S hK hP dX1_write_27 ?_
    refine lv_iload_n S.1 S.2.1 dX1_write_30 rfl (lv_at hl 1 rfl) ?_
    refine lv_iload_n S.1 S.2.1 dX1_write_31 rfl (lv_at hl 3 rfl) ?_
    refine cs_inBorn S hK hP hD hS (j := row) (by omega) dX1_write_32 (fun H locs hP hD hS => ?_)
    refine lv_aload_n S.1 S.2.1 dX1_write_33 rfl (lv_at hl 0 rfl) ?_
    refine cf_inFlight_costs S hK hP dX1_write_34 ?_
    refine lv_iload_n S.1 S.2.1 dX1_write_37 rfl (lv_at hl 1 rfl) ?_
    refine lv_lload S.1 S.2.1 dX1_write_38 (lv_at hl 4 rfl) ?_
    refine cs_inCosts S hK hP hD hS (j := row) (by omega) dX1_write_40 (fun H locs hP hD hS => ?_)
    have e9 : pWrite 8 9 1 4 row x y z σ = sJ 1 row (z) (sI 9 row (y) (sI 8 row (x) σ)) := by first | (simp only [pWrite, c1, reduceIte, Bool.false_eq_true, eq_self_iff_true, if_true, if_false]; done) | with_reducible rfl
    rw [e9]
    exact kret_v S hr hlk hP hD hS dX1_write_41
  · refine lv_aload_n S.1 S.2.1 dX1_write_9 rfl (lv_at hl 0 rfl) ?_
    refine lv_dup S.1 S.2.1 dX1_write_10 rfl ?_
    refine cf_inFlight_count S hK hP dX1_write_11 ?_
    refine lv_iconst (v := (nI 1)) S.1 S.2.1 dX1_write_14 (by decide) ?_
    refine lv_iadd S.1 S.2.1 dX1_write_15 ?_
    refine cp_inFlight_count S hK hP hD hS dX1_write_16 (fun H locs hP hD hS => ?_)
    refine lv_aload_n S.1 S.2.1 dX1_write_19 rfl (lv_at hl 0 rfl) ?_
    refine cf_inFlight_number S hK hP dX1_write_20 ?_
    refine lv_iload_n S.1 S.2.1 dX1_write_23 rfl (lv_at hl 1 rfl) ?_
    refine lv_iload_n S.1 S.2.1 dX1_write_24 rfl (lv_at hl 2 rfl) ?_
    refine cs_inNumber S hK hP hD hS (j := row) (by omega) dX1_write_25 (fun H locs hP hD hS => ?_)
    refine lv_aload_n S.1 S.2.1 dX1_write_26 rfl (lv_at hl 0 rfl) ?_
    refine cf_inFlight_born S hK hP dX1_write_27 ?_
    refine lv_iload_n S.1 S.2.1 dX1_write_30 rfl (lv_at hl 1 rfl) ?_
    refine lv_iload_n S.1 S.2.1 dX1_write_31 rfl (lv_at hl 3 rfl) ?_
    refine cs_inBorn S hK hP hD hS (j := row) (by omega) dX1_write_32 (fun H locs hP hD hS => ?_)
    refine lv_aload_n S.1 S.2.1 dX1_write_33 rfl (lv_at hl 0 rfl) ?_
    refine cf_inFlight_costs S hK hP dX1_write_34 ?_
    refine lv_iload_n S.1 S.2.1 dX1_write_37 rfl (lv_at hl 1 rfl) ?_
    refine lv_lload S.1 S.2.1 dX1_write_38 (lv_at hl 4 rfl) ?_
    refine cs_inCosts S hK hP hD hS (j := row) (by omega) dX1_write_40 (fun H locs hP hD hS => ?_)
    have e9 : pWrite 8 9 1 4 row x y z σ = sJ 1 row (z) (sI 9 row (y) (sI 8 row (x) (sI 0 4 ((σ.1 0 4) + (nI 1)) σ))) := by first | (simp only [pWrite, eq_true c1, reduceIte, Bool.false_eq_true, eq_self_iff_true, if_true, if_false]; done) | with_reducible rfl
    rw [e9]
    exact kret_v S hr hlk hP hD hS dX1_write_41
theorem call_X1_write_inFlight {p : Program} {l : Launch} {e : Env} {R : Room} {s : State} {m : MethodId} {args : Array Value} {below : List Frame} {meth : Method} {c : Code} {H : Heap} {locs : List Loc} {cells slots : Nat} {Q : State → Prop} {cc : ByteArray} {pc nL : Nat} {ls : Array Slot} {rest : List Value} {D : va_G} {A : Nat → Prop} {w0 : Cond} {X : va_W} {cy : Nat → ClassId} {a : Nat → Nat} {σ : CS} (S : CallFix p m c cc nL s args (w0 :: gw) RX2) (hK : va_K D vwCl (tyA cy) s) (hN : kN nestC s) (hP : va_P D vwCl (X ++ cB cy a σ) H) (hD : va_D A (X ++ cB cy a σ)) (hS : va_S A s.heap H locs) (hA : ∀ q, s.heap.size ≤ q → A q) {row : Nat} {x : Int32} {y : Int32} {z : Int64} (hrow : row < 512) (hsz : ls.size = nL) (hW : (rest.map fun v => v.category).sum ≤ 8) (hR : 0 + 1 ≤ R.frames ∧ 8 + (6 + 11) + 32 * 0 ≤ R.locals) (hdg : decode cc pc = .ok (.invokevirtual 202, 3)) (hfc : cells ≤ R.cells ∧ slots ≤ R.slots)
    (kk : ∀ (H1 : Heap) (locs1 : List Loc), va_P D vwCl (X ++ cB cy a (pWrite 8 9 1 4 row x y z σ)) H1 → va_D A (X ++ cB cy a (pWrite 8 9 1 4 row x y z σ)) → va_S A s.heap H1 locs1 → W p l e R s m args below meth c H1 locs1 cells slots Q (F0 m (pc + 3) ls (rest))) : W p l e R s m args below meth c H locs cells slots Q (F0 m pc ls (.long (z) :: .int (y) :: .int (x) :: .int (nI (row)) :: .ref (a 7) :: rest)) :=
  kgo_v (va_runVN (As := [.int (nI (row)), .int (x), .int (y), .long (z)]) (rest := rest) S (c_X1_write_inFlight l D cy a X σ row x y z hrow H.size) ⟨va_cnB 4 S.2.2.2.2 (gw_good_in wm_329) rfl rfl rfl (hN _ nc_8) (S.2.2.2.2 _ (List.mem_cons_of_mem _ wm_49)) (by decide +kernel) hR, (S.2.2.2.2 _ (List.mem_cons_of_mem _ wm_328)), (S.2.2.2.2 _ (List.mem_cons_of_mem _ wm_15))⟩ ⟨kblind nestC_ok, crecv_inFlight hK hP, kpre nestC_ok hN hK hP hD⟩ rfl rfl hsz rfl (lv_room hW) hdg hfc) hD hS hA kk
set_option maxHeartbeats 400000 in
set_option maxRecDepth 100000 in
theorem c_X1_clear_inFlight (l : Launch) (D : va_G) (cy : Nat → ClassId) (a : Nat → Nat) (X : va_W) (σ : CS) (row : Nat) (hrow : row < 512) : MetV l yX1_clear cX1_clear 2 (kRm 0 0 0) D (tyA cy) nestC [.ref (a 7), .int (nI (row))] (X ++ cB cy a σ) (X ++ cB cy a (pClear 8 1 4 row σ)) 0 0 := by
  intro sz
  refine kmet (own := RX1) (by decide) rfl (Nat.le_of_ble_eq_true rfl) (fun p e s m args below meth c S hr hlk hK hN hP hD hsz hA hnm ls hl => ?_)
  have hS : va_S (va_A (X ++ cB cy a σ) sz) s.heap s.heap [] := va_S.rf
  have hl : lv_has ls 2 [(0, .ref (a 7)), (1, .int (nI (row)))] := hl
  refine lv_aload_n S.1 S.2.1 dX1_clear_0 rfl (lv_at hl 0 rfl) ?_
  refine cf_inFlight_number S hK hP dX1_clear_1 ?_
  refine lv_iload_n S.1 S.2.1 dX1_clear_4 rfl (lv_at hl 1 rfl) ?_
  refine ca_inNumber S hK hP (j := row) (by omega) dX1_clear_5 ?_
  refine lv_if_le (tgt := 19) S.1 S.2.1 dX1_clear_6 (by decide) (fun c1 => ?_) (fun c1 => ?_)
  · refine lv_aload_n S.1 S.2.1 dX1_clear_19 rfl (lv_at hl 0 rfl) ?_
    refine cf_inFlight_number S hK hP dX1_clear_20 ?_
    refine lv_iload_n S.1 S.2.1 dX1_clear_23 rfl (lv_at hl 1 rfl) ?_
    refine lv_iconst (v := (nI 0)) S.1 S.2.1 dX1_clear_24 (by decide) ?_
    refine cs_inNumber S hK hP hD hS (j := row) (by omega) dX1_clear_25 (fun H locs hP hD hS => ?_)
    refine lv_aload_n S.1 S.2.1 dX1_clear_26 rfl (lv_at hl 0 rfl) ?_
    refine cf_inFlight_costs S hK hP dX1_clear_27 ?_
    refine lv_iload_n S.1 S.2.1 dX1_clear_30 rfl (lv_at hl 1 rfl) ?_
    refine lv_lconst (v := 0) S.1 S.2.1 dX1_clear_31 (by decide) ?_
    refine cs_inCosts S hK hP hD hS (j := row) (by omega) dX1_clear_32 (fun H locs hP hD hS => ?_)
    have e9 : pClear 8 1 4 row σ = sJ 1 row (0) (sI 8 row (nI 0) σ) := by first | (simp only [pClear, c1, reduceIte, Bool.false_eq_true, eq_self_iff_true, if_true, if_false]; done) | with_reducible rfl
    rw [e9]
    exact kret_v S hr hlk hP hD hS dX1_clear_33
  · refine lv_aload_n S.1 S.2.1 dX1_clear_9 rfl (lv_at hl 0 rfl) ?_
    refine lv_dup S.1 S.2.1 dX1_clear_10 rfl ?_
    refine cf_inFlight_count S hK hP dX1_clear_11 ?_
    refine lv_iconst (v := (nI 1)) S.1 S.2.1 dX1_clear_14 (by decide) ?_
    refine lv_isub S.1 S.2.1 dX1_clear_15 ?_
    refine cp_inFlight_count S hK hP hD hS dX1_clear_16 (fun H locs hP hD hS => ?_)
    refine lv_aload_n S.1 S.2.1 dX1_clear_19 rfl (lv_at hl 0 rfl) ?_
    refine cf_inFlight_number S hK hP dX1_clear_20 ?_
    refine lv_iload_n S.1 S.2.1 dX1_clear_23 rfl (lv_at hl 1 rfl) ?_
    refine lv_iconst (v := (nI 0)) S.1 S.2.1 dX1_clear_24 (by decide) ?_
    refine cs_inNumber S hK hP hD hS (j := row) (by omega) dX1_clear_25 (fun H locs hP hD hS => ?_)
    refine lv_aload_n S.1 S.2.1 dX1_clear_26 rfl (lv_at hl 0 rfl) ?_
    refine cf_inFlight_costs S hK hP dX1_clear_27 ?_
    refine lv_iload_n S.1 S.2.1 dX1_clear_30 rfl (lv_at hl 1 rfl) ?_
    refine lv_lconst (v := 0) S.1 S.2.1 dX1_clear_31 (by decide) ?_
    refine cs_inCosts S hK hP hD hS (j := row) (by omega) dX1_clear_32 (fun H locs hP hD hS => ?_)
    have e9 : pClear 8 1 4 row σ = sJ 1 row (0) (sI 8 row (nI 0) (sI 0 4 ((σ.1 0 4) - (nI 1)) σ)) := by first | (simp only [pClear, c1, reduceIte, Bool.false_eq_true, eq_self_iff_true, if_true, if_false]; done) | with_reducible rfl
    rw [e9]
    exact kret_v S hr hlk hP hD hS dX1_clear_33
theorem call_X1_clear_inFlight_X2 {p : Program} {l : Launch} {e : Env} {R : Room} {s : State} {m : MethodId} {args : Array Value} {below : List Frame} {meth : Method} {c : Code} {H : Heap} {locs : List Loc} {cells slots : Nat} {Q : State → Prop} {cc : ByteArray} {pc nL : Nat} {ls : Array Slot} {rest : List Value} {D : va_G} {A : Nat → Prop} {w0 : Cond} {X : va_W} {cy : Nat → ClassId} {a : Nat → Nat} {σ : CS} (S : CallFix p m c cc nL s args (w0 :: gw) RX2) (hK : va_K D vwCl (tyA cy) s) (hN : kN nestC s) (hP : va_P D vwCl (X ++ cB cy a σ) H) (hD : va_D A (X ++ cB cy a σ)) (hS : va_S A s.heap H locs) (hA : ∀ q, s.heap.size ≤ q → A q) {row : Nat} (hrow : row < 512) (hsz : ls.size = nL) (hW : (rest.map fun v => v.category).sum ≤ 8) (hR : 0 + 1 ≤ R.frames ∧ 8 + (2 + 11) + 32 * 0 ≤ R.locals) (hdg : decode cc pc = .ok (.invokevirtual 110, 3)) (hfc : cells ≤ R.cells ∧ slots ≤ R.slots)
    (kk : ∀ (H1 : Heap) (locs1 : List Loc), va_P D vwCl (X ++ cB cy a (pClear 8 1 4 row σ)) H1 → va_D A (X ++ cB cy a (pClear 8 1 4 row σ)) → va_S A s.heap H1 locs1 → W p l e R s m args below meth c H1 locs1 cells slots Q (F0 m (pc + 3) ls (rest))) : W p l e R s m args below meth c H locs cells slots Q (F0 m pc ls (.int (nI (row)) :: .ref (a 7) :: rest)) :=
  kgo_v (va_runVN (As := [.int (nI (row))]) (rest := rest) S (c_X1_clear_inFlight l D cy a X σ row hrow H.size) ⟨va_cnB 1 S.2.2.2.2 (gw_good_in wm_364) rfl rfl rfl (hN _ nc_9) (S.2.2.2.2 _ (List.mem_cons_of_mem _ wm_49)) (by decide +kernel) hR, (S.2.2.2.2 _ (List.mem_cons_of_mem _ wm_363)), (S.2.2.2.2 _ (List.mem_cons_of_mem _ wm_21))⟩ ⟨kblind nestC_ok, crecv_inFlight hK hP, kpre nestC_ok hN hK hP hD⟩ rfl rfl hsz rfl (lv_room hW) hdg hfc) hD hS hA kk
theorem call_X1_clear_inFlight_X1 {p : Program} {l : Launch} {e : Env} {R : Room} {s : State} {m : MethodId} {args : Array Value} {below : List Frame} {meth : Method} {c : Code} {H : Heap} {locs : List Loc} {cells slots : Nat} {Q : State → Prop} {cc : ByteArray} {pc nL : Nat} {ls : Array Slot} {rest : List Value} {D : va_G} {A : Nat → Prop} {w0 : Cond} {X : va_W} {cy : Nat → ClassId} {a : Nat → Nat} {σ : CS} (S : CallFix p m c cc nL s args (w0 :: gw) RX1) (hK : va_K D vwCl (tyA cy) s) (hN : kN nestC s) (hP : va_P D vwCl (X ++ cB cy a σ) H) (hD : va_D A (X ++ cB cy a σ)) (hS : va_S A s.heap H locs) (hA : ∀ q, s.heap.size ≤ q → A q) {row : Nat} (hrow : row < 512) (hsz : ls.size = nL) (hW : (rest.map fun v => v.category).sum ≤ 8) (hR : 0 + 1 ≤ R.frames ∧ 8 + (2 + 11) + 32 * 0 ≤ R.locals) (hdg : decode cc pc = .ok (.invokevirtual 30, 3)) (hfc : cells ≤ R.cells ∧ slots ≤ R.slots)
    (kk : ∀ (H1 : Heap) (locs1 : List Loc), va_P D vwCl (X ++ cB cy a (pClear 8 1 4 row σ)) H1 → va_D A (X ++ cB cy a (pClear 8 1 4 row σ)) → va_S A s.heap H1 locs1 → W p l e R s m args below meth c H1 locs1 cells slots Q (F0 m (pc + 3) ls (rest))) : W p l e R s m args below meth c H locs cells slots Q (F0 m pc ls (.int (nI (row)) :: .ref (a 7) :: rest)) :=
  kgo_v (va_runV (As := [.int (nI (row))]) (rest := rest) S (c_X1_clear_inFlight l D cy a X σ row hrow H.size) (cwV 1 S.2.2.2.2 (gw_good_1 wm_408 (gw_good_1 wm_363 (gw_good_1 wm_21 (gw_good_1 wm_49 (gw_good_in wm_364))))) rfl rfl rfl (by decide +kernel) hR) ⟨kblind nestC_ok, crecv_inFlight hK hP, kpre nestC_ok hN hK hP hD⟩ rfl rfl hsz rfl (lv_room hW) hdg hfc) hD hS hA kk
set_option maxHeartbeats 400000 in
set_option maxRecDepth 100000 in
theorem c_X1_costFor_inFlight (l : Launch) (D : va_G) (cy : Nat → ClassId) (a : Nat → Nat) (X : va_W) (σ : CS) (row : Nat) (w : Nat) (hrow : row < 512) : MetI l yX1_costFor cX1_costFor 3 .int (kRm 0 0 0) D (tyA cy) nestC [.ref (a 7), .int (nI (row)), .int (nI (w))] (X ++ cB cy a σ) (X ++ cB cy a σ) (costF (σ.2 1 row) w) 0 0 := by
  intro sz
  refine kmet (own := RX1) (by decide) rfl (Nat.le_of_ble_eq_true rfl) (fun p e s m args below meth c S hr hlk hK hN hP hD hsz hA hnm ls hl => ?_)
  have hS : va_S (va_A (X ++ cB cy a σ) sz) s.heap s.heap [] := va_S.rf
  have hl : lv_has ls 3 [(0, .ref (a 7)), (1, .int (nI (row))), (2, .int (nI (w)))] := hl
  refine lv_aload_n S.1 S.2.1 dX1_costFor_0 rfl (lv_at hl 0 rfl) ?_
  refine cf_inFlight_costs S hK hP dX1_costFor_1 ?_
  refine lv_iload_n S.1 S.2.1 dX1_costFor_4 rfl (lv_at hl 1 rfl) ?_
  refine ca_inCosts S hK hP (j := row) (by omega) dX1_costFor_5 ?_
  refine lv_bipush (v := (nI 6)) S.1 S.2.1 dX1_costFor_6 (by decide) ?_
  refine lv_iload_n S.1 S.2.1 dX1_costFor_8 rfl (lv_at hl 2 rfl) ?_
  refine lv_imul S.1 S.2.1 dX1_costFor_9 ?_
  refine k_top (pk_mul _ _) ?_
  refine lv_lshr (v := (σ.2 1 row) >>> (((nI (6 * w))).toInt64 &&& 63)) S.1 S.2.1 dX1_costFor_10 rfl ?_
  refine lv_l2i (v := ((σ.2 1 row) >>> (((nI (6 * w))).toInt64 &&& 63)).toInt32) S.1 S.2.1 dX1_costFor_11 rfl ?_
  refine lv_bipush (v := (nI 63)) S.1 S.2.1 dX1_costFor_12 (by decide) ?_
  refine lv_iand S.1 S.2.1 dX1_costFor_14 ?_
  exact kret_i S hr hlk hP hD hS (by first | (simp only [costF, reduceIte, Bool.false_eq_true, eq_self_iff_true, if_true, if_false]; done) | with_reducible rfl) dX1_costFor_15
theorem call_X1_costFor_inFlight_X2 {p : Program} {l : Launch} {e : Env} {R : Room} {s : State} {m : MethodId} {args : Array Value} {below : List Frame} {meth : Method} {c : Code} {H : Heap} {locs : List Loc} {cells slots : Nat} {Q : State → Prop} {cc : ByteArray} {pc nL : Nat} {ls : Array Slot} {rest : List Value} {D : va_G} {A : Nat → Prop} {w0 : Cond} {X : va_W} {cy : Nat → ClassId} {a : Nat → Nat} {σ : CS} (S : CallFix p m c cc nL s args (w0 :: gw) RX2) (hK : va_K D vwCl (tyA cy) s) (hN : kN nestC s) (hP : va_P D vwCl (X ++ cB cy a σ) H) (hD : va_D A (X ++ cB cy a σ)) (hS : va_S A s.heap H locs) (hA : ∀ q, s.heap.size ≤ q → A q) {row : Nat} {w : Nat} (hrow : row < 512) (hsz : ls.size = nL) (hW : (rest.map fun v => v.category).sum ≤ 8) (hR : 0 + 1 ≤ R.frames ∧ 8 + (3 + 11) + 32 * 0 ≤ R.locals) (hdg : decode cc pc = .ok (.invokevirtual 143, 3)) (hfc : cells ≤ R.cells ∧ slots ≤ R.slots)
    (kk : ∀ (H1 : Heap) (locs1 : List Loc), va_P D vwCl (X ++ cB cy a σ) H1 → va_D A (X ++ cB cy a σ) → va_S A s.heap H1 locs1 → W p l e R s m args below meth c H1 locs1 cells slots Q (F0 m (pc + 3) ls (.int (costF (σ.2 1 row) w) :: rest))) : W p l e R s m args below meth c H locs cells slots Q (F0 m pc ls (.int (nI (w)) :: .int (nI (row)) :: .ref (a 7) :: rest)) :=
  kgo_i (va_runVN (As := [.int (nI (row)), .int (nI (w))]) (rest := rest) S (c_X1_costFor_inFlight l D cy a X σ row w hrow H.size) ⟨va_cnB 2 S.2.2.2.2 (gw_good_in wm_151) rfl rfl rfl (hN _ nc_6) (S.2.2.2.2 _ (List.mem_cons_of_mem _ wm_49)) (by decide +kernel) hR, (S.2.2.2.2 _ (List.mem_cons_of_mem _ wm_150)), (S.2.2.2.2 _ (List.mem_cons_of_mem _ wm_1))⟩ ⟨kblind nestC_ok, crecv_inFlight hK hP, kpre nestC_ok hN hK hP hD⟩ rfl rfl hsz rfl (lv_room hW) hdg hfc) hD hS hA kk
theorem call_X1_costFor_inFlight_X1 {p : Program} {l : Launch} {e : Env} {R : Room} {s : State} {m : MethodId} {args : Array Value} {below : List Frame} {meth : Method} {c : Code} {H : Heap} {locs : List Loc} {cells slots : Nat} {Q : State → Prop} {cc : ByteArray} {pc nL : Nat} {ls : Array Slot} {rest : List Value} {D : va_G} {A : Nat → Prop} {w0 : Cond} {X : va_W} {cy : Nat → ClassId} {a : Nat → Nat} {σ : CS} (S : CallFix p m c cc nL s args (w0 :: gw) RX1) (hK : va_K D vwCl (tyA cy) s) (hN : kN nestC s) (hP : va_P D vwCl (X ++ cB cy a σ) H) (hD : va_D A (X ++ cB cy a σ)) (hS : va_S A s.heap H locs) (hA : ∀ q, s.heap.size ≤ q → A q) {row : Nat} {w : Nat} (hrow : row < 512) (hsz : ls.size = nL) (hW : (rest.map fun v => v.category).sum ≤ 8) (hR : 0 + 1 ≤ R.frames ∧ 8 + (3 + 11) + 32 * 0 ≤ R.locals) (hdg : decode cc pc = .ok (.invokevirtual 26, 3)) (hfc : cells ≤ R.cells ∧ slots ≤ R.slots)
    (kk : ∀ (H1 : Heap) (locs1 : List Loc), va_P D vwCl (X ++ cB cy a σ) H1 → va_D A (X ++ cB cy a σ) → va_S A s.heap H1 locs1 → W p l e R s m args below meth c H1 locs1 cells slots Q (F0 m (pc + 3) ls (.int (costF (σ.2 1 row) w) :: rest))) : W p l e R s m args below meth c H locs cells slots Q (F0 m pc ls (.int (nI (w)) :: .int (nI (row)) :: .ref (a 7) :: rest)) :=
  kgo_i (va_runV (As := [.int (nI (row)), .int (nI (w))]) (rest := rest) S (c_X1_costFor_inFlight l D cy a X σ row w hrow H.size) (cwV 2 S.2.2.2.2 (gw_good_1 wm_148 (gw_good_1 wm_150 (gw_good_1 wm_1 (gw_good_1 wm_49 (gw_good_in wm_151))))) rfl rfl rfl (by decide +kernel) hR) ⟨kblind nestC_ok, crecv_inFlight hK hP, kpre nestC_ok hN hK hP hD⟩ rfl rfl hsz rfl (lv_room hW) hdg hfc) hD hS hA kk
set_option maxHeartbeats 400000 in
set_option maxRecDepth 100000 in
theorem c_X1_costCount_inFlight (l : Launch) (D : va_G) (cy : Nat → ClassId) (a : Nat → Nat) (X : va_W) (σ : CS) (row : Nat) (hrow : row < 512) : MetI l yX1_costCount cX1_costCount 4 .int (kRm 1 0 0) D (tyA cy) nestC [.ref (a 7), .int (nI (row))] (X ++ cB cy a σ) (X ++ cB cy a σ) (cntF (σ.2 1 row)) 0 0 := by
  intro sz
  refine kmet (own := RX1) (by decide) rfl (Nat.le_of_ble_eq_true rfl) (fun p e s m args below meth c S hr hlk hK hN hP hD hsz hA hnm ls hl => ?_)
  have hS : va_S (va_A (X ++ cB cy a σ) sz) s.heap s.heap [] := va_S.rf
  have hl : lv_has ls 4 [(0, .ref (a 7)), (1, .int (nI (row)))] := hl
  refine lv_iconst (v := (nI 0)) S.1 S.2.1 dX1_costCount_0 (by decide) ?_
  refine lv_istore_n (lv' := [(2, .int (nI 0)), (0, .ref (a 7)), (1, .int (nI (row)))]) S.1 S.2.1 dX1_costCount_1 rfl hl (by decide) rfl (fun ls hl => ?_)
  refine lv_iconst (v := (nI 0)) S.1 S.2.1 dX1_costCount_2 (by decide) ?_
  refine lv_istore_n (lv' := [(3, .int (nI 0)), (2, .int (nI 0)), (0, .ref (a 7)), (1, .int (nI (row)))]) S.1 S.2.1 dX1_costCount_3 rfl hl (by decide) rfl (fun ls hl => ?_)
  have lp1 : ∀ (n1 i1 : Nat)  (x1_0 : Int32), i1 + n1 = 8 → itr (fCnt (σ.2 1 row)) n1 i1 x1_0 = itr (fCnt (σ.2 1 row)) 8 0 (nI 0) → ∀ (H : Heap) (locs : List Loc), va_P D vwCl (X ++ cB cy a σ) H → va_D (va_A (X ++ cB cy a σ) sz) (X ++ cB cy a σ) → va_S (va_A (X ++ cB cy a σ) sz) s.heap H locs → ∀ ls : Array Slot, lv_has ls 4 [(3, .int (nI (i1))), (2, .int (x1_0)), (0, .ref (a 7)), (1, .int (nI (row)))] → W p l e (kRm 1 0 0) s m args below meth c H locs 0 0 (MQ below (kQi D (X ++ cB cy a σ) (X ++ cB cy a σ) (cntF (σ.2 1 row)) sz) args s 0 0 (va_A (X ++ cB cy a σ) sz)) (F0 m 4 ls []) := by
    intro n1
    induction n1 with
    | zero =>
      intro i1 x1_0 hi1 he1 H locs hP hD hS ls hl
      have hi1 : i1 = 8 := by omega
      have he1 : x1_0 = itr (fCnt (σ.2 1 row)) 8 0 (nI 0) := he1
      refine lv_iload_n S.1 S.2.1 dX1_costCount_4 rfl (lv_at hl 0 rfl) ?_
      refine lv_bipush (v := (nI 8)) S.1 S.2.1 dX1_costCount_5 (by decide) ?_
      refine lv_icmp_ge (tgt := 28) S.1 S.2.1 dX1_costCount_7 (by decide) (fun _ => ?_) (fun c => absurd (nI_le (by omega) (by omega)) c)
      refine lv_iload_n S.1 S.2.1 dX1_costCount_28 rfl (lv_at hl 1 rfl) ?_
      exact kret_i S hr hlk hP hD hS (by first | (simp only [cntF, ← he1, reduceIte, Bool.false_eq_true, eq_self_iff_true, if_true, if_false]; done) | with_reducible rfl) dX1_costCount_29
    | succ n1 ih1 =>
      intro i1 x1_0 hi1 he1 H locs hP hD hS ls hl
      have hlt1 : i1 < 8 := by omega
      refine lv_iload_n S.1 S.2.1 dX1_costCount_4 rfl (lv_at hl 0 rfl) ?_
      refine lv_bipush (v := (nI 8)) S.1 S.2.1 dX1_costCount_5 (by decide) ?_
      refine lv_icmp_ge (tgt := 28) S.1 S.2.1 dX1_costCount_7 (by decide) (fun c => absurd c (nI_ge (by omega) (by omega))) (fun _ => ?_)
      refine lv_aload_n S.1 S.2.1 dX1_costCount_10 rfl (lv_at hl 2 rfl) ?_
      refine lv_iload_n S.1 S.2.1 dX1_costCount_11 rfl (lv_at hl 3 rfl) ?_
      refine lv_iload_n S.1 S.2.1 dX1_costCount_12 rfl (lv_at hl 0 rfl) ?_
      refine call_X1_costFor_inFlight_X1 S hK hN hP hD hS hA (row := row) (w := i1) (by omega) hl.1 (Nat.le_of_ble_eq_true rfl) ⟨Nat.le_of_ble_eq_true rfl, Nat.le_of_ble_eq_true rfl⟩ dX1_costCount_13 ⟨Nat.le_refl _, Nat.le_refl _⟩ (fun H locs hP hD hS => ?_)
      refine lv_if_le (tgt := 22) S.1 S.2.1 dX1_costCount_16 (by decide) (fun c4 => ?_) (fun c4 => ?_)
      · refine lv_iinc (v := (nI (i1 + 1))) (lv' := [(3, .int (nI (i1 + 1))), (2, .int (x1_0)), (0, .ref (a 7)), (1, .int (nI (row)))]) S.1 S.2.1 dX1_costCount_22 hl (k := 0) rfl (nI_add _ 1) (by decide) rfl (fun ls hl => ?_)
        refine lv_goto (tgt := 4) S.1 S.2.1 dX1_costCount_25 (by decide) ?_
        exact ih1 (i1 + 1)  ((x1_0)) (by omega) (itr_step he1 (by first | (simp only [fCnt, c4, reduceIte, Bool.false_eq_true, eq_self_iff_true, if_true, if_false]; done) | with_reducible rfl)) _ _ hP hD hS _ (lv_sub hl [0, 1, 2, 3] rfl)
      · refine lv_iinc (v := ((x1_0) + (Int32.ofInt (1)))) (lv' := [(2, .int ((x1_0) + (Int32.ofInt (1)))), (3, .int (nI (i1))), (0, .ref (a 7)), (1, .int (nI (row)))]) S.1 S.2.1 dX1_costCount_19 hl (k := 1) rfl rfl (by decide) rfl (fun ls hl => ?_)
        refine lv_iinc (v := (nI (i1 + 1))) (lv' := [(3, .int (nI (i1 + 1))), (2, .int ((x1_0) + (Int32.ofInt (1)))), (0, .ref (a 7)), (1, .int (nI (row)))]) S.1 S.2.1 dX1_costCount_22 hl (k := 1) rfl (nI_add _ 1) (by decide) rfl (fun ls hl => ?_)
        refine lv_goto (tgt := 4) S.1 S.2.1 dX1_costCount_25 (by decide) ?_
        exact ih1 (i1 + 1)  (((x1_0) + (Int32.ofInt (1)))) (by omega) (itr_step he1 (by first | (simp only [fCnt, c4, reduceIte, Bool.false_eq_true, eq_self_iff_true, if_true, if_false]; done) | with_reducible rfl)) _ _ hP hD hS _ (lv_sub hl [0, 1, 2, 3] rfl)
  exact lp1 8 0  ((nI 0)) (by omega) rfl _ _ hP hD hS _ (lv_sub hl [0, 1, 2, 3] rfl)
theorem call_X1_costCount_inFlight {p : Program} {l : Launch} {e : Env} {R : Room} {s : State} {m : MethodId} {args : Array Value} {below : List Frame} {meth : Method} {c : Code} {H : Heap} {locs : List Loc} {cells slots : Nat} {Q : State → Prop} {cc : ByteArray} {pc nL : Nat} {ls : Array Slot} {rest : List Value} {D : va_G} {A : Nat → Prop} {w0 : Cond} {X : va_W} {cy : Nat → ClassId} {a : Nat → Nat} {σ : CS} (S : CallFix p m c cc nL s args (w0 :: gw) RX2) (hK : va_K D vwCl (tyA cy) s) (hN : kN nestC s) (hP : va_P D vwCl (X ++ cB cy a σ) H) (hD : va_D A (X ++ cB cy a σ)) (hS : va_S A s.heap H locs) (hA : ∀ q, s.heap.size ≤ q → A q) {row : Nat} (hrow : row < 512) (hsz : ls.size = nL) (hW : (rest.map fun v => v.category).sum ≤ 8) (hR : 1 + 1 ≤ R.frames ∧ 8 + (4 + 11) + 32 * 1 ≤ R.locals) (hdg : decode cc pc = .ok (.invokevirtual 139, 3)) (hfc : cells ≤ R.cells ∧ slots ≤ R.slots)
    (kk : ∀ (H1 : Heap) (locs1 : List Loc), va_P D vwCl (X ++ cB cy a σ) H1 → va_D A (X ++ cB cy a σ) → va_S A s.heap H1 locs1 → W p l e R s m args below meth c H1 locs1 cells slots Q (F0 m (pc + 3) ls (.int (cntF (σ.2 1 row)) :: rest))) : W p l e R s m args below meth c H locs cells slots Q (F0 m pc ls (.int (nI (row)) :: .ref (a 7) :: rest)) :=
  kgo_i (va_runVN (As := [.int (nI (row))]) (rest := rest) S (c_X1_costCount_inFlight l D cy a X σ row hrow H.size) ⟨va_cnB 1 S.2.2.2.2 (gw_good_in wm_147) rfl rfl rfl (hN _ nc_5) (S.2.2.2.2 _ (List.mem_cons_of_mem _ wm_49)) (by decide +kernel) hR, (S.2.2.2.2 _ (List.mem_cons_of_mem _ wm_146)), (S.2.2.2.2 _ (List.mem_cons_of_mem _ wm_0))⟩ ⟨kblind nestC_ok, crecv_inFlight hK hP, kpre nestC_ok hN hK hP hD⟩ rfl rfl hsz rfl (lv_room hW) hdg hfc) hD hS hA kk
set_option maxHeartbeats 400000 in
set_option maxRecDepth 100000 in
theorem c_X1_packed (l : Launch) (D : va_G) (cy : Nat → ClassId) (a : Nat → Nat) (X : va_W) (σ : CS) (x : Int32) (w : Nat)  : MetL l yX1_packed cX1_packed 2 (kRm 0 0 0) D (tyA cy) nestC [.int (x), .int (nI (w))] (X ++ cB cy a σ) (X ++ cB cy a σ) (packF x w) 0 0 := by
  intro sz
  refine kmet (own := RX1) (by decide) rfl (Nat.le_of_ble_eq_true rfl) (fun p e s m args below meth c S hr hlk hK hN hP hD hsz hA hnm ls hl => ?_)
  have hS : va_S (va_A (X ++ cB cy a σ) sz) s.heap s.heap [] := va_S.rf
  have hl : lv_has ls 2 [(0, .int (x)), (1, .int (nI (w)))] := hl
  refine lv_iload_n S.1 S.2.1 dX1_packed_0 rfl (lv_at hl 0 rfl) ?_
  refine lv_i2l (v := (x).toInt64) S.1 S.2.1 dX1_packed_1 rfl ?_
  refine lv_bipush (v := (nI 6)) S.1 S.2.1 dX1_packed_2 (by decide) ?_
  refine lv_iload_n S.1 S.2.1 dX1_packed_4 rfl (lv_at hl 1 rfl) ?_
  refine lv_imul S.1 S.2.1 dX1_packed_5 ?_
  refine k_top (pk_mul _ _) ?_
  refine lv_lshl (v := ((x).toInt64) <<< (((nI (6 * w))).toInt64 &&& 63)) S.1 S.2.1 dX1_packed_6 rfl ?_
  exact kret_l S hr hlk hP hD hS (by first | (simp only [packF, reduceIte, Bool.false_eq_true, eq_self_iff_true, if_true, if_false]; done) | with_reducible rfl) dX1_packed_7
theorem call_X1_packed {p : Program} {l : Launch} {e : Env} {R : Room} {s : State} {m : MethodId} {args : Array Value} {below : List Frame} {meth : Method} {c : Code} {H : Heap} {locs : List Loc} {cells slots : Nat} {Q : State → Prop} {cc : ByteArray} {pc nL : Nat} {ls : Array Slot} {rest : List Value} {D : va_G} {A : Nat → Prop} {w0 : Cond} {X : va_W} {cy : Nat → ClassId} {a : Nat → Nat} {σ : CS} (S : CallFix p m c cc nL s args (w0 :: gw) RX2) (hK : va_K D vwCl (tyA cy) s) (hN : kN nestC s) (hP : va_P D vwCl (X ++ cB cy a σ) H) (hD : va_D A (X ++ cB cy a σ)) (hS : va_S A s.heap H locs) (hA : ∀ q, s.heap.size ≤ q → A q) {x : Int32} {w : Nat}  (hsz : ls.size = nL) (hW : (rest.map fun v => v.category).sum ≤ 8) (hR : 0 + 1 ≤ R.frames ∧ 8 + (2 + 11) + 32 * 0 ≤ R.locals) (hdg : decode cc pc = .ok (.invokestatic 210, 3)) (hfc : cells ≤ R.cells ∧ slots ≤ R.slots)
    (kk : ∀ (H1 : Heap) (locs1 : List Loc), va_P D vwCl (X ++ cB cy a σ) H1 → va_D A (X ++ cB cy a σ) → va_S A s.heap H1 locs1 → W p l e R s m args below meth c H1 locs1 cells slots Q (F0 m (pc + 3) ls (.long (packF x w) :: rest))) : W p l e R s m args below meth c H locs cells slots Q (F0 m pc ls (.int (nI (w)) :: .int (x) :: rest)) :=
  kgo_l (va_runSN (As := [.int (x), .int (nI (w))]) (rest := rest) S (c_X1_packed l D cy a X σ x w  H.size) ⟨va_cnB 2 S.2.2.2.2 (gw_good_in wm_325) rfl rfl rfl (hN _ nc_7) (S.2.2.2.2 _ (List.mem_cons_of_mem _ wm_49)) (by decide +kernel) hR, (S.2.2.2.2 _ (List.mem_cons_of_mem _ wm_324)), trivial⟩ ⟨kblind nestC_ok, kpre nestC_ok hN hK hP hD⟩ rfl rfl hsz rfl (lv_room hW) hdg hfc) hD hS hA kk
set_option maxHeartbeats 400000 in
set_option maxRecDepth 100000 in
theorem c_X2_isNode (l : Launch) (D : va_G) (cy : Nat → ClassId) (a : Nat → Nat) (X : va_W) (σ : CS) (x : Int32)  : MetI l yX2_isNode cX2_isNode 1 .boolean (kRm 0 0 0) D (tyA cy) nestC [.int (x)] (X ++ cB cy a σ) (X ++ cB cy a σ) (b2i (isN x)) 0 0 := by
  intro sz
  refine kmet (own := RX2) (by decide) rfl (Nat.le_of_ble_eq_true rfl) (fun p e s m args below meth c S hr hlk hK hN hP hD hsz hA hnm ls hl => ?_)
  have hS : va_S (va_A (X ++ cB cy a σ) sz) s.heap s.heap [] := va_S.rf
  have hl : lv_has ls 1 [(0, .int (x))] := hl
  refine lv_iload_n S.1 S.2.1 dX2_isNode_0 rfl (lv_at hl 0 rfl) ?_
  refine lv_if_lt (tgt := 14) S.1 S.2.1 dX2_isNode_1 (by decide) (fun c1 => ?_) (fun c1 => ?_)
  · refine lv_iconst (v := (nI 0)) S.1 S.2.1 dX2_isNode_14 (by decide) ?_
    exact kret_z S hr hlk hP hD hS (by first | rfl | exact b2i_nar _) (by rw [show isN x = false from (by first | (simp only [isN, c1, reduceIte, Bool.false_eq_true, eq_self_iff_true, if_true, if_false]; done) | with_reducible rfl)]; decide) dX2_isNode_15
  · refine lv_iload_n S.1 S.2.1 dX2_isNode_4 rfl (lv_at hl 0 rfl) ?_
    refine lv_bipush (v := (nI 8)) S.1 S.2.1 dX2_isNode_5 (by decide) ?_
    refine lv_icmp_ge (tgt := 14) S.1 S.2.1 dX2_isNode_7 (by decide) (fun c2 => ?_) (fun c2 => ?_)
    · refine lv_iconst (v := (nI 0)) S.1 S.2.1 dX2_isNode_14 (by decide) ?_
      exact kret_z S hr hlk hP hD hS (by first | rfl | exact b2i_nar _) (by rw [show isN x = false from (by first | (simp only [isN, c1, c2, reduceIte, Bool.false_eq_true, eq_self_iff_true, if_true, if_false]; done) | with_reducible rfl)]; decide) dX2_isNode_15
    · refine lv_iconst (v := (nI 1)) S.1 S.2.1 dX2_isNode_10 (by decide) ?_
      refine lv_goto (tgt := 15) S.1 S.2.1 dX2_isNode_11 (by decide) ?_
      exact kret_z S hr hlk hP hD hS (by first | rfl | exact b2i_nar _) (by rw [show isN x = true from (by first | (simp only [isN, c1, c2, reduceIte, Bool.false_eq_true, eq_self_iff_true, if_true, if_false]; done) | with_reducible rfl)]; decide) dX2_isNode_15
theorem call_X2_isNode {p : Program} {l : Launch} {e : Env} {R : Room} {s : State} {m : MethodId} {args : Array Value} {below : List Frame} {meth : Method} {c : Code} {H : Heap} {locs : List Loc} {cells slots : Nat} {Q : State → Prop} {cc : ByteArray} {pc nL : Nat} {ls : Array Slot} {rest : List Value} {D : va_G} {A : Nat → Prop} {w0 : Cond} {X : va_W} {cy : Nat → ClassId} {a : Nat → Nat} {σ : CS} (S : CallFix p m c cc nL s args (w0 :: gw) RX2) (hK : va_K D vwCl (tyA cy) s) (hN : kN nestC s) (hP : va_P D vwCl (X ++ cB cy a σ) H) (hD : va_D A (X ++ cB cy a σ)) (hS : va_S A s.heap H locs) (hA : ∀ q, s.heap.size ≤ q → A q) {x : Int32}  (hsz : ls.size = nL) (hW : (rest.map fun v => v.category).sum ≤ 8) (hR : 0 + 1 ≤ R.frames ∧ 8 + (1 + 11) + 32 * 0 ≤ R.locals) (hdg : decode cc pc = .ok (.invokestatic 50, 3)) (hfc : cells ≤ R.cells ∧ slots ≤ R.slots)
    (kk : ∀ (H1 : Heap) (locs1 : List Loc), va_P D vwCl (X ++ cB cy a σ) H1 → va_D A (X ++ cB cy a σ) → va_S A s.heap H1 locs1 → W p l e R s m args below meth c H1 locs1 cells slots Q (F0 m (pc + 3) ls (.int (b2i (isN x)) :: rest))) : W p l e R s m args below meth c H locs cells slots Q (F0 m pc ls (.int (x) :: rest)) :=
  kgo_i (va_runS (As := [.int (x)]) (rest := rest) S (c_X2_isNode l D cy a X σ x  H.size) (cwS 1 S.2.2.2.2 (gw_good_1 wm_138 (gw_good_1 wm_139 (gw_good_1 wm_48 (gw_good_in wm_140)))) rfl rfl rfl (by decide +kernel) hR) ⟨kblind nestC_ok, kpre nestC_ok hN hK hP hD⟩ rfl rfl hsz rfl (lv_room hW) hdg hfc) hD hS hA kk
set_option maxHeartbeats 400000 in
set_option maxRecDepth 100000 in
theorem c_X2_pair (l : Launch) (D : va_G) (cy : Nat → ClassId) (a : Nat → Nat) (X : va_W) (σ : CS) (u : Nat) (v : Nat)  : MetI l yX2_pair cX2_pair 2 .int (kRm 0 0 0) D (tyA cy) nestC [.int (nI (u)), .int (nI (v))] (X ++ cB cy a σ) (X ++ cB cy a σ) (nI (u * 8 + v)) 0 0 := by
  intro sz
  refine kmet (own := RX2) (by decide) rfl (Nat.le_of_ble_eq_true rfl) (fun p e s m args below meth c S hr hlk hK hN hP hD hsz hA hnm ls hl => ?_)
  have hS : va_S (va_A (X ++ cB cy a σ) sz) s.heap s.heap [] := va_S.rf
  have hl : lv_has ls 2 [(0, .int (nI (u))), (1, .int (nI (v)))] := hl
  refine lv_iload_n S.1 S.2.1 dX2_pair_0 rfl (lv_at hl 0 rfl) ?_
  refine lv_bipush (v := (nI 8)) S.1 S.2.1 dX2_pair_1 (by decide) ?_
  refine lv_imul S.1 S.2.1 dX2_pair_3 ?_
  refine k_top (pk_mul _ _) ?_
  refine lv_iload_n S.1 S.2.1 dX2_pair_4 rfl (lv_at hl 1 rfl) ?_
  refine lv_iadd S.1 S.2.1 dX2_pair_5 ?_
  refine k_top (nI_add _ _) ?_
  exact kret_i S hr hlk hP hD hS (by first | (simp only [u, reduceIte, Bool.false_eq_true, eq_self_iff_true, if_true, if_false]; done) | with_reducible rfl) dX2_pair_6
theorem call_X2_pair {p : Program} {l : Launch} {e : Env} {R : Room} {s : State} {m : MethodId} {args : Array Value} {below : List Frame} {meth : Method} {c : Code} {H : Heap} {locs : List Loc} {cells slots : Nat} {Q : State → Prop} {cc : ByteArray} {pc nL : Nat} {ls : Array Slot} {rest : List Value} {D : va_G} {A : Nat → Prop} {w0 : Cond} {X : va_W} {cy : Nat → ClassId} {a : Nat → Nat} {σ : CS} (S : CallFix p m c cc nL s args (w0 :: gw) RX2) (hK : va_K D vwCl (tyA cy) s) (hN : kN nestC s) (hP : va_P D vwCl (X ++ cB cy a σ) H) (hD : va_D A (X ++ cB cy a σ)) (hS : va_S A s.heap H locs) (hA : ∀ q, s.heap.size ≤ q → A q) {u : Nat} {v : Nat}  (hsz : ls.size = nL) (hW : (rest.map fun v => v.category).sum ≤ 8) (hR : 0 + 1 ≤ R.frames ∧ 8 + (2 + 11) + 32 * 0 ≤ R.locals) (hdg : decode cc pc = .ok (.invokestatic 86, 3)) (hfc : cells ≤ R.cells ∧ slots ≤ R.slots)
    (kk : ∀ (H1 : Heap) (locs1 : List Loc), va_P D vwCl (X ++ cB cy a σ) H1 → va_D A (X ++ cB cy a σ) → va_S A s.heap H1 locs1 → W p l e R s m args below meth c H1 locs1 cells slots Q (F0 m (pc + 3) ls (.int (nI (u * 8 + v)) :: rest))) : W p l e R s m args below meth c H locs cells slots Q (F0 m pc ls (.int (nI (v)) :: .int (nI (u)) :: rest)) :=
  kgo_i (va_runS (As := [.int (nI (u)), .int (nI (v))]) (rest := rest) S (c_X2_pair l D cy a X σ u v  H.size) (cwS 2 S.2.2.2.2 (gw_good_1 wm_201 (gw_good_1 wm_202 (gw_good_1 wm_48 (gw_good_in wm_203)))) rfl rfl rfl (by decide +kernel) hR) ⟨kblind nestC_ok, kpre nestC_ok hN hK hP hD⟩ rfl rfl hsz rfl (lv_room hW) hdg hfc) hD hS hA kk
set_option maxHeartbeats 400000 in
set_option maxRecDepth 100000 in
theorem c_X2_knownRow (l : Launch) (D : va_G) (cy : Nat → ClassId) (a : Nat → Nat) (X : va_W) (σ : CS) (u : Nat) (v : Nat)  : MetI l yX2_knownRow cX2_knownRow 2 .int (kRm 0 0 0) D (tyA cy) nestC [.int (nI (u)), .int (nI (v))] (X ++ cB cy a σ) (X ++ cB cy a σ) (nI (u * 8 + v)) 0 0 := by
  intro sz
  refine kmet (own := RX2) (by decide) rfl (Nat.le_of_ble_eq_true rfl) (fun p e s m args below meth c S hr hlk hK hN hP hD hsz hA hnm ls hl => ?_)
  have hS : va_S (va_A (X ++ cB cy a σ) sz) s.heap s.heap [] := va_S.rf
  have hl : lv_has ls 2 [(0, .int (nI (u))), (1, .int (nI (v)))] := hl
  refine lv_iload_n S.1 S.2.1 dX2_knownRow_0 rfl (lv_at hl 0 rfl) ?_
  refine lv_bipush (v := (nI 8)) S.1 S.2.1 dX2_knownRow_1 (by decide) ?_
  refine lv_imul S.1 S.2.1 dX2_knownRow_3 ?_
  refine k_top (pk_mul _ _) ?_
  refine lv_iload_n S.1 S.2.1 dX2_knownRow_4 rfl (lv_at hl 1 rfl) ?_
  refine lv_iadd S.1 S.2.1 dX2_knownRow_5 ?_
  refine k_top (nI_add _ _) ?_
  exact kret_i S hr hlk hP hD hS (by first | (simp only [u, reduceIte, Bool.false_eq_true, eq_self_iff_true, if_true, if_false]; done) | with_reducible rfl) dX2_knownRow_6
theorem call_X2_knownRow {p : Program} {l : Launch} {e : Env} {R : Room} {s : State} {m : MethodId} {args : Array Value} {below : List Frame} {meth : Method} {c : Code} {H : Heap} {locs : List Loc} {cells slots : Nat} {Q : State → Prop} {cc : ByteArray} {pc nL : Nat} {ls : Array Slot} {rest : List Value} {D : va_G} {A : Nat → Prop} {w0 : Cond} {X : va_W} {cy : Nat → ClassId} {a : Nat → Nat} {σ : CS} (S : CallFix p m c cc nL s args (w0 :: gw) RX2) (hK : va_K D vwCl (tyA cy) s) (hN : kN nestC s) (hP : va_P D vwCl (X ++ cB cy a σ) H) (hD : va_D A (X ++ cB cy a σ)) (hS : va_S A s.heap H locs) (hA : ∀ q, s.heap.size ≤ q → A q) {u : Nat} {v : Nat}  (hsz : ls.size = nL) (hW : (rest.map fun v => v.category).sum ≤ 8) (hR : 0 + 1 ≤ R.frames ∧ 8 + (2 + 11) + 32 * 0 ≤ R.locals) (hdg : decode cc pc = .ok (.invokestatic 107, 3)) (hfc : cells ≤ R.cells ∧ slots ≤ R.slots)
    (kk : ∀ (H1 : Heap) (locs1 : List Loc), va_P D vwCl (X ++ cB cy a σ) H1 → va_D A (X ++ cB cy a σ) → va_S A s.heap H1 locs1 → W p l e R s m args below meth c H1 locs1 cells slots Q (F0 m (pc + 3) ls (.int (nI (u * 8 + v)) :: rest))) : W p l e R s m args below meth c H locs cells slots Q (F0 m pc ls (.int (nI (v)) :: .int (nI (u)) :: rest)) :=
  kgo_i (va_runS (As := [.int (nI (u)), .int (nI (v))]) (rest := rest) S (c_X2_knownRow l D cy a X σ u v  H.size) (cwS 2 S.2.2.2.2 (gw_good_1 wm_141 (gw_good_1 wm_142 (gw_good_1 wm_48 (gw_good_in wm_143)))) rfl rfl rfl (by decide +kernel) hR) ⟨kblind nestC_ok, kpre nestC_ok hN hK hP hD⟩ rfl rfl hsz rfl (lv_room hW) hdg hfc) hD hS hA kk
set_option maxHeartbeats 400000 in
set_option maxRecDepth 100000 in
theorem c_X2_flightRow (l : Launch) (D : va_G) (cy : Nat → ClassId) (a : Nat → Nat) (X : va_W) (σ : CS) (u : Nat) (v : Nat) (o : Nat)  : MetI l yX2_flightRow cX2_flightRow 3 .int (kRm 0 0 0) D (tyA cy) nestC [.int (nI (u)), .int (nI (v)), .int (nI (o))] (X ++ cB cy a σ) (X ++ cB cy a σ) (nI ((u * 8 + v) * 8 + o)) 0 0 := by
  intro sz
  refine kmet (own := RX2) (by decide) rfl (Nat.le_of_ble_eq_true rfl) (fun p e s m args below meth c S hr hlk hK hN hP hD hsz hA hnm ls hl => ?_)
  have hS : va_S (va_A (X ++ cB cy a σ) sz) s.heap s.heap [] := va_S.rf
  have hl : lv_has ls 3 [(0, .int (nI (u))), (1, .int (nI (v))), (2, .int (nI (o)))] := hl
  refine lv_iload_n S.1 S.2.1 dX2_flightRow_0 rfl (lv_at hl 0 rfl) ?_
  refine lv_bipush (v := (nI 8)) S.1 S.2.1 dX2_flightRow_1 (by decide) ?_
  refine lv_imul S.1 S.2.1 dX2_flightRow_3 ?_
  refine k_top (pk_mul _ _) ?_
  refine lv_iload_n S.1 S.2.1 dX2_flightRow_4 rfl (lv_at hl 1 rfl) ?_
  refine lv_iadd S.1 S.2.1 dX2_flightRow_5 ?_
  refine k_top (nI_add _ _) ?_
  refine lv_bipush (v := (nI 8)) S.1 S.2.1 dX2_flightRow_6 (by decide) ?_
  refine lv_imul S.1 S.2.1 dX2_flightRow_8 ?_
  refine k_top (pk_mul _ _) ?_
  refine lv_iload_n S.1 S.2.1 dX2_flightRow_9 rfl (lv_at hl 2 rfl) ?_
  refine lv_iadd S.1 S.2.1 dX2_flightRow_10 ?_
  refine k_top (nI_add _ _) ?_
  exact kret_i S hr hlk hP hD hS (by first | (simp only [u, reduceIte, Bool.false_eq_true, eq_self_iff_true, if_true, if_false]; done) | with_reducible rfl) dX2_flightRow_11
theorem call_X2_flightRow {p : Program} {l : Launch} {e : Env} {R : Room} {s : State} {m : MethodId} {args : Array Value} {below : List Frame} {meth : Method} {c : Code} {H : Heap} {locs : List Loc} {cells slots : Nat} {Q : State → Prop} {cc : ByteArray} {pc nL : Nat} {ls : Array Slot} {rest : List Value} {D : va_G} {A : Nat → Prop} {w0 : Cond} {X : va_W} {cy : Nat → ClassId} {a : Nat → Nat} {σ : CS} (S : CallFix p m c cc nL s args (w0 :: gw) RX2) (hK : va_K D vwCl (tyA cy) s) (hN : kN nestC s) (hP : va_P D vwCl (X ++ cB cy a σ) H) (hD : va_D A (X ++ cB cy a σ)) (hS : va_S A s.heap H locs) (hA : ∀ q, s.heap.size ≤ q → A q) {u : Nat} {v : Nat} {o : Nat}  (hsz : ls.size = nL) (hW : (rest.map fun v => v.category).sum ≤ 8) (hR : 0 + 1 ≤ R.frames ∧ 8 + (3 + 11) + 32 * 0 ≤ R.locals) (hdg : decode cc pc = .ok (.invokestatic 191, 3)) (hfc : cells ≤ R.cells ∧ slots ≤ R.slots)
    (kk : ∀ (H1 : Heap) (locs1 : List Loc), va_P D vwCl (X ++ cB cy a σ) H1 → va_D A (X ++ cB cy a σ) → va_S A s.heap H1 locs1 → W p l e R s m args below meth c H1 locs1 cells slots Q (F0 m (pc + 3) ls (.int (nI ((u * 8 + v) * 8 + o)) :: rest))) : W p l e R s m args below meth c H locs cells slots Q (F0 m pc ls (.int (nI (o)) :: .int (nI (v)) :: .int (nI (u)) :: rest)) :=
  kgo_i (va_runS (As := [.int (nI (u)), .int (nI (v)), .int (nI (o))]) (rest := rest) S (c_X2_flightRow l D cy a X σ u v o  H.size) (cwS 3 S.2.2.2.2 (gw_good_1 wm_338 (gw_good_1 wm_339 (gw_good_1 wm_48 (gw_good_in wm_340)))) rfl rfl rfl (by decide +kernel) hR) ⟨kblind nestC_ok, kpre nestC_ok hN hK hP hD⟩ rfl rfl hsz rfl (lv_room hW) hdg hfc) hD hS hA kk
set_option maxHeartbeats 400000 in
set_option maxRecDepth 100000 in
theorem c_X2_carries (l : Launch) (D : va_G) (cy : Nat → ClassId) (a : Nat → Nat) (X : va_W) (σ : CS) (u : Nat) (v : Nat) (hu : u < 8) (hv : v < 8) : MetI l yX2_carries cX2_carries 3 .boolean (kRm 1 0 0) D (tyA cy) nestC [.ref (a 0), .int (nI (u)), .int (nI (v))] (X ++ cB cy a σ) (X ++ cB cy a σ) (b2i (carr σ u v)) 0 0 := by
  intro sz
  refine kmet (own := RX2) (by decide) rfl (Nat.le_of_ble_eq_true rfl) (fun p e s m args below meth c S hr hlk hK hN hP hD hsz hA hnm ls hl => ?_)
  have hS : va_S (va_A (X ++ cB cy a σ) sz) s.heap s.heap [] := va_S.rf
  have hl : lv_has ls 3 [(0, .ref (a 0)), (1, .int (nI (u))), (2, .int (nI (v)))] := hl
  refine lv_aload_n S.1 S.2.1 dX2_carries_0 rfl (lv_at hl 0 rfl) ?_
  refine cf_net_linkUp S hK hP dX2_carries_1 ?_
  refine lv_iload_n S.1 S.2.1 dX2_carries_4 rfl (lv_at hl 1 rfl) ?_
  refine lv_iload_n S.1 S.2.1 dX2_carries_5 rfl (lv_at hl 2 rfl) ?_
  refine call_X2_pair S hK hN hP hD hS hA (u := u) (v := v)  hl.1 (Nat.le_of_ble_eq_true rfl) ⟨Nat.le_of_ble_eq_true rfl, Nat.le_of_ble_eq_true rfl⟩ dX2_carries_6 ⟨Nat.le_refl _, Nat.le_refl _⟩ (fun H locs hP hD hS => ?_)
  refine ca_linkUp S hK hP (j := (u * 8 + v)) (by omega) dX2_carries_9 ?_
  refine lv_if_eq (tgt := 35) S.1 S.2.1 dX2_carries_10 (by decide) (fun c1 => ?_) (fun c1 => ?_)
  · refine lv_iconst (v := (nI 0)) S.1 S.2.1 dX2_carries_35 (by decide) ?_
    exact kret_z S hr hlk hP hD hS (by first | rfl | exact b2i_nar _) (by rw [show carr σ u v = false from (by first | (simp only [carr, eq_true c1, reduceIte, Bool.false_eq_true, eq_self_iff_true, if_true, if_false]; done) | with_reducible rfl)]; decide) dX2_carries_36
  · refine lv_aload_n S.1 S.2.1 dX2_carries_13 rfl (lv_at hl 0 rfl) ?_
    refine cf_net_there S hK hP dX2_carries_14 ?_
    refine lv_iload_n S.1 S.2.1 dX2_carries_17 rfl (lv_at hl 1 rfl) ?_
    refine ca_there S hK hP (j := u) (by omega) dX2_carries_18 ?_
    refine lv_if_eq (tgt := 35) S.1 S.2.1 dX2_carries_19 (by decide) (fun c2 => ?_) (fun c2 => ?_)
    · refine lv_iconst (v := (nI 0)) S.1 S.2.1 dX2_carries_35 (by decide) ?_
      exact kret_z S hr hlk hP hD hS (by first | rfl | exact b2i_nar _) (by rw [show carr σ u v = false from (by first | (simp only [carr, c1, eq_true c2, reduceIte, Bool.false_eq_true, eq_self_iff_true, if_true, if_false]; done) | with_reducible rfl)]; decide) dX2_carries_36
    · refine lv_aload_n S.1 S.2.1 dX2_carries_22 rfl (lv_at hl 0 rfl) ?_
      refine cf_net_there S hK hP dX2_carries_23 ?_
      refine lv_iload_n S.1 S.2.1 dX2_carries_26 rfl (lv_at hl 2 rfl) ?_
      refine ca_there S hK hP (j := v) (by omega) dX2_carries_27 ?_
      refine lv_if_eq (tgt := 35) S.1 S.2.1 dX2_carries_28 (by decide) (fun c3 => ?_) (fun c3 => ?_)
      · refine lv_iconst (v := (nI 0)) S.1 S.2.1 dX2_carries_35 (by decide) ?_
        exact kret_z S hr hlk hP hD hS (by first | rfl | exact b2i_nar _) (by rw [show carr σ u v = false from (by first | (simp only [carr, c1, c2, eq_true c3, reduceIte, Bool.false_eq_true, eq_self_iff_true, if_true, if_false]; done) | with_reducible rfl)]; decide) dX2_carries_36
      · refine lv_iconst (v := (nI 1)) S.1 S.2.1 dX2_carries_31 (by decide) ?_
        refine lv_goto (tgt := 36) S.1 S.2.1 dX2_carries_32 (by decide) ?_
        exact kret_z S hr hlk hP hD hS (by first | rfl | exact b2i_nar _) (by rw [show carr σ u v = true from (by first | (simp only [carr, c1, c2, c3, reduceIte, Bool.false_eq_true, eq_self_iff_true, if_true, if_false]; done) | with_reducible rfl)]; decide) dX2_carries_36
theorem call_X2_carries {p : Program} {l : Launch} {e : Env} {R : Room} {s : State} {m : MethodId} {args : Array Value} {below : List Frame} {meth : Method} {c : Code} {H : Heap} {locs : List Loc} {cells slots : Nat} {Q : State → Prop} {cc : ByteArray} {pc nL : Nat} {ls : Array Slot} {rest : List Value} {D : va_G} {A : Nat → Prop} {w0 : Cond} {X : va_W} {cy : Nat → ClassId} {a : Nat → Nat} {σ : CS} (S : CallFix p m c cc nL s args (w0 :: gw) RX2) (hK : va_K D vwCl (tyA cy) s) (hN : kN nestC s) (hP : va_P D vwCl (X ++ cB cy a σ) H) (hD : va_D A (X ++ cB cy a σ)) (hS : va_S A s.heap H locs) (hA : ∀ q, s.heap.size ≤ q → A q) {u : Nat} {v : Nat} (hu : u < 8) (hv : v < 8) (hsz : ls.size = nL) (hW : (rest.map fun v => v.category).sum ≤ 8) (hR : 1 + 1 ≤ R.frames ∧ 8 + (3 + 11) + 32 * 1 ≤ R.locals) (hdg : decode cc pc = .ok (.invokevirtual 101, 3)) (hfc : cells ≤ R.cells ∧ slots ≤ R.slots)
    (kk : ∀ (H1 : Heap) (locs1 : List Loc), va_P D vwCl (X ++ cB cy a σ) H1 → va_D A (X ++ cB cy a σ) → va_S A s.heap H1 locs1 → W p l e R s m args below meth c H1 locs1 cells slots Q (F0 m (pc + 3) ls (.int (b2i (carr σ u v)) :: rest))) : W p l e R s m args below meth c H locs cells slots Q (F0 m pc ls (.int (nI (v)) :: .int (nI (u)) :: .ref (a 0) :: rest)) :=
  kgo_i (va_runV (As := [.int (nI (u)), .int (nI (v))]) (rest := rest) S (c_X2_carries l D cy a X σ u v hu hv H.size) (cwV 2 S.2.2.2.2 (gw_good_1 wm_197 (gw_good_1 wm_199 (gw_good_1 wm_8 (gw_good_1 wm_48 (gw_good_in wm_200))))) rfl rfl rfl (by decide +kernel) hR) ⟨kblind nestC_ok, crecv_net hK hP, kpre nestC_ok hN hK hP hD⟩ rfl rfl hsz rfl (lv_room hW) hdg hfc) hD hS hA kk
set_option maxHeartbeats 400000 in
set_option maxRecDepth 100000 in
theorem c_X2_costsNow (l : Launch) (D : va_G) (cy : Nat → ClassId) (a : Nat → Nat) (X : va_W) (σ : CS) (u : Nat) (hu : u < 8) : MetL l yX2_costsNow cX2_costsNow 5 (kRm 2 0 0) D (tyA cy) nestC [.ref (a 0), .int (nI (u))] (X ++ cB cy a σ) (X ++ cB cy a σ) (cCosts σ u) 0 0 := by
  intro sz
  refine kmet (own := RX2) (by decide) rfl (Nat.le_of_ble_eq_true rfl) (fun p e s m args below meth c S hr hlk hK hN hP hD hsz hA hnm ls hl => ?_)
  have hS : va_S (va_A (X ++ cB cy a σ) sz) s.heap s.heap [] := va_S.rf
  have hl : lv_has ls 5 [(0, .ref (a 0)), (1, .int (nI (u)))] := hl
  refine lv_lconst (v := 0) S.1 S.2.1 dX2_costsNow_0 (by decide) ?_
  refine lv_lstore_n (lv' := [(2, .long (0)), (0, .ref (a 0)), (1, .int (nI (u)))]) S.1 S.2.1 dX2_costsNow_1 rfl hl (by decide) rfl (fun ls hl => ?_)
  refine lv_iconst (v := (nI 0)) S.1 S.2.1 dX2_costsNow_2 (by decide) ?_
  refine lv_istore (lv' := [(4, .int (nI 0)), (2, .long (0)), (0, .ref (a 0)), (1, .int (nI (u)))]) S.1 S.2.1 dX2_costsNow_3 hl (by decide) rfl (fun ls hl => ?_)
  have lp1 : ∀ (n1 i1 : Nat)  (x1_0 : Int64), i1 + n1 = 8 → itr (fCosts σ u) n1 i1 x1_0 = itr (fCosts σ u) 8 0 (0) → ∀ (H : Heap) (locs : List Loc), va_P D vwCl (X ++ cB cy a σ) H → va_D (va_A (X ++ cB cy a σ) sz) (X ++ cB cy a σ) → va_S (va_A (X ++ cB cy a σ) sz) s.heap H locs → ∀ ls : Array Slot, lv_has ls 5 [(4, .int (nI (i1))), (2, .long (x1_0)), (0, .ref (a 0)), (1, .int (nI (u)))] → W p l e (kRm 2 0 0) s m args below meth c H locs 0 0 (MQ below (kQl D (X ++ cB cy a σ) (X ++ cB cy a σ) (cCosts σ u) sz) args s 0 0 (va_A (X ++ cB cy a σ) sz)) (F0 m 5 ls []) := by
    intro n1
    induction n1 with
    | zero =>
      intro i1 x1_0 hi1 he1 H locs hP hD hS ls hl
      have hi1 : i1 = 8 := by omega
      have he1 : x1_0 = itr (fCosts σ u) 8 0 (0) := he1
      refine lv_iload S.1 S.2.1 dX2_costsNow_5 (lv_at hl 0 rfl) ?_
      refine lv_bipush (v := (nI 8)) S.1 S.2.1 dX2_costsNow_7 (by decide) ?_
      refine lv_icmp_ge (tgt := 47) S.1 S.2.1 dX2_costsNow_9 (by decide) (fun _ => ?_) (fun c => absurd (nI_le (by omega) (by omega)) c)
      refine lv_lload_n S.1 S.2.1 dX2_costsNow_47 rfl (lv_at hl 1 rfl) ?_
      exact kret_l S hr hlk hP hD hS (by first | (simp only [cCosts, ← he1, reduceIte, Bool.false_eq_true, eq_self_iff_true, if_true, if_false]; done) | with_reducible rfl) dX2_costsNow_48
    | succ n1 ih1 =>
      intro i1 x1_0 hi1 he1 H locs hP hD hS ls hl
      have hlt1 : i1 < 8 := by omega
      refine lv_iload S.1 S.2.1 dX2_costsNow_5 (lv_at hl 0 rfl) ?_
      refine lv_bipush (v := (nI 8)) S.1 S.2.1 dX2_costsNow_7 (by decide) ?_
      refine lv_icmp_ge (tgt := 47) S.1 S.2.1 dX2_costsNow_9 (by decide) (fun c => absurd c (nI_ge (by omega) (by omega))) (fun _ => ?_)
      refine lv_aload_n S.1 S.2.1 dX2_costsNow_12 rfl (lv_at hl 2 rfl) ?_
      refine lv_iload_n S.1 S.2.1 dX2_costsNow_13 rfl (lv_at hl 3 rfl) ?_
      refine lv_iload S.1 S.2.1 dX2_costsNow_14 (lv_at hl 0 rfl) ?_
      refine call_X2_carries S hK hN hP hD hS hA (u := u) (v := i1) (by omega) (by omega) hl.1 (Nat.le_of_ble_eq_true rfl) ⟨Nat.le_of_ble_eq_true rfl, Nat.le_of_ble_eq_true rfl⟩ dX2_costsNow_16 ⟨Nat.le_refl _, Nat.le_refl _⟩ (fun H locs hP hD hS => ?_)
      refine kb_eq (tgt := 41) S dX2_costsNow_19 (by decide) (fun c4 => ?_) (fun c4 => ?_)
      · refine lv_iinc (v := (nI (i1 + 1))) (lv' := [(4, .int (nI (i1 + 1))), (2, .long (x1_0)), (0, .ref (a 0)), (1, .int (nI (u)))]) S.1 S.2.1 dX2_costsNow_41 hl (k := 0) rfl (nI_add _ 1) (by decide) rfl (fun ls hl => ?_)
        refine lv_goto (tgt := 5) S.1 S.2.1 dX2_costsNow_44 (by decide) ?_
        exact ih1 (i1 + 1)  x1_0 (by omega) (itr_step he1 (by first | (simp only [fCosts, c4, reduceIte, Bool.false_eq_true, eq_self_iff_true, if_true, if_false]; done) | with_reducible rfl)) _ _ hP hD hS _ (lv_sub hl [0, 1, 2, 3] rfl)
      · refine lv_lload_n S.1 S.2.1 dX2_costsNow_22 rfl (lv_at hl 1 rfl) ?_
        refine lv_aload_n S.1 S.2.1 dX2_costsNow_23 rfl (lv_at hl 2 rfl) ?_
        refine cf_net_linkCost S hK hP dX2_costsNow_24 ?_
        refine lv_iload_n S.1 S.2.1 dX2_costsNow_27 rfl (lv_at hl 3 rfl) ?_
        refine lv_iload S.1 S.2.1 dX2_costsNow_28 (lv_at hl 0 rfl) ?_
        refine call_X2_pair S hK hN hP hD hS hA (u := u) (v := i1)  hl.1 (Nat.le_of_ble_eq_true rfl) ⟨Nat.le_of_ble_eq_true rfl, Nat.le_of_ble_eq_true rfl⟩ dX2_costsNow_30 ⟨Nat.le_refl _, Nat.le_refl _⟩ (fun H locs hP hD hS => ?_)
        refine ca_linkCost S hK hP (j := (u * 8 + i1)) (by omega) dX2_costsNow_33 ?_
        refine lv_iload S.1 S.2.1 dX2_costsNow_34 (lv_at hl 0 rfl) ?_
        refine call_X1_packed S hK hN hP hD hS hA (x := σ.1 3 (u * 8 + i1)) (w := i1)  hl.1 (Nat.le_of_ble_eq_true rfl) ⟨Nat.le_of_ble_eq_true rfl, Nat.le_of_ble_eq_true rfl⟩ dX2_costsNow_36 ⟨Nat.le_refl _, Nat.le_refl _⟩ (fun H locs hP hD hS => ?_)
        refine lv_lor S.1 S.2.1 dX2_costsNow_39 ?_
        refine lv_lstore_n (lv' := [(2, .long ((x1_0) ||| (packF (σ.1 3 (u * 8 + i1)) i1))), (4, .int (nI (i1))), (0, .ref (a 0)), (1, .int (nI (u)))]) S.1 S.2.1 dX2_costsNow_40 rfl hl (by decide) rfl (fun ls hl => ?_)
        refine lv_iinc (v := (nI (i1 + 1))) (lv' := [(4, .int (nI (i1 + 1))), (2, .long ((x1_0) ||| (packF (σ.1 3 (u * 8 + i1)) i1))), (0, .ref (a 0)), (1, .int (nI (u)))]) S.1 S.2.1 dX2_costsNow_41 hl (k := 1) rfl (nI_add _ 1) (by decide) rfl (fun ls hl => ?_)
        refine lv_goto (tgt := 5) S.1 S.2.1 dX2_costsNow_44 (by decide) ?_
        exact ih1 (i1 + 1)  ((x1_0) ||| (packF (σ.1 3 (u * 8 + i1)) i1)) (by omega) (itr_step he1 (by first | (simp only [fCosts, c4, reduceIte, Bool.false_eq_true, eq_self_iff_true, if_true, if_false]; done) | with_reducible rfl)) _ _ hP hD hS _ (lv_sub hl [0, 1, 2, 3] rfl)
  exact lp1 8 0  0 (by omega) rfl _ _ hP hD hS _ (lv_sub hl [0, 1, 2, 3] rfl)
theorem call_X2_costsNow {p : Program} {l : Launch} {e : Env} {R : Room} {s : State} {m : MethodId} {args : Array Value} {below : List Frame} {meth : Method} {c : Code} {H : Heap} {locs : List Loc} {cells slots : Nat} {Q : State → Prop} {cc : ByteArray} {pc nL : Nat} {ls : Array Slot} {rest : List Value} {D : va_G} {A : Nat → Prop} {w0 : Cond} {X : va_W} {cy : Nat → ClassId} {a : Nat → Nat} {σ : CS} (S : CallFix p m c cc nL s args (w0 :: gw) RX2) (hK : va_K D vwCl (tyA cy) s) (hN : kN nestC s) (hP : va_P D vwCl (X ++ cB cy a σ) H) (hD : va_D A (X ++ cB cy a σ)) (hS : va_S A s.heap H locs) (hA : ∀ q, s.heap.size ≤ q → A q) {u : Nat} (hu : u < 8) (hsz : ls.size = nL) (hW : (rest.map fun v => v.category).sum ≤ 8) (hR : 2 + 1 ≤ R.frames ∧ 8 + (5 + 11) + 32 * 2 ≤ R.locals) (hdg : decode cc pc = .ok (.invokevirtual 198, 3)) (hfc : cells ≤ R.cells ∧ slots ≤ R.slots)
    (kk : ∀ (H1 : Heap) (locs1 : List Loc), va_P D vwCl (X ++ cB cy a σ) H1 → va_D A (X ++ cB cy a σ) → va_S A s.heap H1 locs1 → W p l e R s m args below meth c H1 locs1 cells slots Q (F0 m (pc + 3) ls (.long (cCosts σ u) :: rest))) : W p l e R s m args below meth c H locs cells slots Q (F0 m pc ls (.int (nI (u)) :: .ref (a 0) :: rest)) :=
  kgo_l (va_runV (As := [.int (nI (u))]) (rest := rest) S (c_X2_costsNow l D cy a X σ u hu H.size) (cwV 1 S.2.2.2.2 (gw_good_1 wm_319 (gw_good_1 wm_321 (gw_good_1 wm_14 (gw_good_1 wm_48 (gw_good_in wm_322))))) rfl rfl rfl (by decide +kernel) hR) ⟨kblind nestC_ok, crecv_net hK hP, kpre nestC_ok hN hK hP hD⟩ rfl rfl hsz rfl (lv_room hW) hdg hfc) hD hS hA kk
set_option maxHeartbeats 400000 in
set_option maxRecDepth 100000 in
theorem c_X2_putLink (l : Launch) (D : va_G) (cy : Nat → ClassId) (a : Nat → Nat) (X : va_W) (σ : CS) (u : Nat) (v : Nat) (x : Int32) (y : Int32) (hu : u < 8) (hv : v < 8) : MetV l yX2_putLink cX2_putLink 5 (kRm 1 0 0) D (tyA cy) nestC [.ref (a 0), .int (nI (u)), .int (nI (v)), .int (x), .int (y)] (X ++ cB cy a σ) (X ++ cB cy a (cPutLink u v x y σ)) 0 0 := by
  intro sz
  refine kmet (own := RX2) (by decide) rfl (Nat.le_of_ble_eq_true rfl) (fun p e s m args below meth c S hr hlk hK hN hP hD hsz hA hnm ls hl => ?_)
  have hS : va_S (va_A (X ++ cB cy a σ) sz) s.heap s.heap [] := va_S.rf
  have hl : lv_has ls 5 [(0, .ref (a 0)), (1, .int (nI (u))), (2, .int (nI (v))), (3, .int (x)), (4, .int (y))] := hl
  refine lv_aload_n S.1 S.2.1 dX2_putLink_0 rfl (lv_at hl 0 rfl) ?_
  refine cf_net_linkCost S hK hP dX2_putLink_1 ?_
  refine lv_iload_n S.1 S.2.1 dX2_putLink_4 rfl (lv_at hl 1 rfl) ?_
  refine lv_iload_n S.1 S.2.1 dX2_putLink_5 rfl (lv_at hl 2 rfl) ?_
  refine call_X2_pair S hK hN hP hD hS hA (u := u) (v := v)  hl.1 (Nat.le_of_ble_eq_true rfl) ⟨Nat.le_of_ble_eq_true rfl, Nat.le_of_ble_eq_true rfl⟩ dX2_putLink_6 ⟨Nat.le_refl _, Nat.le_refl _⟩ (fun H locs hP hD hS => ?_)
  refine lv_iload_n S.1 S.2.1 dX2_putLink_9 rfl (lv_at hl 3 rfl) ?_
  refine cs_linkCost S hK hP hD hS (j := (u * 8 + v)) (by omega) dX2_putLink_10 (fun H locs hP hD hS => ?_)
  refine lv_aload_n S.1 S.2.1 dX2_putLink_11 rfl (lv_at hl 0 rfl) ?_
  refine cf_net_linkDelay S hK hP dX2_putLink_12 ?_
  refine lv_iload_n S.1 S.2.1 dX2_putLink_15 rfl (lv_at hl 1 rfl) ?_
  refine lv_iload_n S.1 S.2.1 dX2_putLink_16 rfl (lv_at hl 2 rfl) ?_
  refine call_X2_pair S hK hN hP hD hS hA (u := u) (v := v)  hl.1 (Nat.le_of_ble_eq_true rfl) ⟨Nat.le_of_ble_eq_true rfl, Nat.le_of_ble_eq_true rfl⟩ dX2_putLink_17 ⟨Nat.le_refl _, Nat.le_refl _⟩ (fun H locs hP hD hS => ?_)
  refine lv_iload S.1 S.2.1 dX2_putLink_20 (lv_at hl 4 rfl) ?_
  refine cs_linkDelay S hK hP hD hS (j := (u * 8 + v)) (by omega) dX2_putLink_22 (fun H locs hP hD hS => ?_)
  have e9 : cPutLink u v x y σ = sI 4 (u * 8 + v) (y) (sI 3 (u * 8 + v) (x) σ) := by first | (simp only [cPutLink, reduceIte, Bool.false_eq_true, eq_self_iff_true, if_true, if_false]; done) | with_reducible rfl
  rw [e9]
  exact kret_v S hr hlk hP hD hS dX2_putLink_23
theorem call_X2_putLink {p : Program} {l : Launch} {e : Env} {R : Room} {s : State} {m : MethodId} {args : Array Value} {below : List Frame} {meth : Method} {c : Code} {H : Heap} {locs : List Loc} {cells slots : Nat} {Q : State → Prop} {cc : ByteArray} {pc nL : Nat} {ls : Array Slot} {rest : List Value} {D : va_G} {A : Nat → Prop} {w0 : Cond} {X : va_W} {cy : Nat → ClassId} {a : Nat → Nat} {σ : CS} (S : CallFix p m c cc nL s args (w0 :: gw) RX2) (hK : va_K D vwCl (tyA cy) s) (hN : kN nestC s) (hP : va_P D vwCl (X ++ cB cy a σ) H) (hD : va_D A (X ++ cB cy a σ)) (hS : va_S A s.heap H locs) (hA : ∀ q, s.heap.size ≤ q → A q) {u : Nat} {v : Nat} {x : Int32} {y : Int32} (hu : u < 8) (hv : v < 8) (hsz : ls.size = nL) (hW : (rest.map fun v => v.category).sum ≤ 8) (hR : 1 + 1 ≤ R.frames ∧ 8 + (5 + 11) + 32 * 1 ≤ R.locals) (hdg : decode cc pc = .ok (.invokevirtual 76, 3)) (hfc : cells ≤ R.cells ∧ slots ≤ R.slots)
    (kk : ∀ (H1 : Heap) (locs1 : List Loc), va_P D vwCl (X ++ cB cy a (cPutLink u v x y σ)) H1 → va_D A (X ++ cB cy a (cPutLink u v x y σ)) → va_S A s.heap H1 locs1 → W p l e R s m args below meth c H1 locs1 cells slots Q (F0 m (pc + 3) ls (rest))) : W p l e R s m args below meth c H locs cells slots Q (F0 m pc ls (.int (y) :: .int (x) :: .int (nI (v)) :: .int (nI (u)) :: .ref (a 0) :: rest)) :=
  kgo_v (va_runV (As := [.int (nI (u)), .int (nI (v)), .int (x), .int (y)]) (rest := rest) S (c_X2_putLink l D cy a X σ u v x y hu hv H.size) (cwV 4 S.2.2.2.2 (gw_good_1 wm_301 (gw_good_1 wm_303 (gw_good_1 wm_11 (gw_good_1 wm_48 (gw_good_in wm_304))))) rfl rfl rfl (by decide +kernel) hR) ⟨kblind nestC_ok, crecv_net hK hP, kpre nestC_ok hN hK hP hD⟩ rfl rfl hsz rfl (lv_room hW) hdg hfc) hD hS hA kk
set_option maxHeartbeats 400000 in
set_option maxRecDepth 100000 in
theorem c_X2_sendKnown (l : Launch) (D : va_G) (cy : Nat → ClassId) (a : Nat → Nat) (X : va_W) (σ : CS) (f : Nat) (t : Nat) (o : Nat) (hf : f < 8) (ht : t < 8) (ho : o < 8) : MetV l yX2_sendKnown cX2_sendKnown 6 (kRm 1 0 0) D (tyA cy) nestC [.ref (a 0), .int (nI (f)), .int (nI (t)), .int (nI (o))] (X ++ cB cy a σ) (X ++ cB cy a (cSendKnown f t o σ)) 0 0 := by
  intro sz
  refine kmet (own := RX2) (by decide) rfl (Nat.le_of_ble_eq_true rfl) (fun p e s m args below meth c S hr hlk hK hN hP hD hsz hA hnm ls hl => ?_)
  have hS : va_S (va_A (X ++ cB cy a σ) sz) s.heap s.heap [] := va_S.rf
  have hl : lv_has ls 6 [(0, .ref (a 0)), (1, .int (nI (f))), (2, .int (nI (t))), (3, .int (nI (o)))] := hl
  refine lv_iload_n S.1 S.2.1 dX2_sendKnown_0 rfl (lv_at hl 1 rfl) ?_
  refine lv_iload_n S.1 S.2.1 dX2_sendKnown_1 rfl (lv_at hl 3 rfl) ?_
  refine call_X2_knownRow S hK hN hP hD hS hA (u := f) (v := o)  hl.1 (Nat.le_of_ble_eq_true rfl) ⟨Nat.le_of_ble_eq_true rfl, Nat.le_of_ble_eq_true rfl⟩ dX2_sendKnown_2 ⟨Nat.le_refl _, Nat.le_refl _⟩ (fun H locs hP hD hS => ?_)
  refine lv_istore (lv' := [(4, .int (nI (f * 8 + o))), (0, .ref (a 0)), (1, .int (nI (f))), (2, .int (nI (t))), (3, .int (nI (o)))]) S.1 S.2.1 dX2_sendKnown_5 hl (by decide) rfl (fun ls hl => ?_)
  refine lv_iload_n S.1 S.2.1 dX2_sendKnown_7 rfl (lv_at hl 2 rfl) ?_
  refine lv_iload_n S.1 S.2.1 dX2_sendKnown_8 rfl (lv_at hl 3 rfl) ?_
  refine lv_iload_n S.1 S.2.1 dX2_sendKnown_9 rfl (lv_at hl 4 rfl) ?_
  refine call_X2_flightRow S hK hN hP hD hS hA (u := f) (v := t) (o := o)  hl.1 (Nat.le_of_ble_eq_true rfl) ⟨Nat.le_of_ble_eq_true rfl, Nat.le_of_ble_eq_true rfl⟩ dX2_sendKnown_10 ⟨Nat.le_refl _, Nat.le_refl _⟩ (fun H locs hP hD hS => ?_)
  refine lv_istore (lv' := [(5, .int (nI ((f * 8 + t) * 8 + o))), (4, .int (nI (f * 8 + o))), (0, .ref (a 0)), (1, .int (nI (f))), (2, .int (nI (t))), (3, .int (nI (o)))]) S.1 S.2.1 dX2_sendKnown_13 hl (by decide) rfl (fun ls hl => ?_)
  refine lv_aload_n S.1 S.2.1 dX2_sendKnown_15 rfl (lv_at hl 2 rfl) ?_
  refine cf_net_known S hK hP dX2_sendKnown_16 ?_
  refine cn_known_number S hK hN hP dX2_sendKnown_19 ?_
  refine lv_iload S.1 S.2.1 dX2_sendKnown_22 (lv_at hl 1 rfl) ?_
  refine ca_knNumber S hK hP (j := (f * 8 + o)) (by omega) dX2_sendKnown_24 ?_
  refine lv_aload_n S.1 S.2.1 dX2_sendKnown_25 rfl (lv_at hl 2 rfl) ?_
  refine cf_net_inFlight S hK hP dX2_sendKnown_26 ?_
  refine cn_inFlight_number S hK hN hP dX2_sendKnown_29 ?_
  refine lv_iload S.1 S.2.1 dX2_sendKnown_32 (lv_at hl 0 rfl) ?_
  refine ca_inNumber S hK hP (j := ((f * 8 + t) * 8 + o)) (by omega) dX2_sendKnown_34 ?_
  refine lv_icmp_le (tgt := 99) S.1 S.2.1 dX2_sendKnown_35 (by decide) (fun c1 => ?_) (fun c1 => ?_)
  · have e9 : cSendKnown f t o σ = σ := by first | (simp only [cSendKnown, cSendW, c1, reduceIte, Bool.false_eq_true, eq_self_iff_true, if_true, if_false]; done) | with_reducible rfl
    rw [e9]
    exact kret_v S hr hlk hP hD hS dX2_sendKnown_99
  · refine lv_aload_n S.1 S.2.1 dX2_sendKnown_38 rfl (lv_at hl 2 rfl) ?_
    refine cf_net_inFlight S hK hP dX2_sendKnown_39 ?_
    refine lv_iload S.1 S.2.1 dX2_sendKnown_42 (lv_at hl 0 rfl) ?_
    refine lv_aload_n S.1 S.2.1 dX2_sendKnown_44 rfl (lv_at hl 2 rfl) ?_
    refine cf_net_known S hK hP dX2_sendKnown_45 ?_
    refine cn_known_number S hK hN hP dX2_sendKnown_48 ?_
    refine lv_iload S.1 S.2.1 dX2_sendKnown_51 (lv_at hl 1 rfl) ?_
    refine ca_knNumber S hK hP (j := (f * 8 + o)) (by omega) dX2_sendKnown_53 ?_
    refine lv_aload_n S.1 S.2.1 dX2_sendKnown_54 rfl (lv_at hl 2 rfl) ?_
    refine cf_net_known S hK hP dX2_sendKnown_55 ?_
    refine cn_known_born S hK hN hP dX2_sendKnown_58 ?_
    refine lv_iload S.1 S.2.1 dX2_sendKnown_61 (lv_at hl 1 rfl) ?_
    refine ca_knBorn S hK hP (j := (f * 8 + o)) (by omega) dX2_sendKnown_63 ?_
    refine lv_aload_n S.1 S.2.1 dX2_sendKnown_64 rfl (lv_at hl 2 rfl) ?_
    refine cf_net_known S hK hP dX2_sendKnown_65 ?_
    refine cn_known_costs S hK hN hP dX2_sendKnown_68 ?_
    refine lv_iload S.1 S.2.1 dX2_sendKnown_71 (lv_at hl 1 rfl) ?_
    refine ca_knCosts S hK hP (j := (f * 8 + o)) (by omega) dX2_sendKnown_73 ?_
    refine call_X1_write_inFlight S hK hN hP hD hS hA (row := (f * 8 + t) * 8 + o) (x := σ.1 6 (f * 8 + o)) (y := σ.1 7 (f * 8 + o)) (z := σ.2 0 (f * 8 + o)) (by omega) hl.1 (Nat.le_of_ble_eq_true rfl) ⟨Nat.le_of_ble_eq_true rfl, Nat.le_of_ble_eq_true rfl⟩ dX2_sendKnown_74 ⟨Nat.le_refl _, Nat.le_refl _⟩ (fun H locs hP hD hS => ?_)
    refine lv_aload_n S.1 S.2.1 dX2_sendKnown_77 rfl (lv_at hl 2 rfl) ?_
    refine cf_net_newsArrival S hK hP dX2_sendKnown_78 ?_
    refine lv_iload S.1 S.2.1 dX2_sendKnown_81 (lv_at hl 0 rfl) ?_
    refine lv_aload_n S.1 S.2.1 dX2_sendKnown_83 rfl (lv_at hl 2 rfl) ?_
    refine cf_net_time S hK hP dX2_sendKnown_84 ?_
    refine lv_aload_n S.1 S.2.1 dX2_sendKnown_87 rfl (lv_at hl 2 rfl) ?_
    refine cf_net_linkDelay S hK hP dX2_sendKnown_88 ?_
    refine lv_iload_n S.1 S.2.1 dX2_sendKnown_91 rfl (lv_at hl 3 rfl) ?_
    refine lv_iload_n S.1 S.2.1 dX2_sendKnown_92 rfl (lv_at hl 4 rfl) ?_
    refine call_X2_pair S hK hN hP hD hS hA (u := f) (v := t)  hl.1 (Nat.le_of_ble_eq_true rfl) ⟨Nat.le_of_ble_eq_true rfl, Nat.le_of_ble_eq_true rfl⟩ dX2_sendKnown_93 ⟨Nat.le_refl _, Nat.le_refl _⟩ (fun H locs hP hD hS => ?_)
    refine ca_linkDelay S hK hP (j := (f * 8 + t)) (by omega) dX2_sendKnown_96 ?_
    refine lv_iadd S.1 S.2.1 dX2_sendKnown_97 ?_
    refine cs_newsArrival S hK hP hD hS (j := ((f * 8 + t) * 8 + o)) (by omega) dX2_sendKnown_98 (fun H locs hP hD hS => ?_)
    have e9 : cSendKnown f t o σ = sI 10 ((f * 8 + t) * 8 + o) (((pWrite 8 9 1 4 ((f * 8 + t) * 8 + o) (σ.1 6 (f * 8 + o)) (σ.1 7 (f * 8 + o)) (σ.2 0 (f * 8 + o)) σ).1 0 2) + ((pWrite 8 9 1 4 ((f * 8 + t) * 8 + o) (σ.1 6 (f * 8 + o)) (σ.1 7 (f * 8 + o)) (σ.2 0 (f * 8 + o)) σ).1 4 (f * 8 + t))) (pWrite 8 9 1 4 ((f * 8 + t) * 8 + o) (σ.1 6 (f * 8 + o)) (σ.1 7 (f * 8 + o)) (σ.2 0 (f * 8 + o)) σ) := by first | (simp only [cSendKnown, cSendW, c1, reduceIte, Bool.false_eq_true, eq_self_iff_true, if_true, if_false]; done) | with_reducible rfl
    rw [e9]
    exact kret_v S hr hlk hP hD hS dX2_sendKnown_99
theorem call_X2_sendKnown {p : Program} {l : Launch} {e : Env} {R : Room} {s : State} {m : MethodId} {args : Array Value} {below : List Frame} {meth : Method} {c : Code} {H : Heap} {locs : List Loc} {cells slots : Nat} {Q : State → Prop} {cc : ByteArray} {pc nL : Nat} {ls : Array Slot} {rest : List Value} {D : va_G} {A : Nat → Prop} {w0 : Cond} {X : va_W} {cy : Nat → ClassId} {a : Nat → Nat} {σ : CS} (S : CallFix p m c cc nL s args (w0 :: gw) RX2) (hK : va_K D vwCl (tyA cy) s) (hN : kN nestC s) (hP : va_P D vwCl (X ++ cB cy a σ) H) (hD : va_D A (X ++ cB cy a σ)) (hS : va_S A s.heap H locs) (hA : ∀ q, s.heap.size ≤ q → A q) {f : Nat} {t : Nat} {o : Nat} (hf : f < 8) (ht : t < 8) (ho : o < 8) (hsz : ls.size = nL) (hW : (rest.map fun v => v.category).sum ≤ 8) (hR : 1 + 1 ≤ R.frames ∧ 8 + (6 + 11) + 32 * 1 ≤ R.locals) (hdg : decode cc pc = .ok (.invokevirtual 214, 3)) (hfc : cells ≤ R.cells ∧ slots ≤ R.slots)
    (kk : ∀ (H1 : Heap) (locs1 : List Loc), va_P D vwCl (X ++ cB cy a (cSendKnown f t o σ)) H1 → va_D A (X ++ cB cy a (cSendKnown f t o σ)) → va_S A s.heap H1 locs1 → W p l e R s m args below meth c H1 locs1 cells slots Q (F0 m (pc + 3) ls (rest))) : W p l e R s m args below meth c H locs cells slots Q (F0 m pc ls (.int (nI (o)) :: .int (nI (t)) :: .int (nI (f)) :: .ref (a 0) :: rest)) :=
  kgo_v (va_runV (As := [.int (nI (f)), .int (nI (t)), .int (nI (o))]) (rest := rest) S (c_X2_sendKnown l D cy a X σ f t o hf ht ho H.size) (cwV 3 S.2.2.2.2 (gw_good_1 wm_334 (gw_good_1 wm_336 (gw_good_1 wm_17 (gw_good_1 wm_48 (gw_good_in wm_337))))) rfl rfl rfl (by decide +kernel) hR) ⟨kblind nestC_ok, crecv_net hK hP, kpre nestC_ok hN hK hP hD⟩ rfl rfl hsz rfl (lv_room hW) hdg hfc) hD hS hA kk
set_option maxHeartbeats 400000 in
set_option maxRecDepth 100000 in
theorem c_X2_sendAllKnown (l : Launch) (D : va_G) (cy : Nat → ClassId) (a : Nat → Nat) (X : va_W) (σ : CS) (f : Nat) (t : Nat) (hf : f < 8) (ht : t < 8) : MetV l yX2_sendAllKnown cX2_sendAllKnown 4 (kRm 2 0 0) D (tyA cy) nestC [.ref (a 0), .int (nI (f)), .int (nI (t))] (X ++ cB cy a σ) (X ++ cB cy a (cSendAll f t σ)) 0 0 := by
  intro sz
  refine kmet (own := RX2) (by decide) rfl (Nat.le_of_ble_eq_true rfl) (fun p e s m args below meth c S hr hlk hK hN hP hD hsz hA hnm ls hl => ?_)
  have hS : va_S (va_A (X ++ cB cy a σ) sz) s.heap s.heap [] := va_S.rf
  have hl : lv_has ls 4 [(0, .ref (a 0)), (1, .int (nI (f))), (2, .int (nI (t)))] := hl
  refine lv_iconst (v := (nI 0)) S.1 S.2.1 dX2_sendAllKnown_0 (by decide) ?_
  refine lv_istore_n (lv' := [(3, .int (nI 0)), (0, .ref (a 0)), (1, .int (nI (f))), (2, .int (nI (t)))]) S.1 S.2.1 dX2_sendAllKnown_1 rfl hl (by decide) rfl (fun ls hl => ?_)
  have lp1 : ∀ (n1 i1 : Nat) (σ1 : CS), i1 + n1 = 8 → itr (cSendKnown f t) n1 i1 σ1 = itr (cSendKnown f t) 8 0 σ → ∀ (H : Heap) (locs : List Loc), va_P D vwCl (X ++ cB cy a σ1) H → va_D (va_A (X ++ cB cy a σ) sz) (X ++ cB cy a σ1) → va_S (va_A (X ++ cB cy a σ) sz) s.heap H locs → ∀ ls : Array Slot, lv_has ls 4 [(3, .int (nI (i1))), (0, .ref (a 0)), (1, .int (nI (f))), (2, .int (nI (t)))] → W p l e (kRm 2 0 0) s m args below meth c H locs 0 0 (MQ below (kQv D (X ++ cB cy a σ) (X ++ cB cy a (cSendAll f t σ)) sz) args s 0 0 (va_A (X ++ cB cy a σ) sz)) (F0 m 2 ls []) := by
    intro n1
    induction n1 with
    | zero =>
      intro i1 σ1 hi1 he1 H locs hP hD hS ls hl
      have hi1 : i1 = 8 := by omega
      have he1 : σ1 = itr (cSendKnown f t) 8 0 σ := he1
      refine lv_iload_n S.1 S.2.1 dX2_sendAllKnown_2 rfl (lv_at hl 0 rfl) ?_
      refine lv_bipush (v := (nI 8)) S.1 S.2.1 dX2_sendAllKnown_3 (by decide) ?_
      refine lv_icmp_ge (tgt := 21) S.1 S.2.1 dX2_sendAllKnown_5 (by decide) (fun _ => ?_) (fun c => absurd (nI_le (by omega) (by omega)) c)
      have e9 : cSendAll f t σ = σ1 := by first | (simp only [cSendAll, ← he1, reduceIte, Bool.false_eq_true, eq_self_iff_true, if_true, if_false]; done) | with_reducible rfl
      rw [e9]
      exact kret_v S hr hlk hP hD hS dX2_sendAllKnown_21
    | succ n1 ih1 =>
      intro i1 σ1 hi1 he1 H locs hP hD hS ls hl
      have hlt1 : i1 < 8 := by omega
      refine lv_iload_n S.1 S.2.1 dX2_sendAllKnown_2 rfl (lv_at hl 0 rfl) ?_
      refine lv_bipush (v := (nI 8)) S.1 S.2.1 dX2_sendAllKnown_3 (by decide) ?_
      refine lv_icmp_ge (tgt := 21) S.1 S.2.1 dX2_sendAllKnown_5 (by decide) (fun c => absurd c (nI_ge (by omega) (by omega))) (fun _ => ?_)
      refine lv_aload_n S.1 S.2.1 dX2_sendAllKnown_8 rfl (lv_at hl 1 rfl) ?_
      refine lv_iload_n S.1 S.2.1 dX2_sendAllKnown_9 rfl (lv_at hl 2 rfl) ?_
      refine lv_iload_n S.1 S.2.1 dX2_sendAllKnown_10 rfl (lv_at hl 3 rfl) ?_
      refine lv_iload_n S.1 S.2.1 dX2_sendAllKnown_11 rfl (lv_at hl 0 rfl) ?_
      refine call_X2_sendKnown S hK hN hP hD hS hA (f := f) (t := t) (o := i1) (by omega) (by omega) (by omega) hl.1 (Nat.le_of_ble_eq_true rfl) ⟨Nat.le_of_ble_eq_true rfl, Nat.le_of_ble_eq_true rfl⟩ dX2_sendAllKnown_12 ⟨Nat.le_refl _, Nat.le_refl _⟩ (fun H locs hP hD hS => ?_)
      refine lv_iinc (v := (nI (i1 + 1))) (lv' := [(3, .int (nI (i1 + 1))), (0, .ref (a 0)), (1, .int (nI (f))), (2, .int (nI (t)))]) S.1 S.2.1 dX2_sendAllKnown_15 hl (k := 0) rfl (nI_add _ 1) (by decide) rfl (fun ls hl => ?_)
      refine lv_goto (tgt := 2) S.1 S.2.1 dX2_sendAllKnown_18 (by decide) ?_
      exact ih1 (i1 + 1) (cSendKnown f t i1 σ1) (by omega) (itr_step he1 (by first | (simp only [cSendKnown, reduceIte, Bool.false_eq_true, eq_self_iff_true, if_true, if_false]; done) | with_reducible rfl)) _ _ hP hD hS _ (lv_sub hl [0, 1, 2, 3] rfl)
  exact lp1 8 0 σ (by omega) rfl _ _ hP hD hS _ (lv_sub hl [0, 1, 2, 3] rfl)
theorem call_X2_sendAllKnown {p : Program} {l : Launch} {e : Env} {R : Room} {s : State} {m : MethodId} {args : Array Value} {below : List Frame} {meth : Method} {c : Code} {H : Heap} {locs : List Loc} {cells slots : Nat} {Q : State → Prop} {cc : ByteArray} {pc nL : Nat} {ls : Array Slot} {rest : List Value} {D : va_G} {A : Nat → Prop} {w0 : Cond} {X : va_W} {cy : Nat → ClassId} {a : Nat → Nat} {σ : CS} (S : CallFix p m c cc nL s args (w0 :: gw) RX2) (hK : va_K D vwCl (tyA cy) s) (hN : kN nestC s) (hP : va_P D vwCl (X ++ cB cy a σ) H) (hD : va_D A (X ++ cB cy a σ)) (hS : va_S A s.heap H locs) (hA : ∀ q, s.heap.size ≤ q → A q) {f : Nat} {t : Nat} (hf : f < 8) (ht : t < 8) (hsz : ls.size = nL) (hW : (rest.map fun v => v.category).sum ≤ 8) (hR : 2 + 1 ≤ R.frames ∧ 8 + (4 + 11) + 32 * 2 ≤ R.locals) (hdg : decode cc pc = .ok (.invokevirtual 104, 3)) (hfc : cells ≤ R.cells ∧ slots ≤ R.slots)
    (kk : ∀ (H1 : Heap) (locs1 : List Loc), va_P D vwCl (X ++ cB cy a (cSendAll f t σ)) H1 → va_D A (X ++ cB cy a (cSendAll f t σ)) → va_S A s.heap H1 locs1 → W p l e R s m args below meth c H1 locs1 cells slots Q (F0 m (pc + 3) ls (rest))) : W p l e R s m args below meth c H locs cells slots Q (F0 m pc ls (.int (nI (t)) :: .int (nI (f)) :: .ref (a 0) :: rest)) :=
  kgo_v (va_runV (As := [.int (nI (f)), .int (nI (t))]) (rest := rest) S (c_X2_sendAllKnown l D cy a X σ f t hf ht H.size) (cwV 2 S.2.2.2.2 (gw_good_1 wm_341 (gw_good_1 wm_343 (gw_good_1 wm_18 (gw_good_1 wm_48 (gw_good_in wm_344))))) rfl rfl rfl (by decide +kernel) hR) ⟨kblind nestC_ok, crecv_net hK hP, kpre nestC_ok hN hK hP hD⟩ rfl rfl hsz rfl (lv_room hW) hdg hfc) hD hS hA kk
set_option maxHeartbeats 400000 in
set_option maxRecDepth 100000 in
theorem c_X2_spread (l : Launch) (D : va_G) (cy : Nat → ClassId) (a : Nat → Nat) (X : va_W) (σ : CS) (u : Nat) (o : Nat) (x : Int32) (hu : u < 8) (ho : o < 8) : MetV l yX2_spread cX2_spread 5 (kRm 2 0 0) D (tyA cy) nestC [.ref (a 0), .int (nI (u)), .int (nI (o)), .int (x)] (X ++ cB cy a σ) (X ++ cB cy a (cSpread u o x σ)) 0 0 := by
  intro sz
  refine kmet (own := RX2) (by decide) rfl (Nat.le_of_ble_eq_true rfl) (fun p e s m args below meth c S hr hlk hK hN hP hD hsz hA hnm ls hl => ?_)
  have hS : va_S (va_A (X ++ cB cy a σ) sz) s.heap s.heap [] := va_S.rf
  have hl : lv_has ls 5 [(0, .ref (a 0)), (1, .int (nI (u))), (2, .int (nI (o))), (3, .int (x))] := hl
  refine lv_iconst (v := (nI 0)) S.1 S.2.1 dX2_spread_0 (by decide) ?_
  refine lv_istore (lv' := [(4, .int (nI 0)), (0, .ref (a 0)), (1, .int (nI (u))), (2, .int (nI (o))), (3, .int (x))]) S.1 S.2.1 dX2_spread_1 hl (by decide) rfl (fun ls hl => ?_)
  have lp1 : ∀ (n1 i1 : Nat) (σ1 : CS), i1 + n1 = 8 → itr (fSpread u o x) n1 i1 σ1 = itr (fSpread u o x) 8 0 σ → ∀ (H : Heap) (locs : List Loc), va_P D vwCl (X ++ cB cy a σ1) H → va_D (va_A (X ++ cB cy a σ) sz) (X ++ cB cy a σ1) → va_S (va_A (X ++ cB cy a σ) sz) s.heap H locs → ∀ ls : Array Slot, lv_has ls 5 [(4, .int (nI (i1))), (0, .ref (a 0)), (1, .int (nI (u))), (2, .int (nI (o))), (3, .int (x))] → W p l e (kRm 2 0 0) s m args below meth c H locs 0 0 (MQ below (kQv D (X ++ cB cy a σ) (X ++ cB cy a (cSpread u o x σ)) sz) args s 0 0 (va_A (X ++ cB cy a σ) sz)) (F0 m 3 ls []) := by
    intro n1
    induction n1 with
    | zero =>
      intro i1 σ1 hi1 he1 H locs hP hD hS ls hl
      have hi1 : i1 = 8 := by omega
      have he1 : σ1 = itr (fSpread u o x) 8 0 σ := he1
      refine lv_iload S.1 S.2.1 dX2_spread_3 (lv_at hl 0 rfl) ?_
      refine lv_bipush (v := (nI 8)) S.1 S.2.1 dX2_spread_5 (by decide) ?_
      refine lv_icmp_ge (tgt := 40) S.1 S.2.1 dX2_spread_7 (by decide) (fun _ => ?_) (fun c => absurd (nI_le (by omega) (by omega)) c)
      have e9 : cSpread u o x σ = σ1 := by first | (simp only [cSpread, ← he1, reduceIte, Bool.false_eq_true, eq_self_iff_true, if_true, if_false]; done) | with_reducible rfl
      rw [e9]
      exact kret_v S hr hlk hP hD hS dX2_spread_40
    | succ n1 ih1 =>
      intro i1 σ1 hi1 he1 H locs hP hD hS ls hl
      have hlt1 : i1 < 8 := by omega
      refine lv_iload S.1 S.2.1 dX2_spread_3 (lv_at hl 0 rfl) ?_
      refine lv_bipush (v := (nI 8)) S.1 S.2.1 dX2_spread_5 (by decide) ?_
      refine lv_icmp_ge (tgt := 40) S.1 S.2.1 dX2_spread_7 (by decide) (fun c => absurd c (nI_ge (by omega) (by omega))) (fun _ => ?_)
      refine lv_iload S.1 S.2.1 dX2_spread_10 (lv_at hl 0 rfl) ?_
      refine lv_iload_n S.1 S.2.1 dX2_spread_12 rfl (lv_at hl 4 rfl) ?_
      refine lv_icmp_eq (tgt := 34) S.1 S.2.1 dX2_spread_13 (by decide) (fun c4 => ?_) (fun c4 => ?_)
      · refine lv_iinc (v := (nI (i1 + 1))) (lv' := [(4, .int (nI (i1 + 1))), (0, .ref (a 0)), (1, .int (nI (u))), (2, .int (nI (o))), (3, .int (x))]) S.1 S.2.1 dX2_spread_34 hl (k := 0) rfl (nI_add _ 1) (by decide) rfl (fun ls hl => ?_)
        refine lv_goto (tgt := 3) S.1 S.2.1 dX2_spread_37 (by decide) ?_
        exact ih1 (i1 + 1) σ1 (by omega) (itr_step he1 (by first | (simp only [fSpread, eq_true c4, reduceIte, Bool.false_eq_true, eq_self_iff_true, if_true, if_false]; done) | with_reducible rfl)) _ _ hP hD hS _ (lv_sub hl [0, 1, 2, 3, 4] rfl)
      · refine lv_aload_n S.1 S.2.1 dX2_spread_16 rfl (lv_at hl 1 rfl) ?_
        refine lv_iload_n S.1 S.2.1 dX2_spread_17 rfl (lv_at hl 2 rfl) ?_
        refine lv_iload S.1 S.2.1 dX2_spread_18 (lv_at hl 0 rfl) ?_
        refine call_X2_carries S hK hN hP hD hS hA (u := u) (v := i1) (by omega) (by omega) hl.1 (Nat.le_of_ble_eq_true rfl) ⟨Nat.le_of_ble_eq_true rfl, Nat.le_of_ble_eq_true rfl⟩ dX2_spread_20 ⟨Nat.le_refl _, Nat.le_refl _⟩ (fun H locs hP hD hS => ?_)
        refine kb_eq (tgt := 34) S dX2_spread_23 (by decide) (fun c5 => ?_) (fun c5 => ?_)
        · refine lv_iinc (v := (nI (i1 + 1))) (lv' := [(4, .int (nI (i1 + 1))), (0, .ref (a 0)), (1, .int (nI (u))), (2, .int (nI (o))), (3, .int (x))]) S.1 S.2.1 dX2_spread_34 hl (k := 0) rfl (nI_add _ 1) (by decide) rfl (fun ls hl => ?_)
          refine lv_goto (tgt := 3) S.1 S.2.1 dX2_spread_37 (by decide) ?_
          exact ih1 (i1 + 1) σ1 (by omega) (itr_step he1 (by first | (simp only [fSpread, c4, c5, reduceIte, Bool.false_eq_true, eq_self_iff_true, if_true, if_false]; done) | with_reducible rfl)) _ _ hP hD hS _ (lv_sub hl [0, 1, 2, 3, 4] rfl)
        · refine lv_aload_n S.1 S.2.1 dX2_spread_26 rfl (lv_at hl 1 rfl) ?_
          refine lv_iload_n S.1 S.2.1 dX2_spread_27 rfl (lv_at hl 2 rfl) ?_
          refine lv_iload S.1 S.2.1 dX2_spread_28 (lv_at hl 0 rfl) ?_
          refine lv_iload_n S.1 S.2.1 dX2_spread_30 rfl (lv_at hl 3 rfl) ?_
          refine call_X2_sendKnown S hK hN hP hD hS hA (f := u) (t := i1) (o := o) (by omega) (by omega) (by omega) hl.1 (Nat.le_of_ble_eq_true rfl) ⟨Nat.le_of_ble_eq_true rfl, Nat.le_of_ble_eq_true rfl⟩ dX2_spread_31 ⟨Nat.le_refl _, Nat.le_refl _⟩ (fun H locs hP hD hS => ?_)
          refine lv_iinc (v := (nI (i1 + 1))) (lv' := [(4, .int (nI (i1 + 1))), (0, .ref (a 0)), (1, .int (nI (u))), (2, .int (nI (o))), (3, .int (x))]) S.1 S.2.1 dX2_spread_34 hl (k := 0) rfl (nI_add _ 1) (by decide) rfl (fun ls hl => ?_)
          refine lv_goto (tgt := 3) S.1 S.2.1 dX2_spread_37 (by decide) ?_
          exact ih1 (i1 + 1) (cSendKnown u i1 o σ1) (by omega) (itr_step he1 (by first | (simp only [fSpread, c4, c5, reduceIte, Bool.false_eq_true, eq_self_iff_true, if_true, if_false]; done) | with_reducible rfl)) _ _ hP hD hS _ (lv_sub hl [0, 1, 2, 3, 4] rfl)
  exact lp1 8 0 σ (by omega) rfl _ _ hP hD hS _ (lv_sub hl [0, 1, 2, 3, 4] rfl)
theorem call_X2_spread {p : Program} {l : Launch} {e : Env} {R : Room} {s : State} {m : MethodId} {args : Array Value} {below : List Frame} {meth : Method} {c : Code} {H : Heap} {locs : List Loc} {cells slots : Nat} {Q : State → Prop} {cc : ByteArray} {pc nL : Nat} {ls : Array Slot} {rest : List Value} {D : va_G} {A : Nat → Prop} {w0 : Cond} {X : va_W} {cy : Nat → ClassId} {a : Nat → Nat} {σ : CS} (S : CallFix p m c cc nL s args (w0 :: gw) RX2) (hK : va_K D vwCl (tyA cy) s) (hN : kN nestC s) (hP : va_P D vwCl (X ++ cB cy a σ) H) (hD : va_D A (X ++ cB cy a σ)) (hS : va_S A s.heap H locs) (hA : ∀ q, s.heap.size ≤ q → A q) {u : Nat} {o : Nat} {x : Int32} (hu : u < 8) (ho : o < 8) (hsz : ls.size = nL) (hW : (rest.map fun v => v.category).sum ≤ 8) (hR : 2 + 1 ≤ R.frames ∧ 8 + (5 + 11) + 32 * 2 ≤ R.locals) (hdg : decode cc pc = .ok (.invokevirtual 206, 3)) (hfc : cells ≤ R.cells ∧ slots ≤ R.slots)
    (kk : ∀ (H1 : Heap) (locs1 : List Loc), va_P D vwCl (X ++ cB cy a (cSpread u o x σ)) H1 → va_D A (X ++ cB cy a (cSpread u o x σ)) → va_S A s.heap H1 locs1 → W p l e R s m args below meth c H1 locs1 cells slots Q (F0 m (pc + 3) ls (rest))) : W p l e R s m args below meth c H locs cells slots Q (F0 m pc ls (.int (x) :: .int (nI (o)) :: .int (nI (u)) :: .ref (a 0) :: rest)) :=
  kgo_v (va_runV (As := [.int (nI (u)), .int (nI (o)), .int (x)]) (rest := rest) S (c_X2_spread l D cy a X σ u o x hu ho H.size) (cwV 3 S.2.2.2.2 (gw_good_1 wm_330 (gw_good_1 wm_332 (gw_good_1 wm_16 (gw_good_1 wm_48 (gw_good_in wm_333))))) rfl rfl rfl (by decide +kernel) hR) ⟨kblind nestC_ok, crecv_net hK hP, kpre nestC_ok hN hK hP hD⟩ rfl rfl hsz rfl (lv_room hW) hdg hfc) hD hS hA kk
set_option maxHeartbeats 400000 in
set_option maxRecDepth 100000 in
theorem c_X2_tell (l : Launch) (D : va_G) (cy : Nat → ClassId) (a : Nat → Nat) (X : va_W) (σ : CS) (u : Nat) (hu : u < 8) : MetV l yX2_tell cX2_tell 2 (kRm 3 0 0) D (tyA cy) nestC [.ref (a 0), .int (nI (u))] (X ++ cB cy a σ) (X ++ cB cy a (cTell u σ)) 0 0 := by
  intro sz
  refine kmet (own := RX2) (by decide) rfl (Nat.le_of_ble_eq_true rfl) (fun p e s m args below meth c S hr hlk hK hN hP hD hsz hA hnm ls hl => ?_)
  have hS : va_S (va_A (X ++ cB cy a σ) sz) s.heap s.heap [] := va_S.rf
  have hl : lv_has ls 2 [(0, .ref (a 0)), (1, .int (nI (u)))] := hl
  refine lv_aload_n S.1 S.2.1 dX2_tell_0 rfl (lv_at hl 0 rfl) ?_
  refine cf_net_latestNumber S hK hP dX2_tell_1 ?_
  refine lv_iload_n S.1 S.2.1 dX2_tell_4 rfl (lv_at hl 1 rfl) ?_
  refine lv_dup2_11 S.1 S.2.1 dX2_tell_5 rfl rfl ?_
  refine ca_latest S hK hP (j := u) (by omega) dX2_tell_6 ?_
  refine lv_iconst (v := (nI 1)) S.1 S.2.1 dX2_tell_7 (by decide) ?_
  refine lv_iadd S.1 S.2.1 dX2_tell_8 ?_
  refine cs_latest S hK hP hD hS (j := u) (by omega) dX2_tell_9 (fun H locs hP hD hS => ?_)
  refine lv_aload_n S.1 S.2.1 dX2_tell_10 rfl (lv_at hl 0 rfl) ?_
  refine cf_net_known S hK hP dX2_tell_11 ?_
  refine lv_iload_n S.1 S.2.1 dX2_tell_14 rfl (lv_at hl 1 rfl) ?_
  refine lv_iload_n S.1 S.2.1 dX2_tell_15 rfl (lv_at hl 1 rfl) ?_
  refine call_X2_knownRow S hK hN hP hD hS hA (u := u) (v := u)  hl.1 (Nat.le_of_ble_eq_true rfl) ⟨Nat.le_of_ble_eq_true rfl, Nat.le_of_ble_eq_true rfl⟩ dX2_tell_16 ⟨Nat.le_refl _, Nat.le_refl _⟩ (fun H locs hP hD hS => ?_)
  refine lv_aload_n S.1 S.2.1 dX2_tell_19 rfl (lv_at hl 0 rfl) ?_
  refine cf_net_latestNumber S hK hP dX2_tell_20 ?_
  refine lv_iload_n S.1 S.2.1 dX2_tell_23 rfl (lv_at hl 1 rfl) ?_
  refine ca_latest S hK hP (j := u) (by omega) dX2_tell_24 ?_
  refine lv_aload_n S.1 S.2.1 dX2_tell_25 rfl (lv_at hl 0 rfl) ?_
  refine cf_net_time S hK hP dX2_tell_26 ?_
  refine lv_aload_n S.1 S.2.1 dX2_tell_29 rfl (lv_at hl 0 rfl) ?_
  refine lv_iload_n S.1 S.2.1 dX2_tell_30 rfl (lv_at hl 1 rfl) ?_
  refine call_X2_costsNow S hK hN hP hD hS hA (u := u) (by omega) hl.1 (Nat.le_of_ble_eq_true rfl) ⟨Nat.le_of_ble_eq_true rfl, Nat.le_of_ble_eq_true rfl⟩ dX2_tell_31 ⟨Nat.le_refl _, Nat.le_refl _⟩ (fun H locs hP hD hS => ?_)
  refine call_X1_write_known S hK hN hP hD hS hA (row := u * 8 + u) (x := (sI 2 u ((σ.1 2 u) + (nI 1)) σ).1 2 u) (y := (sI 2 u ((σ.1 2 u) + (nI 1)) σ).1 0 2) (z := cCosts (sI 2 u ((σ.1 2 u) + (nI 1)) σ) u) (by omega) hl.1 (Nat.le_of_ble_eq_true rfl) ⟨Nat.le_of_ble_eq_true rfl, Nat.le_of_ble_eq_true rfl⟩ dX2_tell_34 ⟨Nat.le_refl _, Nat.le_refl _⟩ (fun H locs hP hD hS => ?_)
  refine lv_aload_n S.1 S.2.1 dX2_tell_37 rfl (lv_at hl 0 rfl) ?_
  refine lv_iload_n S.1 S.2.1 dX2_tell_38 rfl (lv_at hl 1 rfl) ?_
  refine lv_iload_n S.1 S.2.1 dX2_tell_39 rfl (lv_at hl 1 rfl) ?_
  refine lv_iconst (v := (-1)) S.1 S.2.1 dX2_tell_40 (by decide) ?_
  refine call_X2_spread S hK hN hP hD hS hA (u := u) (o := u) (x := -1) (by omega) (by omega) hl.1 (Nat.le_of_ble_eq_true rfl) ⟨Nat.le_of_ble_eq_true rfl, Nat.le_of_ble_eq_true rfl⟩ dX2_tell_41 ⟨Nat.le_refl _, Nat.le_refl _⟩ (fun H locs hP hD hS => ?_)
  have e9 : cTell u σ = cSpread u u (-1) (pWrite 6 7 0 3 (u * 8 + u) ((sI 2 u ((σ.1 2 u) + (nI 1)) σ).1 2 u) ((sI 2 u ((σ.1 2 u) + (nI 1)) σ).1 0 2) (cCosts (sI 2 u ((σ.1 2 u) + (nI 1)) σ) u) (sI 2 u ((σ.1 2 u) + (nI 1)) σ)) := by first | (simp only [cTell, tell2, tell1, reduceIte, Bool.false_eq_true, eq_self_iff_true, if_true, if_false]; done) | with_reducible rfl
  rw [e9]
  exact kret_v S hr hlk hP hD hS dX2_tell_44
theorem call_X2_tell {p : Program} {l : Launch} {e : Env} {R : Room} {s : State} {m : MethodId} {args : Array Value} {below : List Frame} {meth : Method} {c : Code} {H : Heap} {locs : List Loc} {cells slots : Nat} {Q : State → Prop} {cc : ByteArray} {pc nL : Nat} {ls : Array Slot} {rest : List Value} {D : va_G} {A : Nat → Prop} {w0 : Cond} {X : va_W} {cy : Nat → ClassId} {a : Nat → Nat} {σ : CS} (S : CallFix p m c cc nL s args (w0 :: gw) RX2) (hK : va_K D vwCl (tyA cy) s) (hN : kN nestC s) (hP : va_P D vwCl (X ++ cB cy a σ) H) (hD : va_D A (X ++ cB cy a σ)) (hS : va_S A s.heap H locs) (hA : ∀ q, s.heap.size ≤ q → A q) {u : Nat} (hu : u < 8) (hsz : ls.size = nL) (hW : (rest.map fun v => v.category).sum ≤ 8) (hR : 3 + 1 ≤ R.frames ∧ 8 + (2 + 11) + 32 * 3 ≤ R.locals) (hdg : decode cc pc = .ok (.invokevirtual 98, 3)) (hfc : cells ≤ R.cells ∧ slots ≤ R.slots)
    (kk : ∀ (H1 : Heap) (locs1 : List Loc), va_P D vwCl (X ++ cB cy a (cTell u σ)) H1 → va_D A (X ++ cB cy a (cTell u σ)) → va_S A s.heap H1 locs1 → W p l e R s m args below meth c H1 locs1 cells slots Q (F0 m (pc + 3) ls (rest))) : W p l e R s m args below meth c H locs cells slots Q (F0 m pc ls (.int (nI (u)) :: .ref (a 0) :: rest)) :=
  kgo_v (va_runV (As := [.int (nI (u))]) (rest := rest) S (c_X2_tell l D cy a X σ u hu H.size) (cwV 1 S.2.2.2.2 (gw_good_1 wm_315 (gw_good_1 wm_317 (gw_good_1 wm_13 (gw_good_1 wm_48 (gw_good_in wm_318))))) rfl rfl rfl (by decide +kernel) hR) ⟨kblind nestC_ok, crecv_net hK hP, kpre nestC_ok hN hK hP hD⟩ rfl rfl hsz rfl (lv_room hW) hdg hfc) hD hS hA kk
set_option maxHeartbeats 400000 in
set_option maxRecDepth 100000 in
theorem c_X2_stepCost (l : Launch) (D : va_G) (cy : Nat → ClassId) (a : Nat → Nat) (X : va_W) (σ : CS) (v : Nat) (f : Nat) (t : Nat) (hv : v < 8) (hf : f < 8) (ht : t < 8) : MetI l yX2_stepCost cX2_stepCost 5 .int (kRm 1 0 0) D (tyA cy) nestC [.ref (a 0), .int (nI (v)), .int (nI (f)), .int (nI (t))] (X ++ cB cy a σ) (X ++ cB cy a σ) (cStep σ v f t) 0 0 := by
  intro sz
  refine kmet (own := RX2) (by decide) rfl (Nat.le_of_ble_eq_true rfl) (fun p e s m args below meth c S hr hlk hK hN hP hD hsz hA hnm ls hl => ?_)
  have hS : va_S (va_A (X ++ cB cy a σ) sz) s.heap s.heap [] := va_S.rf
  have hl : lv_has ls 5 [(0, .ref (a 0)), (1, .int (nI (v))), (2, .int (nI (f))), (3, .int (nI (t)))] := hl
  refine lv_aload_n S.1 S.2.1 dX2_stepCost_0 rfl (lv_at hl 0 rfl) ?_
  refine cf_net_known S hK hP dX2_stepCost_1 ?_
  refine lv_iload_n S.1 S.2.1 dX2_stepCost_4 rfl (lv_at hl 1 rfl) ?_
  refine lv_iload_n S.1 S.2.1 dX2_stepCost_5 rfl (lv_at hl 3 rfl) ?_
  refine call_X2_knownRow S hK hN hP hD hS hA (u := v) (v := t)  hl.1 (Nat.le_of_ble_eq_true rfl) ⟨Nat.le_of_ble_eq_true rfl, Nat.le_of_ble_eq_true rfl⟩ dX2_stepCost_6 ⟨Nat.le_refl _, Nat.le_refl _⟩ (fun H locs hP hD hS => ?_)
  refine lv_iload_n S.1 S.2.1 dX2_stepCost_9 rfl (lv_at hl 2 rfl) ?_
  refine call_X1_costFor_known_X2 S hK hN hP hD hS hA (row := v * 8 + t) (w := f) (by omega) hl.1 (Nat.le_of_ble_eq_true rfl) ⟨Nat.le_of_ble_eq_true rfl, Nat.le_of_ble_eq_true rfl⟩ dX2_stepCost_10 ⟨Nat.le_refl _, Nat.le_refl _⟩ (fun H locs hP hD hS => ?_)
  refine lv_istore (lv' := [(4, .int (costF (σ.2 0 (v * 8 + t)) f)), (0, .ref (a 0)), (1, .int (nI (v))), (2, .int (nI (f))), (3, .int (nI (t)))]) S.1 S.2.1 dX2_stepCost_13 hl (by decide) rfl (fun ls hl => ?_)
  refine lv_iload S.1 S.2.1 dX2_stepCost_15 (lv_at hl 0 rfl) ?_
  refine lv_if_le (tgt := 36) S.1 S.2.1 dX2_stepCost_17 (by decide) (fun c1 => ?_) (fun c1 => ?_)
  · refine lv_iconst (v := (nI 0)) S.1 S.2.1 dX2_stepCost_36 (by decide) ?_
    exact kret_i S hr hlk hP hD hS (by first | (simp only [cStep, c1, reduceIte, Bool.false_eq_true, eq_self_iff_true, if_true, if_false]; done) | with_reducible rfl) dX2_stepCost_37
  · refine lv_aload_n S.1 S.2.1 dX2_stepCost_20 rfl (lv_at hl 1 rfl) ?_
    refine cf_net_known S hK hP dX2_stepCost_21 ?_
    refine lv_iload_n S.1 S.2.1 dX2_stepCost_24 rfl (lv_at hl 2 rfl) ?_
    refine lv_iload_n S.1 S.2.1 dX2_stepCost_25 rfl (lv_at hl 3 rfl) ?_
    refine call_X2_knownRow S hK hN hP hD hS hA (u := v) (v := f)  hl.1 (Nat.le_of_ble_eq_true rfl) ⟨Nat.le_of_ble_eq_true rfl, Nat.le_of_ble_eq_true rfl⟩ dX2_stepCost_26 ⟨Nat.le_refl _, Nat.le_refl _⟩ (fun H locs hP hD hS => ?_)
    refine lv_iload_n S.1 S.2.1 dX2_stepCost_29 rfl (lv_at hl 4 rfl) ?_
    refine call_X1_costFor_known_X2 S hK hN hP hD hS hA (row := v * 8 + f) (w := t) (by omega) hl.1 (Nat.le_of_ble_eq_true rfl) ⟨Nat.le_of_ble_eq_true rfl, Nat.le_of_ble_eq_true rfl⟩ dX2_stepCost_30 ⟨Nat.le_refl _, Nat.le_refl _⟩ (fun H locs hP hD hS => ?_)
    refine lv_goto (tgt := 37) S.1 S.2.1 dX2_stepCost_33 (by decide) ?_
    exact kret_i S hr hlk hP hD hS (by first | (simp only [cStep, c1, reduceIte, Bool.false_eq_true, eq_self_iff_true, if_true, if_false]; done) | with_reducible rfl) dX2_stepCost_37
theorem call_X2_stepCost {p : Program} {l : Launch} {e : Env} {R : Room} {s : State} {m : MethodId} {args : Array Value} {below : List Frame} {meth : Method} {c : Code} {H : Heap} {locs : List Loc} {cells slots : Nat} {Q : State → Prop} {cc : ByteArray} {pc nL : Nat} {ls : Array Slot} {rest : List Value} {D : va_G} {A : Nat → Prop} {w0 : Cond} {X : va_W} {cy : Nat → ClassId} {a : Nat → Nat} {σ : CS} (S : CallFix p m c cc nL s args (w0 :: gw) RX2) (hK : va_K D vwCl (tyA cy) s) (hN : kN nestC s) (hP : va_P D vwCl (X ++ cB cy a σ) H) (hD : va_D A (X ++ cB cy a σ)) (hS : va_S A s.heap H locs) (hA : ∀ q, s.heap.size ≤ q → A q) {v : Nat} {f : Nat} {t : Nat} (hv : v < 8) (hf : f < 8) (ht : t < 8) (hsz : ls.size = nL) (hW : (rest.map fun v => v.category).sum ≤ 8) (hR : 1 + 1 ≤ R.frames ∧ 8 + (5 + 11) + 32 * 1 ≤ R.locals) (hdg : decode cc pc = .ok (.invokevirtual 236, 3)) (hfc : cells ≤ R.cells ∧ slots ≤ R.slots)
    (kk : ∀ (H1 : Heap) (locs1 : List Loc), va_P D vwCl (X ++ cB cy a σ) H1 → va_D A (X ++ cB cy a σ) → va_S A s.heap H1 locs1 → W p l e R s m args below meth c H1 locs1 cells slots Q (F0 m (pc + 3) ls (.int (cStep σ v f t) :: rest))) : W p l e R s m args below meth c H locs cells slots Q (F0 m pc ls (.int (nI (t)) :: .int (nI (f)) :: .int (nI (v)) :: .ref (a 0) :: rest)) :=
  kgo_i (va_runV (As := [.int (nI (v)), .int (nI (f)), .int (nI (t))]) (rest := rest) S (c_X2_stepCost l D cy a X σ v f t hv hf ht H.size) (cwV 3 S.2.2.2.2 (gw_good_1 wm_165 (gw_good_1 wm_167 (gw_good_1 wm_3 (gw_good_1 wm_48 (gw_good_in wm_168))))) rfl rfl rfl (by decide +kernel) hR) ⟨kblind nestC_ok, crecv_net hK hP, kpre nestC_ok hN hK hP hD⟩ rfl rfl hsz rfl (lv_room hW) hdg hfc) hD hS hA kk
