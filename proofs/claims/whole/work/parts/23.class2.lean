set_option maxHeartbeats 400000 in
set_option maxRecDepth 100000 in
theorem c_X1_clearBornUntil_known (l : Launch) (D : va_G) (cy : Nat → ClassId) (a : Nat → Nat) (X : va_W) (σ : CS) (y : Int32)  : MetV l yX1_clearBornUntil cX1_clearBornUntil 4 (kRm 1 0 0) D (tyA cy) nestC [.ref (a 6), .int (y)] (X ++ cB cy a σ) (X ++ cB cy a (cClrB 6 7 0 3 64 y σ)) 0 0 := by
  intro sz
  refine kmet (own := RX1) (by decide) rfl (Nat.le_of_ble_eq_true rfl) (fun p e s m args below meth c S hr hlk hK hN hP hD hsz hA hnm ls hl => ?_)
  have hS : va_S (va_A (X ++ cB cy a σ) sz) s.heap s.heap [] := va_S.rf
  have hl : lv_has ls 4 [(0, .ref (a 6)), (1, .int (y))] := hl
  refine lv_aload_n S.1 S.2.1 dX1_clearBornUntil_0 rfl (lv_at hl 0 rfl) ?_
  refine cf_known_count S hK hP dX1_clearBornUntil_1 ?_
  refine lv_istore_n (lv' := [(2, .int (σ.1 0 3)), (0, .ref (a 6)), (1, .int (y))]) S.1 S.2.1 dX1_clearBornUntil_4 rfl hl (by decide) rfl (fun ls hl => ?_)
  refine lv_iconst (v := (nI 0)) S.1 S.2.1 dX1_clearBornUntil_5 (by decide) ?_
  refine lv_istore_n (lv' := [(3, .int (nI 0)), (2, .int (σ.1 0 3)), (0, .ref (a 6)), (1, .int (y))]) S.1 S.2.1 dX1_clearBornUntil_6 rfl hl (by decide) rfl (fun ls hl => ?_)
  have lp1 : ∀ (n1 i1 : Nat) (σ1 : CS) (x1_0 : Int32), i1 + n1 = 64 → cClr 6 7 0 3 y n1 i1 x1_0 σ1 = cClr 6 7 0 3 y 64 0 (σ.1 0 3) σ → ∀ (H : Heap) (locs : List Loc), va_P D vwCl (X ++ cB cy a σ1) H → va_D (va_A (X ++ cB cy a σ) sz) (X ++ cB cy a σ1) → va_S (va_A (X ++ cB cy a σ) sz) s.heap H locs → ∀ ls : Array Slot, lv_has ls 4 [(3, .int (nI (i1))), (2, .int (x1_0)), (0, .ref (a 6)), (1, .int (y))] → W p l e (kRm 1 0 0) s m args below meth c H locs 0 0 (MQ below (kQv D (X ++ cB cy a σ) (X ++ cB cy a (cClrB 6 7 0 3 64 y σ)) sz) args s 0 0 (va_A (X ++ cB cy a σ) sz)) (F0 m 7 ls []) := by
    intro n1
    induction n1 with
    | zero =>
      intro i1 σ1 x1_0 hi1 he1 H locs hP hD hS ls hl
      have hi1 : i1 = 64 := by omega
      have he1 : σ1 = cClr 6 7 0 3 y 64 0 (σ.1 0 3) σ := he1
      refine lv_iload_n S.1 S.2.1 dX1_clearBornUntil_7 rfl (lv_at hl 0 rfl) ?_
      refine lv_aload_n S.1 S.2.1 dX1_clearBornUntil_8 rfl (lv_at hl 2 rfl) ?_
      refine cf_known_number S hK hP dX1_clearBornUntil_9 ?_
      refine cl_knNumber S hK hP dX1_clearBornUntil_12 ?_
      refine lv_icmp_ge (tgt := 53) S.1 S.2.1 dX1_clearBornUntil_13 (by decide) (fun _ => ?_) (fun c => absurd (nI_le (by omega) (by omega)) c)
      have e9 : cClrB 6 7 0 3 64 y σ = σ1 := by first | (simp only [cClrB, ← he1, reduceIte, Bool.false_eq_true, eq_self_iff_true, if_true, if_false]; done) | with_reducible rfl
      rw [e9]
      exact kret_v S hr hlk hP hD hS dX1_clearBornUntil_53
    | succ n1 ih1 =>
      intro i1 σ1 x1_0 hi1 he1 H locs hP hD hS ls hl
      have hlt1 : i1 < 64 := by omega
      refine lv_iload_n S.1 S.2.1 dX1_clearBornUntil_7 rfl (lv_at hl 0 rfl) ?_
      refine lv_aload_n S.1 S.2.1 dX1_clearBornUntil_8 rfl (lv_at hl 2 rfl) ?_
      refine cf_known_number S hK hP dX1_clearBornUntil_9 ?_
      refine cl_knNumber S hK hP dX1_clearBornUntil_12 ?_
      refine lv_icmp_ge (tgt := 53) S.1 S.2.1 dX1_clearBornUntil_13 (by decide) (fun c => absurd c (nI_ge (by omega) (by omega))) (fun _ => ?_)
      refine lv_iload_n S.1 S.2.1 dX1_clearBornUntil_16 rfl (lv_at hl 1 rfl) ?_
      refine lv_if_le (tgt := 53) S.1 S.2.1 dX1_clearBornUntil_17 (by decide) (fun c4 => ?_) (fun c4 => ?_)
      · have he1 : σ1 = cClr 6 7 0 3 y 64 0 (σ.1 0 3) σ := by rw [← he1]; first | (simp only [cClr, c4, reduceIte, Bool.false_eq_true, eq_self_iff_true, if_true, if_false]; done) | with_reducible rfl
        have e9 : cClrB 6 7 0 3 64 y σ = σ1 := by first | (simp only [cClrB, c4, ← he1, reduceIte, Bool.false_eq_true, eq_self_iff_true, if_true, if_false]; done) | with_reducible rfl
        rw [e9]
        exact kret_v S hr hlk hP hD hS dX1_clearBornUntil_53
      · refine lv_aload_n S.1 S.2.1 dX1_clearBornUntil_20 rfl (lv_at hl 2 rfl) ?_
        refine cf_known_number S hK hP dX1_clearBornUntil_21 ?_
        refine lv_iload_n S.1 S.2.1 dX1_clearBornUntil_24 rfl (lv_at hl 0 rfl) ?_
        refine ca_knNumber S hK hP (j := i1) (by omega) dX1_clearBornUntil_25 ?_
        refine lv_if_le (tgt := 47) S.1 S.2.1 dX1_clearBornUntil_26 (by decide) (fun c5 => ?_) (fun c5 => ?_)
        · refine lv_iinc (v := (nI (i1 + 1))) (lv' := [(3, .int (nI (i1 + 1))), (2, .int (x1_0)), (0, .ref (a 6)), (1, .int (y))]) S.1 S.2.1 dX1_clearBornUntil_47 hl (k := 0) rfl (nI_add _ 1) (by decide) rfl (fun ls hl => ?_)
          refine lv_goto (tgt := 7) S.1 S.2.1 dX1_clearBornUntil_50 (by decide) ?_
          exact ih1 (i1 + 1) σ1 ((x1_0)) (by omega) (by rw [← he1]; first | (simp only [cClr, c4, c5, reduceIte, Bool.false_eq_true, eq_self_iff_true, if_true, if_false]; done) | with_reducible rfl) _ _ hP hD hS _ (lv_sub hl [0, 1, 2, 3] rfl)
        · refine lv_iinc (v := ((x1_0) + (Int32.ofInt (-1)))) (lv' := [(2, .int ((x1_0) + (Int32.ofInt (-1)))), (3, .int (nI (i1))), (0, .ref (a 6)), (1, .int (y))]) S.1 S.2.1 dX1_clearBornUntil_29 hl (k := 1) rfl rfl (by decide) rfl (fun ls hl => ?_)
          refine lv_aload_n S.1 S.2.1 dX1_clearBornUntil_32 rfl (lv_at hl 2 rfl) ?_
          refine cf_known_born S hK hP dX1_clearBornUntil_33 ?_
          refine lv_iload_n S.1 S.2.1 dX1_clearBornUntil_36 rfl (lv_at hl 1 rfl) ?_
          refine ca_knBorn S hK hP (j := i1) (by omega) dX1_clearBornUntil_37 ?_
          refine lv_iload_n S.1 S.2.1 dX1_clearBornUntil_38 rfl (lv_at hl 3 rfl) ?_
          refine lv_icmp_gt (tgt := 47) S.1 S.2.1 dX1_clearBornUntil_39 (by decide) (fun c6 => ?_) (fun c6 => ?_)
          · refine lv_iinc (v := (nI (i1 + 1))) (lv' := [(3, .int (nI (i1 + 1))), (2, .int ((x1_0) + (Int32.ofInt (-1)))), (0, .ref (a 6)), (1, .int (y))]) S.1 S.2.1 dX1_clearBornUntil_47 hl (k := 1) rfl (nI_add _ 1) (by decide) rfl (fun ls hl => ?_)
            refine lv_goto (tgt := 7) S.1 S.2.1 dX1_clearBornUntil_50 (by decide) ?_
            exact ih1 (i1 + 1) σ1 (((x1_0) + (Int32.ofInt (-1)))) (by omega) (by rw [← he1]; first | (simp only [cClr, c4, c5, c6, reduceIte, Bool.false_eq_true, eq_self_iff_true, if_true, if_false]; done) | with_reducible rfl) _ _ hP hD hS _ (lv_sub hl [0, 1, 2, 3] rfl)
          · refine lv_aload_n S.1 S.2.1 dX1_clearBornUntil_42 rfl (lv_at hl 2 rfl) ?_
            refine lv_iload_n S.1 S.2.1 dX1_clearBornUntil_43 rfl (lv_at hl 1 rfl) ?_
            refine call_X1_clear_known_X1 S hK hN hP hD hS hA (row := i1) (by omega) hl.1 (Nat.le_of_ble_eq_true rfl) ⟨Nat.le_of_ble_eq_true rfl, Nat.le_of_ble_eq_true rfl⟩ dX1_clearBornUntil_44 ⟨Nat.le_refl _, Nat.le_refl _⟩ (fun H locs hP hD hS => ?_)
            refine lv_iinc (v := (nI (i1 + 1))) (lv' := [(3, .int (nI (i1 + 1))), (2, .int ((x1_0) + (Int32.ofInt (-1)))), (0, .ref (a 6)), (1, .int (y))]) S.1 S.2.1 dX1_clearBornUntil_47 hl (k := 1) rfl (nI_add _ 1) (by decide) rfl (fun ls hl => ?_)
            refine lv_goto (tgt := 7) S.1 S.2.1 dX1_clearBornUntil_50 (by decide) ?_
            exact ih1 (i1 + 1) (pClear 6 0 3 i1 σ1) (((x1_0) + (Int32.ofInt (-1)))) (by omega) (by rw [← he1]; first | (simp only [cClr, c4, c5, c6, reduceIte, Bool.false_eq_true, eq_self_iff_true, if_true, if_false]; done) | with_reducible rfl) _ _ hP hD hS _ (lv_sub hl [0, 1, 2, 3] rfl)
  exact lp1 64 0 σ ((σ.1 0 3)) (by omega) rfl _ _ hP hD hS _ (lv_sub hl [0, 1, 2, 3] rfl)
theorem call_X1_clearBornUntil_known {p : Program} {l : Launch} {e : Env} {R : Room} {s : State} {m : MethodId} {args : Array Value} {below : List Frame} {meth : Method} {c : Code} {H : Heap} {locs : List Loc} {cells slots : Nat} {Q : State → Prop} {cc : ByteArray} {pc nL : Nat} {ls : Array Slot} {rest : List Value} {D : va_G} {A : Nat → Prop} {w0 : Cond} {X : va_W} {cy : Nat → ClassId} {a : Nat → Nat} {σ : CS} (S : CallFix p m c cc nL s args (w0 :: gw) RX2) (hK : va_K D vwCl (tyA cy) s) (hN : kN nestC s) (hP : va_P D vwCl (X ++ cB cy a σ) H) (hD : va_D A (X ++ cB cy a σ)) (hS : va_S A s.heap H locs) (hA : ∀ q, s.heap.size ≤ q → A q) {y : Int32}  (hsz : ls.size = nL) (hW : (rest.map fun v => v.category).sum ≤ 8) (hR : 1 + 1 ≤ R.frames ∧ 8 + (4 + 11) + 32 * 1 ≤ R.locals) (hdg : decode cc pc = .ok (.invokevirtual 121, 3)) (hfc : cells ≤ R.cells ∧ slots ≤ R.slots)
    (kk : ∀ (H1 : Heap) (locs1 : List Loc), va_P D vwCl (X ++ cB cy a (cClrB 6 7 0 3 64 y σ)) H1 → va_D A (X ++ cB cy a (cClrB 6 7 0 3 64 y σ)) → va_S A s.heap H1 locs1 → W p l e R s m args below meth c H1 locs1 cells slots Q (F0 m (pc + 3) ls (rest))) : W p l e R s m args below meth c H locs cells slots Q (F0 m pc ls (.int (y) :: .ref (a 6) :: rest)) :=
  kgo_v (va_runVN (As := [.int (y)]) (rest := rest) S (c_X1_clearBornUntil_known l D cy a X σ y  H.size) ⟨va_cnB 1 S.2.2.2.2 (gw_good_in wm_407) rfl rfl rfl (hN _ nc_11) (S.2.2.2.2 _ (List.mem_cons_of_mem _ wm_49)) (by decide +kernel) hR, (S.2.2.2.2 _ (List.mem_cons_of_mem _ wm_406)), (S.2.2.2.2 _ (List.mem_cons_of_mem _ wm_24))⟩ ⟨kblind nestC_ok, crecv_known hK hP, kpre nestC_ok hN hK hP hD⟩ rfl rfl hsz rfl (lv_room hW) hdg hfc) hD hS hA kk
set_option maxHeartbeats 400000 in
set_option maxRecDepth 100000 in
theorem c_X1_clearBornUntil_inFlight (l : Launch) (D : va_G) (cy : Nat → ClassId) (a : Nat → Nat) (X : va_W) (σ : CS) (y : Int32)  : MetV l yX1_clearBornUntil cX1_clearBornUntil 4 (kRm 1 0 0) D (tyA cy) nestC [.ref (a 7), .int (y)] (X ++ cB cy a σ) (X ++ cB cy a (cClrB 8 9 1 4 512 y σ)) 0 0 := by
  intro sz
  refine kmet (own := RX1) (by decide) rfl (Nat.le_of_ble_eq_true rfl) (fun p e s m args below meth c S hr hlk hK hN hP hD hsz hA hnm ls hl => ?_)
  have hS : va_S (va_A (X ++ cB cy a σ) sz) s.heap s.heap [] := va_S.rf
  have hl : lv_has ls 4 [(0, .ref (a 7)), (1, .int (y))] := hl
  refine lv_aload_n S.1 S.2.1 dX1_clearBornUntil_0 rfl (lv_at hl 0 rfl) ?_
  refine cf_inFlight_count S hK hP dX1_clearBornUntil_1 ?_
  refine lv_istore_n (lv' := [(2, .int (σ.1 0 4)), (0, .ref (a 7)), (1, .int (y))]) S.1 S.2.1 dX1_clearBornUntil_4 rfl hl (by decide) rfl (fun ls hl => ?_)
  refine lv_iconst (v := (nI 0)) S.1 S.2.1 dX1_clearBornUntil_5 (by decide) ?_
  refine lv_istore_n (lv' := [(3, .int (nI 0)), (2, .int (σ.1 0 4)), (0, .ref (a 7)), (1, .int (y))]) S.1 S.2.1 dX1_clearBornUntil_6 rfl hl (by decide) rfl (fun ls hl => ?_)
  have lp1 : ∀ (n1 i1 : Nat) (σ1 : CS) (x1_0 : Int32), i1 + n1 = 512 → cClr 8 9 1 4 y n1 i1 x1_0 σ1 = cClr 8 9 1 4 y 512 0 (σ.1 0 4) σ → ∀ (H : Heap) (locs : List Loc), va_P D vwCl (X ++ cB cy a σ1) H → va_D (va_A (X ++ cB cy a σ) sz) (X ++ cB cy a σ1) → va_S (va_A (X ++ cB cy a σ) sz) s.heap H locs → ∀ ls : Array Slot, lv_has ls 4 [(3, .int (nI (i1))), (2, .int (x1_0)), (0, .ref (a 7)), (1, .int (y))] → W p l e (kRm 1 0 0) s m args below meth c H locs 0 0 (MQ below (kQv D (X ++ cB cy a σ) (X ++ cB cy a (cClrB 8 9 1 4 512 y σ)) sz) args s 0 0 (va_A (X ++ cB cy a σ) sz)) (F0 m 7 ls []) := by
    intro n1
    induction n1 with
    | zero =>
      intro i1 σ1 x1_0 hi1 he1 H locs hP hD hS ls hl
      have hi1 : i1 = 512 := by omega
      have he1 : σ1 = cClr 8 9 1 4 y 512 0 (σ.1 0 4) σ := he1
      refine lv_iload_n S.1 S.2.1 dX1_clearBornUntil_7 rfl (lv_at hl 0 rfl) ?_
      refine lv_aload_n S.1 S.2.1 dX1_clearBornUntil_8 rfl (lv_at hl 2 rfl) ?_
      refine cf_inFlight_number S hK hP dX1_clearBornUntil_9 ?_
      refine cl_inNumber S hK hP dX1_clearBornUntil_12 ?_
      refine lv_icmp_ge (tgt := 53) S.1 S.2.1 dX1_clearBornUntil_13 (by decide) (fun _ => ?_) (fun c => absurd (nI_le (by omega) (by omega)) c)
      have e9 : cClrB 8 9 1 4 512 y σ = σ1 := by first | (simp only [cClrB, ← he1, reduceIte, Bool.false_eq_true, eq_self_iff_true, if_true, if_false]; done) | with_reducible rfl
      rw [e9]
      exact kret_v S hr hlk hP hD hS dX1_clearBornUntil_53
    | succ n1 ih1 =>
      intro i1 σ1 x1_0 hi1 he1 H locs hP hD hS ls hl
      have hlt1 : i1 < 512 := by omega
      refine lv_iload_n S.1 S.2.1 dX1_clearBornUntil_7 rfl (lv_at hl 0 rfl) ?_
      refine lv_aload_n S.1 S.2.1 dX1_clearBornUntil_8 rfl (lv_at hl 2 rfl) ?_
      refine cf_inFlight_number S hK hP dX1_clearBornUntil_9 ?_
      refine cl_inNumber S hK hP dX1_clearBornUntil_12 ?_
      refine lv_icmp_ge (tgt := 53) S.1 S.2.1 dX1_clearBornUntil_13 (by decide) (fun c => absurd c (nI_ge (by omega) (by omega))) (fun _ => ?_)
      refine lv_iload_n S.1 S.2.1 dX1_clearBornUntil_16 rfl (lv_at hl 1 rfl) ?_
      refine lv_if_le (tgt := 53) S.1 S.2.1 dX1_clearBornUntil_17 (by decide) (fun c4 => ?_) (fun c4 => ?_)
      · have he1 : σ1 = cClr 8 9 1 4 y 512 0 (σ.1 0 4) σ := by rw [← he1]; first | (simp only [cClr, c4, reduceIte, Bool.false_eq_true, eq_self_iff_true, if_true, if_false]; done) | with_reducible rfl
        have e9 : cClrB 8 9 1 4 512 y σ = σ1 := by first | (simp only [cClrB, c4, ← he1, reduceIte, Bool.false_eq_true, eq_self_iff_true, if_true, if_false]; done) | with_reducible rfl
        rw [e9]
        exact kret_v S hr hlk hP hD hS dX1_clearBornUntil_53
      · refine lv_aload_n S.1 S.2.1 dX1_clearBornUntil_20 rfl (lv_at hl 2 rfl) ?_
        refine cf_inFlight_number S hK hP dX1_clearBornUntil_21 ?_
        refine lv_iload_n S.1 S.2.1 dX1_clearBornUntil_24 rfl (lv_at hl 0 rfl) ?_
        refine ca_inNumber S hK hP (j := i1) (by omega) dX1_clearBornUntil_25 ?_
        refine lv_if_le (tgt := 47) S.1 S.2.1 dX1_clearBornUntil_26 (by decide) (fun c5 => ?_) (fun c5 => ?_)
        · refine lv_iinc (v := (nI (i1 + 1))) (lv' := [(3, .int (nI (i1 + 1))), (2, .int (x1_0)), (0, .ref (a 7)), (1, .int (y))]) S.1 S.2.1 dX1_clearBornUntil_47 hl (k := 0) rfl (nI_add _ 1) (by decide) rfl (fun ls hl => ?_)
          refine lv_goto (tgt := 7) S.1 S.2.1 dX1_clearBornUntil_50 (by decide) ?_
          exact ih1 (i1 + 1) σ1 ((x1_0)) (by omega) (by rw [← he1]; first | (simp only [cClr, c4, c5, reduceIte, Bool.false_eq_true, eq_self_iff_true, if_true, if_false]; done) | with_reducible rfl) _ _ hP hD hS _ (lv_sub hl [0, 1, 2, 3] rfl)
        · refine lv_iinc (v := ((x1_0) + (Int32.ofInt (-1)))) (lv' := [(2, .int ((x1_0) + (Int32.ofInt (-1)))), (3, .int (nI (i1))), (0, .ref (a 7)), (1, .int (y))]) S.1 S.2.1 dX1_clearBornUntil_29 hl (k := 1) rfl rfl (by decide) rfl (fun ls hl => ?_)
          refine lv_aload_n S.1 S.2.1 dX1_clearBornUntil_32 rfl (lv_at hl 2 rfl) ?_
          refine cf_inFlight_born S hK hP dX1_clearBornUntil_33 ?_
          refine lv_iload_n S.1 S.2.1 dX1_clearBornUntil_36 rfl (lv_at hl 1 rfl) ?_
          refine ca_inBorn S hK hP (j := i1) (by omega) dX1_clearBornUntil_37 ?_
          refine lv_iload_n S.1 S.2.1 dX1_clearBornUntil_38 rfl (lv_at hl 3 rfl) ?_
          refine lv_icmp_gt (tgt := 47) S.1 S.2.1 dX1_clearBornUntil_39 (by decide) (fun c6 => ?_) (fun c6 => ?_)
          · refine lv_iinc (v := (nI (i1 + 1))) (lv' := [(3, .int (nI (i1 + 1))), (2, .int ((x1_0) + (Int32.ofInt (-1)))), (0, .ref (a 7)), (1, .int (y))]) S.1 S.2.1 dX1_clearBornUntil_47 hl (k := 1) rfl (nI_add _ 1) (by decide) rfl (fun ls hl => ?_)
            refine lv_goto (tgt := 7) S.1 S.2.1 dX1_clearBornUntil_50 (by decide) ?_
            exact ih1 (i1 + 1) σ1 (((x1_0) + (Int32.ofInt (-1)))) (by omega) (by rw [← he1]; first | (simp only [cClr, c4, c5, c6, reduceIte, Bool.false_eq_true, eq_self_iff_true, if_true, if_false]; done) | with_reducible rfl) _ _ hP hD hS _ (lv_sub hl [0, 1, 2, 3] rfl)
          · refine lv_aload_n S.1 S.2.1 dX1_clearBornUntil_42 rfl (lv_at hl 2 rfl) ?_
            refine lv_iload_n S.1 S.2.1 dX1_clearBornUntil_43 rfl (lv_at hl 1 rfl) ?_
            refine call_X1_clear_inFlight_X1 S hK hN hP hD hS hA (row := i1) (by omega) hl.1 (Nat.le_of_ble_eq_true rfl) ⟨Nat.le_of_ble_eq_true rfl, Nat.le_of_ble_eq_true rfl⟩ dX1_clearBornUntil_44 ⟨Nat.le_refl _, Nat.le_refl _⟩ (fun H locs hP hD hS => ?_)
            refine lv_iinc (v := (nI (i1 + 1))) (lv' := [(3, .int (nI (i1 + 1))), (2, .int ((x1_0) + (Int32.ofInt (-1)))), (0, .ref (a 7)), (1, .int (y))]) S.1 S.2.1 dX1_clearBornUntil_47 hl (k := 1) rfl (nI_add _ 1) (by decide) rfl (fun ls hl => ?_)
            refine lv_goto (tgt := 7) S.1 S.2.1 dX1_clearBornUntil_50 (by decide) ?_
            exact ih1 (i1 + 1) (pClear 8 1 4 i1 σ1) (((x1_0) + (Int32.ofInt (-1)))) (by omega) (by rw [← he1]; first | (simp only [cClr, c4, c5, c6, reduceIte, Bool.false_eq_true, eq_self_iff_true, if_true, if_false]; done) | with_reducible rfl) _ _ hP hD hS _ (lv_sub hl [0, 1, 2, 3] rfl)
  exact lp1 512 0 σ ((σ.1 0 4)) (by omega) rfl _ _ hP hD hS _ (lv_sub hl [0, 1, 2, 3] rfl)
theorem call_X1_clearBornUntil_inFlight {p : Program} {l : Launch} {e : Env} {R : Room} {s : State} {m : MethodId} {args : Array Value} {below : List Frame} {meth : Method} {c : Code} {H : Heap} {locs : List Loc} {cells slots : Nat} {Q : State → Prop} {cc : ByteArray} {pc nL : Nat} {ls : Array Slot} {rest : List Value} {D : va_G} {A : Nat → Prop} {w0 : Cond} {X : va_W} {cy : Nat → ClassId} {a : Nat → Nat} {σ : CS} (S : CallFix p m c cc nL s args (w0 :: gw) RX2) (hK : va_K D vwCl (tyA cy) s) (hN : kN nestC s) (hP : va_P D vwCl (X ++ cB cy a σ) H) (hD : va_D A (X ++ cB cy a σ)) (hS : va_S A s.heap H locs) (hA : ∀ q, s.heap.size ≤ q → A q) {y : Int32}  (hsz : ls.size = nL) (hW : (rest.map fun v => v.category).sum ≤ 8) (hR : 1 + 1 ≤ R.frames ∧ 8 + (4 + 11) + 32 * 1 ≤ R.locals) (hdg : decode cc pc = .ok (.invokevirtual 121, 3)) (hfc : cells ≤ R.cells ∧ slots ≤ R.slots)
    (kk : ∀ (H1 : Heap) (locs1 : List Loc), va_P D vwCl (X ++ cB cy a (cClrB 8 9 1 4 512 y σ)) H1 → va_D A (X ++ cB cy a (cClrB 8 9 1 4 512 y σ)) → va_S A s.heap H1 locs1 → W p l e R s m args below meth c H1 locs1 cells slots Q (F0 m (pc + 3) ls (rest))) : W p l e R s m args below meth c H locs cells slots Q (F0 m pc ls (.int (y) :: .ref (a 7) :: rest)) :=
  kgo_v (va_runVN (As := [.int (y)]) (rest := rest) S (c_X1_clearBornUntil_inFlight l D cy a X σ y  H.size) ⟨va_cnB 1 S.2.2.2.2 (gw_good_in wm_407) rfl rfl rfl (hN _ nc_11) (S.2.2.2.2 _ (List.mem_cons_of_mem _ wm_49)) (by decide +kernel) hR, (S.2.2.2.2 _ (List.mem_cons_of_mem _ wm_406)), (S.2.2.2.2 _ (List.mem_cons_of_mem _ wm_24))⟩ ⟨kblind nestC_ok, crecv_inFlight hK hP, kpre nestC_ok hN hK hP hD⟩ rfl rfl hsz rfl (lv_room hW) hdg hfc) hD hS hA kk
set_option maxHeartbeats 400000 in
set_option maxRecDepth 100000 in
theorem c_X2_hasLink (l : Launch) (D : va_G) (cy : Nat → ClassId) (a : Nat → Nat) (X : va_W) (σ : CS) (x : Int32) (y : Int32)  : MetI l yX2_hasLink cX2_hasLink 3 .boolean (kRm 1 0 0) D (tyA cy) nestC [.ref (a 0), .int (x), .int (y)] (X ++ cB cy a σ) (X ++ cB cy a σ) (b2i (hasL σ x y)) 0 0 := by
  intro sz
  refine kmet (own := RX2) (by decide) rfl (Nat.le_of_ble_eq_true rfl) (fun p e s m args below meth c S hr hlk hK hN hP hD hsz hA hnm ls hl => ?_)
  have hS : va_S (va_A (X ++ cB cy a σ) sz) s.heap s.heap [] := va_S.rf
  have hl : lv_has ls 3 [(0, .ref (a 0)), (1, .int (x)), (2, .int (y))] := hl
  refine lv_iload_n S.1 S.2.1 dX2_hasLink_0 rfl (lv_at hl 1 rfl) ?_
  refine call_X2_isNode S hK hN hP hD hS hA (x := x)  hl.1 (Nat.le_of_ble_eq_true rfl) ⟨Nat.le_of_ble_eq_true rfl, Nat.le_of_ble_eq_true rfl⟩ dX2_hasLink_1 ⟨Nat.le_refl _, Nat.le_refl _⟩ (fun H locs hP hD hS => ?_)
  refine kb_eq (tgt := 31) S dX2_hasLink_4 (by decide) (fun c1 => ?_) (fun c1 => ?_)
  · refine lv_iconst (v := (nI 0)) S.1 S.2.1 dX2_hasLink_31 (by decide) ?_
    exact kret_z S hr hlk hP hD hS (by first | rfl | exact b2i_nar _) (by rw [show hasL σ x y = false from (by first | (simp only [hasL, c1, reduceIte, Bool.false_eq_true, eq_self_iff_true, if_true, if_false]; done) | with_reducible rfl)]; decide) dX2_hasLink_32
  · obtain ⟨x1, hx1, rfl⟩ := isN_of c1
    refine lv_iload_n S.1 S.2.1 dX2_hasLink_7 rfl (lv_at hl 2 rfl) ?_
    refine call_X2_isNode S hK hN hP hD hS hA (x := y)  hl.1 (Nat.le_of_ble_eq_true rfl) ⟨Nat.le_of_ble_eq_true rfl, Nat.le_of_ble_eq_true rfl⟩ dX2_hasLink_8 ⟨Nat.le_refl _, Nat.le_refl _⟩ (fun H locs hP hD hS => ?_)
    refine kb_eq (tgt := 31) S dX2_hasLink_11 (by decide) (fun c2 => ?_) (fun c2 => ?_)
    · refine lv_iconst (v := (nI 0)) S.1 S.2.1 dX2_hasLink_31 (by decide) ?_
      exact kret_z S hr hlk hP hD hS (by first | rfl | exact b2i_nar _) (by rw [show hasL σ (nI x1) y = false from (by first | (simp only [hasL, c1, cl8 hx1, c2, reduceIte, Bool.false_eq_true, eq_self_iff_true, if_true, if_false]; done) | with_reducible rfl)]; decide) dX2_hasLink_32
    · obtain ⟨y1, hy1, rfl⟩ := isN_of c2
      refine lv_aload_n S.1 S.2.1 dX2_hasLink_14 rfl (lv_at hl 0 rfl) ?_
      refine cf_net_linkCost S hK hP dX2_hasLink_15 ?_
      refine lv_iload_n S.1 S.2.1 dX2_hasLink_18 rfl (lv_at hl 1 rfl) ?_
      refine lv_iload_n S.1 S.2.1 dX2_hasLink_19 rfl (lv_at hl 2 rfl) ?_
      refine call_X2_pair S hK hN hP hD hS hA (u := x1) (v := y1)  hl.1 (Nat.le_of_ble_eq_true rfl) ⟨Nat.le_of_ble_eq_true rfl, Nat.le_of_ble_eq_true rfl⟩ dX2_hasLink_20 ⟨Nat.le_refl _, Nat.le_refl _⟩ (fun H locs hP hD hS => ?_)
      refine ca_linkCost S hK hP (j := (x1 * 8 + y1)) (by omega) dX2_hasLink_23 ?_
      refine lv_if_le (tgt := 31) S.1 S.2.1 dX2_hasLink_24 (by decide) (fun c3 => ?_) (fun c3 => ?_)
      · refine lv_iconst (v := (nI 0)) S.1 S.2.1 dX2_hasLink_31 (by decide) ?_
        exact kret_z S hr hlk hP hD hS (by first | rfl | exact b2i_nar _) (by rw [show hasL σ (nI x1) (nI y1) = false from (by first | (simp only [hasL, c1, cl8 hx1, c2, cl8 hy1, c3, reduceIte, Bool.false_eq_true, eq_self_iff_true, if_true, if_false]; done) | with_reducible rfl)]; decide) dX2_hasLink_32
      · refine lv_iconst (v := (nI 1)) S.1 S.2.1 dX2_hasLink_27 (by decide) ?_
        refine lv_goto (tgt := 32) S.1 S.2.1 dX2_hasLink_28 (by decide) ?_
        exact kret_z S hr hlk hP hD hS (by first | rfl | exact b2i_nar _) (by rw [show hasL σ (nI x1) (nI y1) = true from (by first | (simp only [hasL, c1, cl8 hx1, c2, cl8 hy1, c3, reduceIte, Bool.false_eq_true, eq_self_iff_true, if_true, if_false]; done) | with_reducible rfl)]; decide) dX2_hasLink_32
theorem call_X2_hasLink {p : Program} {l : Launch} {e : Env} {R : Room} {s : State} {m : MethodId} {args : Array Value} {below : List Frame} {meth : Method} {c : Code} {H : Heap} {locs : List Loc} {cells slots : Nat} {Q : State → Prop} {cc : ByteArray} {pc nL : Nat} {ls : Array Slot} {rest : List Value} {D : va_G} {A : Nat → Prop} {w0 : Cond} {X : va_W} {cy : Nat → ClassId} {a : Nat → Nat} {σ : CS} (S : CallFix p m c cc nL s args (w0 :: gw) RX2) (hK : va_K D vwCl (tyA cy) s) (hN : kN nestC s) (hP : va_P D vwCl (X ++ cB cy a σ) H) (hD : va_D A (X ++ cB cy a σ)) (hS : va_S A s.heap H locs) (hA : ∀ q, s.heap.size ≤ q → A q) {x : Int32} {y : Int32}  (hsz : ls.size = nL) (hW : (rest.map fun v => v.category).sum ≤ 8) (hR : 1 + 1 ≤ R.frames ∧ 8 + (3 + 11) + 32 * 1 ≤ R.locals) (hdg : decode cc pc = .ok (.invokevirtual 63, 3)) (hfc : cells ≤ R.cells ∧ slots ≤ R.slots)
    (kk : ∀ (H1 : Heap) (locs1 : List Loc), va_P D vwCl (X ++ cB cy a σ) H1 → va_D A (X ++ cB cy a σ) → va_S A s.heap H1 locs1 → W p l e R s m args below meth c H1 locs1 cells slots Q (F0 m (pc + 3) ls (.int (b2i (hasL σ x y)) :: rest))) : W p l e R s m args below meth c H locs cells slots Q (F0 m pc ls (.int (y) :: .int (x) :: .ref (a 0) :: rest)) :=
  kgo_i (va_runV (As := [.int (x), .int (y)]) (rest := rest) S (c_X2_hasLink l D cy a X σ x y  H.size) (cwV 2 S.2.2.2.2 (gw_good_1 wm_281 (gw_good_1 wm_283 (gw_good_1 wm_10 (gw_good_1 wm_48 (gw_good_in wm_284))))) rfl rfl rfl (by decide +kernel) hR) ⟨kblind nestC_ok, crecv_net hK hP, kpre nestC_ok hN hK hP hD⟩ rfl rfl hsz rfl (lv_room hW) hdg hfc) hD hS hA kk
set_option maxHeartbeats 400000 in
set_option maxRecDepth 100000 in
theorem c_X2_bringUp (l : Launch) (D : va_G) (cy : Nat → ClassId) (a : Nat → Nat) (X : va_W) (σ : CS) (u : Nat) (v : Nat) (hu : u < 8) (hv : v < 8) : MetV l yX2_bringUp cX2_bringUp 5 (kRm 4 0 0) D (tyA cy) nestC [.ref (a 0), .int (nI (u)), .int (nI (v))] (X ++ cB cy a σ) (X ++ cB cy a (cUp u v σ)) 0 0 := by
  intro sz
  refine kmet (own := RX2) (by decide) rfl (Nat.le_of_ble_eq_true rfl) (fun p e s m args below meth c S hr hlk hK hN hP hD hsz hA hnm ls hl => ?_)
  have hS : va_S (va_A (X ++ cB cy a σ) sz) s.heap s.heap [] := va_S.rf
  have hl : lv_has ls 5 [(0, .ref (a 0)), (1, .int (nI (u))), (2, .int (nI (v)))] := hl
  refine lv_aload_n S.1 S.2.1 dX2_bringUp_0 rfl (lv_at hl 0 rfl) ?_
  refine cf_net_linkUp S hK hP dX2_bringUp_1 ?_
  refine lv_iload_n S.1 S.2.1 dX2_bringUp_4 rfl (lv_at hl 1 rfl) ?_
  refine lv_iload_n S.1 S.2.1 dX2_bringUp_5 rfl (lv_at hl 2 rfl) ?_
  refine call_X2_pair S hK hN hP hD hS hA (u := u) (v := v)  hl.1 (Nat.le_of_ble_eq_true rfl) ⟨Nat.le_of_ble_eq_true rfl, Nat.le_of_ble_eq_true rfl⟩ dX2_bringUp_6 ⟨Nat.le_refl _, Nat.le_refl _⟩ (fun H locs hP hD hS => ?_)
  refine lv_iconst (v := (nI 1)) S.1 S.2.1 dX2_bringUp_9 (by decide) ?_
  refine cs_linkUp S hK hP hD hS (j := (u * 8 + v)) (by omega) (by decide) dX2_bringUp_10 (fun H locs hP hD hS => ?_)
  refine lv_aload_n S.1 S.2.1 dX2_bringUp_11 rfl (lv_at hl 0 rfl) ?_
  refine cf_net_linkUp S hK hP dX2_bringUp_12 ?_
  refine lv_iload_n S.1 S.2.1 dX2_bringUp_15 rfl (lv_at hl 2 rfl) ?_
  refine lv_iload_n S.1 S.2.1 dX2_bringUp_16 rfl (lv_at hl 1 rfl) ?_
  refine call_X2_pair S hK hN hP hD hS hA (u := v) (v := u)  hl.1 (Nat.le_of_ble_eq_true rfl) ⟨Nat.le_of_ble_eq_true rfl, Nat.le_of_ble_eq_true rfl⟩ dX2_bringUp_17 ⟨Nat.le_refl _, Nat.le_refl _⟩ (fun H locs hP hD hS => ?_)
  refine lv_iconst (v := (nI 1)) S.1 S.2.1 dX2_bringUp_20 (by decide) ?_
  refine cs_linkUp S hK hP hD hS (j := (v * 8 + u)) (by omega) (by decide) dX2_bringUp_21 (fun H locs hP hD hS => ?_)
  refine lv_aload_n S.1 S.2.1 dX2_bringUp_22 rfl (lv_at hl 0 rfl) ?_
  refine lv_iload_n S.1 S.2.1 dX2_bringUp_23 rfl (lv_at hl 1 rfl) ?_
  refine lv_iload_n S.1 S.2.1 dX2_bringUp_24 rfl (lv_at hl 2 rfl) ?_
  refine call_X2_carries S hK hN hP hD hS hA (u := u) (v := v) (by omega) (by omega) hl.1 (Nat.le_of_ble_eq_true rfl) ⟨Nat.le_of_ble_eq_true rfl, Nat.le_of_ble_eq_true rfl⟩ dX2_bringUp_25 ⟨Nat.le_refl _, Nat.le_refl _⟩ (fun H locs hP hD hS => ?_)
  refine kb_ne (tgt := 32) S dX2_bringUp_28 (by decide) (fun c1 => ?_) (fun c1 => ?_)
  · refine lv_iload_n S.1 S.2.1 dX2_bringUp_32 rfl (lv_at hl 1 rfl) ?_
    refine lv_iload_n S.1 S.2.1 dX2_bringUp_33 rfl (lv_at hl 2 rfl) ?_
    refine k_min S hl.1 (Nat.le_of_ble_eq_true rfl) (Nat.le_of_ble_eq_true rfl) (Nat.le_refl _) (Nat.le_refl _) (u := u) (v := v) (by omega) (by omega) dX2_bringUp_34 ?_
    refine lv_istore_n (lv' := [(3, .int (nI (min u v))), (0, .ref (a 0)), (1, .int (nI (u))), (2, .int (nI (v)))]) S.1 S.2.1 dX2_bringUp_37 rfl hl (by decide) rfl (fun ls hl => ?_)
    refine lv_iload_n S.1 S.2.1 dX2_bringUp_38 rfl (lv_at hl 2 rfl) ?_
    refine lv_iload_n S.1 S.2.1 dX2_bringUp_39 rfl (lv_at hl 3 rfl) ?_
    refine k_max S hl.1 (Nat.le_of_ble_eq_true rfl) (Nat.le_of_ble_eq_true rfl) (Nat.le_refl _) (Nat.le_refl _) (u := u) (v := v) (by omega) (by omega) dX2_bringUp_40 ?_
    refine lv_istore (lv' := [(4, .int (nI (max u v))), (3, .int (nI (min u v))), (0, .ref (a 0)), (1, .int (nI (u))), (2, .int (nI (v)))]) S.1 S.2.1 dX2_bringUp_43 hl (by decide) rfl (fun ls hl => ?_)
    refine lv_aload_n S.1 S.2.1 dX2_bringUp_45 rfl (lv_at hl 2 rfl) ?_
    refine lv_iload_n S.1 S.2.1 dX2_bringUp_46 rfl (lv_at hl 1 rfl) ?_
    refine call_X2_tell S hK hN hP hD hS hA (u := min u v) (by omega) hl.1 (Nat.le_of_ble_eq_true rfl) ⟨Nat.le_of_ble_eq_true rfl, Nat.le_of_ble_eq_true rfl⟩ dX2_bringUp_47 ⟨Nat.le_refl _, Nat.le_refl _⟩ (fun H locs hP hD hS => ?_)
    refine lv_aload_n S.1 S.2.1 dX2_bringUp_50 rfl (lv_at hl 2 rfl) ?_
    refine lv_iload S.1 S.2.1 dX2_bringUp_51 (lv_at hl 0 rfl) ?_
    refine call_X2_tell S hK hN hP hD hS hA (u := max u v) (by omega) hl.1 (Nat.le_of_ble_eq_true rfl) ⟨Nat.le_of_ble_eq_true rfl, Nat.le_of_ble_eq_true rfl⟩ dX2_bringUp_53 ⟨Nat.le_refl _, Nat.le_refl _⟩ (fun H locs hP hD hS => ?_)
    refine lv_aload_n S.1 S.2.1 dX2_bringUp_56 rfl (lv_at hl 2 rfl) ?_
    refine lv_iload_n S.1 S.2.1 dX2_bringUp_57 rfl (lv_at hl 1 rfl) ?_
    refine lv_iload S.1 S.2.1 dX2_bringUp_58 (lv_at hl 0 rfl) ?_
    refine call_X2_sendAllKnown S hK hN hP hD hS hA (f := min u v) (t := max u v) (by omega) (by omega) hl.1 (Nat.le_of_ble_eq_true rfl) ⟨Nat.le_of_ble_eq_true rfl, Nat.le_of_ble_eq_true rfl⟩ dX2_bringUp_60 ⟨Nat.le_refl _, Nat.le_refl _⟩ (fun H locs hP hD hS => ?_)
    refine lv_aload_n S.1 S.2.1 dX2_bringUp_63 rfl (lv_at hl 2 rfl) ?_
    refine lv_iload S.1 S.2.1 dX2_bringUp_64 (lv_at hl 0 rfl) ?_
    refine lv_iload_n S.1 S.2.1 dX2_bringUp_66 rfl (lv_at hl 1 rfl) ?_
    refine call_X2_sendAllKnown S hK hN hP hD hS hA (f := max u v) (t := min u v) (by omega) (by omega) hl.1 (Nat.le_of_ble_eq_true rfl) ⟨Nat.le_of_ble_eq_true rfl, Nat.le_of_ble_eq_true rfl⟩ dX2_bringUp_67 ⟨Nat.le_refl _, Nat.le_refl _⟩ (fun H locs hP hD hS => ?_)
    have e9 : cUp u v σ = cSendAll (max u v) (min u v) (cSendAll (min u v) (max u v) (cTell (max u v) (cTell (min u v) (sI 5 (v * 8 + u) (nI 1) (sI 5 (u * 8 + v) (nI 1) σ))))) := by first | (simp only [cUp, up1, c1, reduceIte, Bool.false_eq_true, eq_self_iff_true, if_true, if_false]; done) | with_reducible rfl
    rw [e9]
    exact kret_v S hr hlk hP hD hS dX2_bringUp_70
  · have e9 : cUp u v σ = sI 5 (v * 8 + u) (nI 1) (sI 5 (u * 8 + v) (nI 1) σ) := by first | (simp only [cUp, up1, c1, reduceIte, Bool.false_eq_true, eq_self_iff_true, if_true, if_false]; done) | with_reducible rfl
    rw [e9]
    exact kret_v S hr hlk hP hD hS dX2_bringUp_31
theorem call_X2_bringUp {p : Program} {l : Launch} {e : Env} {R : Room} {s : State} {m : MethodId} {args : Array Value} {below : List Frame} {meth : Method} {c : Code} {H : Heap} {locs : List Loc} {cells slots : Nat} {Q : State → Prop} {cc : ByteArray} {pc nL : Nat} {ls : Array Slot} {rest : List Value} {D : va_G} {A : Nat → Prop} {w0 : Cond} {X : va_W} {cy : Nat → ClassId} {a : Nat → Nat} {σ : CS} (S : CallFix p m c cc nL s args (w0 :: gw) RX2) (hK : va_K D vwCl (tyA cy) s) (hN : kN nestC s) (hP : va_P D vwCl (X ++ cB cy a σ) H) (hD : va_D A (X ++ cB cy a σ)) (hS : va_S A s.heap H locs) (hA : ∀ q, s.heap.size ≤ q → A q) {u : Nat} {v : Nat} (hu : u < 8) (hv : v < 8) (hsz : ls.size = nL) (hW : (rest.map fun v => v.category).sum ≤ 8) (hR : 4 + 1 ≤ R.frames ∧ 8 + (5 + 11) + 32 * 4 ≤ R.locals) (hdg : decode cc pc = .ok (.invokevirtual 80, 3)) (hfc : cells ≤ R.cells ∧ slots ≤ R.slots)
    (kk : ∀ (H1 : Heap) (locs1 : List Loc), va_P D vwCl (X ++ cB cy a (cUp u v σ)) H1 → va_D A (X ++ cB cy a (cUp u v σ)) → va_S A s.heap H1 locs1 → W p l e R s m args below meth c H1 locs1 cells slots Q (F0 m (pc + 3) ls (rest))) : W p l e R s m args below meth c H locs cells slots Q (F0 m pc ls (.int (nI (v)) :: .int (nI (u)) :: .ref (a 0) :: rest)) :=
  kgo_v (va_runV (As := [.int (nI (u)), .int (nI (v))]) (rest := rest) S (c_X2_bringUp l D cy a X σ u v hu hv H.size) (cwV 2 S.2.2.2.2 (gw_good_1 wm_305 (gw_good_1 wm_307 (gw_good_1 wm_12 (gw_good_1 wm_48 (gw_good_in wm_308))))) rfl rfl rfl (by decide +kernel) hR) ⟨kblind nestC_ok, crecv_net hK hP, kpre nestC_ok hN hK hP hD⟩ rfl rfl hsz rfl (lv_room hW) hdg hfc) hD hS hA kk
set_option maxHeartbeats 400000 in
set_option maxRecDepth 100000 in
theorem c_X2_tellNeighbours (l : Launch) (D : va_G) (cy : Nat → ClassId) (a : Nat → Nat) (X : va_W) (σ : CS) (u : Nat) (hu : u < 8) : MetV l yX2_tellNeighbours cX2_tellNeighbours 3 (kRm 4 0 0) D (tyA cy) nestC [.ref (a 0), .int (nI (u))] (X ++ cB cy a σ) (X ++ cB cy a (cTellN u σ)) 0 0 := by
  intro sz
  refine kmet (own := RX2) (by decide) rfl (Nat.le_of_ble_eq_true rfl) (fun p e s m args below meth c S hr hlk hK hN hP hD hsz hA hnm ls hl => ?_)
  have hS : va_S (va_A (X ++ cB cy a σ) sz) s.heap s.heap [] := va_S.rf
  have hl : lv_has ls 3 [(0, .ref (a 0)), (1, .int (nI (u)))] := hl
  refine lv_iconst (v := (nI 0)) S.1 S.2.1 dX2_tellNeighbours_0 (by decide) ?_
  refine lv_istore_n (lv' := [(2, .int (nI 0)), (0, .ref (a 0)), (1, .int (nI (u)))]) S.1 S.2.1 dX2_tellNeighbours_1 rfl hl (by decide) rfl (fun ls hl => ?_)
  have lp1 : ∀ (n1 i1 : Nat) (σ1 : CS), i1 + n1 = 8 → itr (fTN u) n1 i1 σ1 = itr (fTN u) 8 0 σ → ∀ (H : Heap) (locs : List Loc), va_P D vwCl (X ++ cB cy a σ1) H → va_D (va_A (X ++ cB cy a σ) sz) (X ++ cB cy a σ1) → va_S (va_A (X ++ cB cy a σ) sz) s.heap H locs → ∀ ls : Array Slot, lv_has ls 3 [(2, .int (nI (i1))), (0, .ref (a 0)), (1, .int (nI (u)))] → W p l e (kRm 4 0 0) s m args below meth c H locs 0 0 (MQ below (kQv D (X ++ cB cy a σ) (X ++ cB cy a (cTellN u σ)) sz) args s 0 0 (va_A (X ++ cB cy a σ) sz)) (F0 m 2 ls []) := by
    intro n1
    induction n1 with
    | zero =>
      intro i1 σ1 hi1 he1 H locs hP hD hS ls hl
      have hi1 : i1 = 8 := by omega
      have he1 : σ1 = itr (fTN u) 8 0 σ := he1
      refine lv_iload_n S.1 S.2.1 dX2_tellNeighbours_2 rfl (lv_at hl 0 rfl) ?_
      refine lv_bipush (v := (nI 8)) S.1 S.2.1 dX2_tellNeighbours_3 (by decide) ?_
      refine lv_icmp_ge (tgt := 41) S.1 S.2.1 dX2_tellNeighbours_5 (by decide) (fun _ => ?_) (fun c => absurd (nI_le (by omega) (by omega)) c)
      have e9 : cTellN u σ = σ1 := by first | (simp only [cTellN, ← he1, reduceIte, Bool.false_eq_true, eq_self_iff_true, if_true, if_false]; done) | with_reducible rfl
      rw [e9]
      exact kret_v S hr hlk hP hD hS dX2_tellNeighbours_41
    | succ n1 ih1 =>
      intro i1 σ1 hi1 he1 H locs hP hD hS ls hl
      have hlt1 : i1 < 8 := by omega
      refine lv_iload_n S.1 S.2.1 dX2_tellNeighbours_2 rfl (lv_at hl 0 rfl) ?_
      refine lv_bipush (v := (nI 8)) S.1 S.2.1 dX2_tellNeighbours_3 (by decide) ?_
      refine lv_icmp_ge (tgt := 41) S.1 S.2.1 dX2_tellNeighbours_5 (by decide) (fun c => absurd c (nI_ge (by omega) (by omega))) (fun _ => ?_)
      refine lv_aload_n S.1 S.2.1 dX2_tellNeighbours_8 rfl (lv_at hl 1 rfl) ?_
      refine cf_net_linkUp S hK hP dX2_tellNeighbours_9 ?_
      refine lv_iload_n S.1 S.2.1 dX2_tellNeighbours_12 rfl (lv_at hl 2 rfl) ?_
      refine lv_iload_n S.1 S.2.1 dX2_tellNeighbours_13 rfl (lv_at hl 0 rfl) ?_
      refine call_X2_pair S hK hN hP hD hS hA (u := u) (v := i1)  hl.1 (Nat.le_of_ble_eq_true rfl) ⟨Nat.le_of_ble_eq_true rfl, Nat.le_of_ble_eq_true rfl⟩ dX2_tellNeighbours_14 ⟨Nat.le_refl _, Nat.le_refl _⟩ (fun H locs hP hD hS => ?_)
      refine ca_linkUp S hK hP (j := (u * 8 + i1)) (by omega) dX2_tellNeighbours_17 ?_
      refine lv_if_eq (tgt := 35) S.1 S.2.1 dX2_tellNeighbours_18 (by decide) (fun c4 => ?_) (fun c4 => ?_)
      · refine lv_iinc (v := (nI (i1 + 1))) (lv' := [(2, .int (nI (i1 + 1))), (0, .ref (a 0)), (1, .int (nI (u)))]) S.1 S.2.1 dX2_tellNeighbours_35 hl (k := 0) rfl (nI_add _ 1) (by decide) rfl (fun ls hl => ?_)
        refine lv_goto (tgt := 2) S.1 S.2.1 dX2_tellNeighbours_38 (by decide) ?_
        exact ih1 (i1 + 1) σ1 (by omega) (itr_step he1 (by first | (simp only [fTN, eq_true c4, reduceIte, Bool.false_eq_true, eq_self_iff_true, if_true, if_false]; done) | with_reducible rfl)) _ _ hP hD hS _ (lv_sub hl [0, 1, 2] rfl)
      · refine lv_aload_n S.1 S.2.1 dX2_tellNeighbours_21 rfl (lv_at hl 1 rfl) ?_
        refine cf_net_there S hK hP dX2_tellNeighbours_22 ?_
        refine lv_iload_n S.1 S.2.1 dX2_tellNeighbours_25 rfl (lv_at hl 0 rfl) ?_
        refine ca_there S hK hP (j := i1) (by omega) dX2_tellNeighbours_26 ?_
        refine lv_if_eq (tgt := 35) S.1 S.2.1 dX2_tellNeighbours_27 (by decide) (fun c5 => ?_) (fun c5 => ?_)
        · refine lv_iinc (v := (nI (i1 + 1))) (lv' := [(2, .int (nI (i1 + 1))), (0, .ref (a 0)), (1, .int (nI (u)))]) S.1 S.2.1 dX2_tellNeighbours_35 hl (k := 0) rfl (nI_add _ 1) (by decide) rfl (fun ls hl => ?_)
          refine lv_goto (tgt := 2) S.1 S.2.1 dX2_tellNeighbours_38 (by decide) ?_
          exact ih1 (i1 + 1) σ1 (by omega) (itr_step he1 (by first | (simp only [fTN, c4, eq_true c5, reduceIte, Bool.false_eq_true, eq_self_iff_true, if_true, if_false]; done) | with_reducible rfl)) _ _ hP hD hS _ (lv_sub hl [0, 1, 2] rfl)
        · refine lv_aload_n S.1 S.2.1 dX2_tellNeighbours_30 rfl (lv_at hl 1 rfl) ?_
          refine lv_iload_n S.1 S.2.1 dX2_tellNeighbours_31 rfl (lv_at hl 0 rfl) ?_
          refine call_X2_tell S hK hN hP hD hS hA (u := i1) (by omega) hl.1 (Nat.le_of_ble_eq_true rfl) ⟨Nat.le_of_ble_eq_true rfl, Nat.le_of_ble_eq_true rfl⟩ dX2_tellNeighbours_32 ⟨Nat.le_refl _, Nat.le_refl _⟩ (fun H locs hP hD hS => ?_)
          refine lv_iinc (v := (nI (i1 + 1))) (lv' := [(2, .int (nI (i1 + 1))), (0, .ref (a 0)), (1, .int (nI (u)))]) S.1 S.2.1 dX2_tellNeighbours_35 hl (k := 0) rfl (nI_add _ 1) (by decide) rfl (fun ls hl => ?_)
          refine lv_goto (tgt := 2) S.1 S.2.1 dX2_tellNeighbours_38 (by decide) ?_
          exact ih1 (i1 + 1) (cTell i1 σ1) (by omega) (itr_step he1 (by first | (simp only [fTN, c4, c5, reduceIte, Bool.false_eq_true, eq_self_iff_true, if_true, if_false]; done) | with_reducible rfl)) _ _ hP hD hS _ (lv_sub hl [0, 1, 2] rfl)
  exact lp1 8 0 σ (by omega) rfl _ _ hP hD hS _ (lv_sub hl [0, 1, 2] rfl)
theorem call_X2_tellNeighbours {p : Program} {l : Launch} {e : Env} {R : Room} {s : State} {m : MethodId} {args : Array Value} {below : List Frame} {meth : Method} {c : Code} {H : Heap} {locs : List Loc} {cells slots : Nat} {Q : State → Prop} {cc : ByteArray} {pc nL : Nat} {ls : Array Slot} {rest : List Value} {D : va_G} {A : Nat → Prop} {w0 : Cond} {X : va_W} {cy : Nat → ClassId} {a : Nat → Nat} {σ : CS} (S : CallFix p m c cc nL s args (w0 :: gw) RX2) (hK : va_K D vwCl (tyA cy) s) (hN : kN nestC s) (hP : va_P D vwCl (X ++ cB cy a σ) H) (hD : va_D A (X ++ cB cy a σ)) (hS : va_S A s.heap H locs) (hA : ∀ q, s.heap.size ≤ q → A q) {u : Nat} (hu : u < 8) (hsz : ls.size = nL) (hW : (rest.map fun v => v.category).sum ≤ 8) (hR : 4 + 1 ≤ R.frames ∧ 8 + (3 + 11) + 32 * 4 ≤ R.locals) (hdg : decode cc pc = .ok (.invokevirtual 95, 3)) (hfc : cells ≤ R.cells ∧ slots ≤ R.slots)
    (kk : ∀ (H1 : Heap) (locs1 : List Loc), va_P D vwCl (X ++ cB cy a (cTellN u σ)) H1 → va_D A (X ++ cB cy a (cTellN u σ)) → va_S A s.heap H1 locs1 → W p l e R s m args below meth c H1 locs1 cells slots Q (F0 m (pc + 3) ls (rest))) : W p l e R s m args below meth c H locs cells slots Q (F0 m pc ls (.int (nI (u)) :: .ref (a 0) :: rest)) :=
  kgo_v (va_runV (As := [.int (nI (u))]) (rest := rest) S (c_X2_tellNeighbours l D cy a X σ u hu H.size) (cwV 1 S.2.2.2.2 (gw_good_1 wm_385 (gw_good_1 wm_387 (gw_good_1 wm_23 (gw_good_1 wm_48 (gw_good_in wm_388))))) rfl rfl rfl (by decide +kernel) hR) ⟨kblind nestC_ok, crecv_net hK hP, kpre nestC_ok hN hK hP hD⟩ rfl rfl hsz rfl (lv_room hW) hdg hfc) hD hS hA kk
set_option maxHeartbeats 400000 in
set_option maxRecDepth 100000 in
theorem c_X2_tellAgain (l : Launch) (D : va_G) (cy : Nat → ClassId) (a : Nat → Nat) (X : va_W) (σ : CS)   : MetV l yX2_tellAgain cX2_tellAgain 3 (kRm 4 0 0) D (tyA cy) nestC [.ref (a 0)] (X ++ cB cy a σ) (X ++ cB cy a (cTellA σ)) 0 0 := by
  intro sz
  refine kmet (own := RX2) (by decide) rfl (Nat.le_of_ble_eq_true rfl) (fun p e s m args below meth c S hr hlk hK hN hP hD hsz hA hnm ls hl => ?_)
  have hS : va_S (va_A (X ++ cB cy a σ) sz) s.heap s.heap [] := va_S.rf
  have hl : lv_has ls 3 [(0, .ref (a 0))] := hl
  refine lv_iconst (v := (nI 0)) S.1 S.2.1 dX2_tellAgain_0 (by decide) ?_
  refine lv_istore_n (lv' := [(1, .int (nI 0)), (0, .ref (a 0))]) S.1 S.2.1 dX2_tellAgain_1 rfl hl (by decide) rfl (fun ls hl => ?_)
  have lp1 : ∀ (n1 i1 : Nat) (σ1 : CS), i1 + n1 = 8 → itr fTA n1 i1 σ1 = itr fTA 8 0 σ → ∀ (H : Heap) (locs : List Loc), va_P D vwCl (X ++ cB cy a σ1) H → va_D (va_A (X ++ cB cy a σ) sz) (X ++ cB cy a σ1) → va_S (va_A (X ++ cB cy a σ) sz) s.heap H locs → ∀ ls : Array Slot, lv_has ls 3 [(1, .int (nI (i1))), (0, .ref (a 0))] → W p l e (kRm 4 0 0) s m args below meth c H locs 0 0 (MQ below (kQv D (X ++ cB cy a σ) (X ++ cB cy a (cTellA σ)) sz) args s 0 0 (va_A (X ++ cB cy a σ) sz)) (F0 m 2 ls []) := by
    intro n1
    induction n1 with
    | zero =>
      intro i1 σ1 hi1 he1 H locs hP hD hS ls hl
      have hi1 : i1 = 8 := by omega
      have he1 : σ1 = itr fTA 8 0 σ := he1
      refine lv_iload_n S.1 S.2.1 dX2_tellAgain_2 rfl (lv_at hl 0 rfl) ?_
      refine lv_bipush (v := (nI 8)) S.1 S.2.1 dX2_tellAgain_3 (by decide) ?_
      refine lv_icmp_ge (tgt := 56) S.1 S.2.1 dX2_tellAgain_5 (by decide) (fun _ => ?_) (fun c => absurd (nI_le (by omega) (by omega)) c)
      have e9 : cTellA σ = σ1 := by first | (simp only [cTellA, ← he1, reduceIte, Bool.false_eq_true, eq_self_iff_true, if_true, if_false]; done) | with_reducible rfl
      rw [e9]
      exact kret_v S hr hlk hP hD hS dX2_tellAgain_56
    | succ n1 ih1 =>
      intro i1 σ1 hi1 he1 H locs hP hD hS ls hl
      have hlt1 : i1 < 8 := by omega
      refine lv_iload_n S.1 S.2.1 dX2_tellAgain_2 rfl (lv_at hl 0 rfl) ?_
      refine lv_bipush (v := (nI 8)) S.1 S.2.1 dX2_tellAgain_3 (by decide) ?_
      refine lv_icmp_ge (tgt := 56) S.1 S.2.1 dX2_tellAgain_5 (by decide) (fun c => absurd c (nI_ge (by omega) (by omega))) (fun _ => ?_)
      refine lv_iload_n S.1 S.2.1 dX2_tellAgain_8 rfl (lv_at hl 0 rfl) ?_
      refine lv_iload_n S.1 S.2.1 dX2_tellAgain_9 rfl (lv_at hl 0 rfl) ?_
      refine call_X2_knownRow S hK hN hP hD hS hA (u := i1) (v := i1)  hl.1 (Nat.le_of_ble_eq_true rfl) ⟨Nat.le_of_ble_eq_true rfl, Nat.le_of_ble_eq_true rfl⟩ dX2_tellAgain_10 ⟨Nat.le_refl _, Nat.le_refl _⟩ (fun H locs hP hD hS => ?_)
      refine lv_istore_n (lv' := [(2, .int (nI (i1 * 8 + i1))), (1, .int (nI (i1))), (0, .ref (a 0))]) S.1 S.2.1 dX2_tellAgain_13 rfl hl (by decide) rfl (fun ls hl => ?_)
      refine lv_aload_n S.1 S.2.1 dX2_tellAgain_14 rfl (lv_at hl 2 rfl) ?_
      refine cf_net_known S hK hP dX2_tellAgain_15 ?_
      refine cn_known_number S hK hN hP dX2_tellAgain_18 ?_
      refine lv_iload_n S.1 S.2.1 dX2_tellAgain_21 rfl (lv_at hl 0 rfl) ?_
      refine ca_knNumber S hK hP (j := (i1 * 8 + i1)) (by omega) dX2_tellAgain_22 ?_
      refine lv_if_le (tgt := 50) S.1 S.2.1 dX2_tellAgain_23 (by decide) (fun c4 => ?_) (fun c4 => ?_)
      · refine lv_iinc (v := (nI (i1 + 1))) (lv' := [(1, .int (nI (i1 + 1))), (2, .int (nI (i1 * 8 + i1))), (0, .ref (a 0))]) S.1 S.2.1 dX2_tellAgain_50 hl (k := 1) rfl (nI_add _ 1) (by decide) rfl (fun ls hl => ?_)
        refine lv_goto (tgt := 2) S.1 S.2.1 dX2_tellAgain_53 (by decide) ?_
        exact ih1 (i1 + 1) σ1 (by omega) (itr_step he1 (by first | (simp only [fTA, c4, reduceIte, Bool.false_eq_true, eq_self_iff_true, if_true, if_false]; done) | with_reducible rfl)) _ _ hP hD hS _ (lv_sub hl [0, 2] rfl)
      · refine lv_aload_n S.1 S.2.1 dX2_tellAgain_26 rfl (lv_at hl 2 rfl) ?_
        refine cf_net_time S hK hP dX2_tellAgain_27 ?_
        refine lv_aload_n S.1 S.2.1 dX2_tellAgain_30 rfl (lv_at hl 2 rfl) ?_
        refine cf_net_known S hK hP dX2_tellAgain_31 ?_
        refine cn_known_born S hK hN hP dX2_tellAgain_34 ?_
        refine lv_iload_n S.1 S.2.1 dX2_tellAgain_37 rfl (lv_at hl 0 rfl) ?_
        refine ca_knBorn S hK hP (j := (i1 * 8 + i1)) (by omega) dX2_tellAgain_38 ?_
        refine lv_isub S.1 S.2.1 dX2_tellAgain_39 ?_
        refine lv_bipush (v := (nI 40)) S.1 S.2.1 dX2_tellAgain_40 (by decide) ?_
        refine lv_icmp_ne (tgt := 50) S.1 S.2.1 dX2_tellAgain_42 (by decide) (fun c5 => ?_) (fun c5 => ?_)
        · refine lv_iinc (v := (nI (i1 + 1))) (lv' := [(1, .int (nI (i1 + 1))), (2, .int (nI (i1 * 8 + i1))), (0, .ref (a 0))]) S.1 S.2.1 dX2_tellAgain_50 hl (k := 1) rfl (nI_add _ 1) (by decide) rfl (fun ls hl => ?_)
          refine lv_goto (tgt := 2) S.1 S.2.1 dX2_tellAgain_53 (by decide) ?_
          exact ih1 (i1 + 1) σ1 (by omega) (itr_step he1 (by first | (simp only [fTA, c4, c5, reduceIte, Bool.false_eq_true, eq_self_iff_true, if_true, if_false]; done) | with_reducible rfl)) _ _ hP hD hS _ (lv_sub hl [0, 2] rfl)
        · refine lv_aload_n S.1 S.2.1 dX2_tellAgain_45 rfl (lv_at hl 2 rfl) ?_
          refine lv_iload_n S.1 S.2.1 dX2_tellAgain_46 rfl (lv_at hl 1 rfl) ?_
          refine call_X2_tell S hK hN hP hD hS hA (u := i1) (by omega) hl.1 (Nat.le_of_ble_eq_true rfl) ⟨Nat.le_of_ble_eq_true rfl, Nat.le_of_ble_eq_true rfl⟩ dX2_tellAgain_47 ⟨Nat.le_refl _, Nat.le_refl _⟩ (fun H locs hP hD hS => ?_)
          refine lv_iinc (v := (nI (i1 + 1))) (lv' := [(1, .int (nI (i1 + 1))), (2, .int (nI (i1 * 8 + i1))), (0, .ref (a 0))]) S.1 S.2.1 dX2_tellAgain_50 hl (k := 1) rfl (nI_add _ 1) (by decide) rfl (fun ls hl => ?_)
          refine lv_goto (tgt := 2) S.1 S.2.1 dX2_tellAgain_53 (by decide) ?_
          exact ih1 (i1 + 1) (cTell i1 σ1) (by omega) (itr_step he1 (by first | (simp only [fTA, c4, eq_true c5, reduceIte, Bool.false_eq_true, eq_self_iff_true, if_true, if_false]; done) | with_reducible rfl)) _ _ hP hD hS _ (lv_sub hl [0, 2] rfl)
  exact lp1 8 0 σ (by omega) rfl _ _ hP hD hS _ (lv_sub hl [0, 1] rfl)
theorem call_X2_tellAgain {p : Program} {l : Launch} {e : Env} {R : Room} {s : State} {m : MethodId} {args : Array Value} {below : List Frame} {meth : Method} {c : Code} {H : Heap} {locs : List Loc} {cells slots : Nat} {Q : State → Prop} {cc : ByteArray} {pc nL : Nat} {ls : Array Slot} {rest : List Value} {D : va_G} {A : Nat → Prop} {w0 : Cond} {X : va_W} {cy : Nat → ClassId} {a : Nat → Nat} {σ : CS} (S : CallFix p m c cc nL s args (w0 :: gw) RX2) (hK : va_K D vwCl (tyA cy) s) (hN : kN nestC s) (hP : va_P D vwCl (X ++ cB cy a σ) H) (hD : va_D A (X ++ cB cy a σ)) (hS : va_S A s.heap H locs) (hA : ∀ q, s.heap.size ≤ q → A q)   (hsz : ls.size = nL) (hW : (rest.map fun v => v.category).sum ≤ 8) (hR : 4 + 1 ≤ R.frames ∧ 8 + (3 + 11) + 32 * 4 ≤ R.locals) (hdg : decode cc pc = .ok (.invokevirtual 124, 3)) (hfc : cells ≤ R.cells ∧ slots ≤ R.slots)
    (kk : ∀ (H1 : Heap) (locs1 : List Loc), va_P D vwCl (X ++ cB cy a (cTellA σ)) H1 → va_D A (X ++ cB cy a (cTellA σ)) → va_S A s.heap H1 locs1 → W p l e R s m args below meth c H1 locs1 cells slots Q (F0 m (pc + 3) ls (rest))) : W p l e R s m args below meth c H locs cells slots Q (F0 m pc ls (.ref (a 0) :: rest)) :=
  kgo_v (va_runV (As := []) (rest := rest) S (c_X2_tellAgain l D cy a X σ   H.size) (cwV 0 S.2.2.2.2 (gw_good_1 wm_409 (gw_good_1 wm_411 (gw_good_1 wm_25 (gw_good_1 wm_48 (gw_good_in wm_412))))) rfl rfl rfl (by decide +kernel) hR) ⟨kblind nestC_ok, crecv_net hK hP, kpre nestC_ok hN hK hP hD⟩ rfl rfl hsz rfl (lv_room hW) hdg hfc) hD hS hA kk
set_option maxHeartbeats 400000 in
set_option maxRecDepth 100000 in
theorem c_X2_receive (l : Launch) (D : va_G) (cy : Nat → ClassId) (a : Nat → Nat) (X : va_W) (σ : CS) (row : Nat) (hrow : row < 512) : MetV l yX2_receive cX2_receive 7 (kRm 4 0 0) D (tyA cy) nestC [.ref (a 0), .int (nI (row))] (X ++ cB cy a σ) (X ++ cB cy a (cRecv row σ)) 0 0 := by
  intro sz
  refine kmet (own := RX2) (by decide) rfl (Nat.le_of_ble_eq_true rfl) (fun p e s m args below meth c S hr hlk hK hN hP hD hsz hA hnm ls hl => ?_)
  have hS : va_S (va_A (X ++ cB cy a σ) sz) s.heap s.heap [] := va_S.rf
  have hl : lv_has ls 7 [(0, .ref (a 0)), (1, .int (nI (row)))] := hl
  refine lv_iload_n S.1 S.2.1 dX2_receive_0 rfl (lv_at hl 1 rfl) ?_
  refine lv_bipush (v := (nI 64)) S.1 S.2.1 dX2_receive_1 (by decide) ?_
  refine lv_idiv S.1 S.2.1 dX2_receive_3 (by decide) ?_
  refine k_top (pk_div (by omega) (by decide) (by decide)) ?_
  refine lv_istore_n (lv' := [(2, .int (nI (row / 64))), (0, .ref (a 0)), (1, .int (nI (row)))]) S.1 S.2.1 dX2_receive_4 rfl hl (by decide) rfl (fun ls hl => ?_)
  refine lv_iload_n S.1 S.2.1 dX2_receive_5 rfl (lv_at hl 2 rfl) ?_
  refine lv_bipush (v := (nI 8)) S.1 S.2.1 dX2_receive_6 (by decide) ?_
  refine lv_idiv S.1 S.2.1 dX2_receive_8 (by decide) ?_
  refine k_top (pk_div (by omega) (by decide) (by decide)) ?_
  refine lv_bipush (v := (nI 8)) S.1 S.2.1 dX2_receive_9 (by decide) ?_
  refine lv_irem S.1 S.2.1 dX2_receive_11 (by decide) ?_
  refine k_top (pk_rem (by omega) (by decide) (by decide)) ?_
  refine lv_istore_n (lv' := [(3, .int (nI ((row / 8) % 8))), (2, .int (nI (row / 64))), (0, .ref (a 0)), (1, .int (nI (row)))]) S.1 S.2.1 dX2_receive_12 rfl hl (by decide) rfl (fun ls hl => ?_)
  refine lv_iload_n S.1 S.2.1 dX2_receive_13 rfl (lv_at hl 3 rfl) ?_
  refine lv_bipush (v := (nI 8)) S.1 S.2.1 dX2_receive_14 (by decide) ?_
  refine lv_irem S.1 S.2.1 dX2_receive_16 (by decide) ?_
  refine k_top (pk_rem (by omega) (by decide) (by decide)) ?_
  refine lv_istore (lv' := [(4, .int (nI (row % 8))), (3, .int (nI ((row / 8) % 8))), (2, .int (nI (row / 64))), (0, .ref (a 0)), (1, .int (nI (row)))]) S.1 S.2.1 dX2_receive_17 hl (by decide) rfl (fun ls hl => ?_)
  refine lv_aload_n S.1 S.2.1 dX2_receive_19 rfl (lv_at hl 3 rfl) ?_
  refine cf_net_inFlight S hK hP dX2_receive_20 ?_
  refine cn_inFlight_number S hK hN hP dX2_receive_23 ?_
  refine lv_iload_n S.1 S.2.1 dX2_receive_26 rfl (lv_at hl 4 rfl) ?_
  refine ca_inNumber S hK hP (j := row) (by omega) dX2_receive_27 ?_
  refine lv_istore (lv' := [(5, .int (σ.1 8 row)), (4, .int (nI (row % 8))), (3, .int (nI ((row / 8) % 8))), (2, .int (nI (row / 64))), (0, .ref (a 0)), (1, .int (nI (row)))]) S.1 S.2.1 dX2_receive_28 hl (by decide) rfl (fun ls hl => ?_)
  refine lv_aload_n S.1 S.2.1 dX2_receive_30 rfl (lv_at hl 4 rfl) ?_
  refine cf_net_known S hK hP dX2_receive_31 ?_
  refine cn_known_number S hK hN hP dX2_receive_34 ?_
  refine lv_iload_n S.1 S.2.1 dX2_receive_37 rfl (lv_at hl 2 rfl) ?_
  refine lv_iload S.1 S.2.1 dX2_receive_38 (lv_at hl 1 rfl) ?_
  refine call_X2_knownRow S hK hN hP hD hS hA (u := (row / 8) % 8) (v := row % 8)  hl.1 (Nat.le_of_ble_eq_true rfl) ⟨Nat.le_of_ble_eq_true rfl, Nat.le_of_ble_eq_true rfl⟩ dX2_receive_40 ⟨Nat.le_refl _, Nat.le_refl _⟩ (fun H locs hP hD hS => ?_)
  refine ca_knNumber S hK hP (j := (((row / 8) % 8) * 8 + (row % 8))) (by omega) dX2_receive_43 ?_
  refine lv_istore (lv' := [(6, .int (σ.1 6 (((row / 8) % 8) * 8 + (row % 8)))), (5, .int (σ.1 8 row)), (4, .int (nI (row % 8))), (3, .int (nI ((row / 8) % 8))), (2, .int (nI (row / 64))), (0, .ref (a 0)), (1, .int (nI (row)))]) S.1 S.2.1 dX2_receive_44 hl (by decide) rfl (fun ls hl => ?_)
  refine lv_iload S.1 S.2.1 dX2_receive_46 (lv_at hl 2 rfl) ?_
  refine lv_iload_n S.1 S.2.1 dX2_receive_48 rfl (lv_at hl 3 rfl) ?_
  refine lv_icmp_ne (tgt := 79) S.1 S.2.1 dX2_receive_49 (by decide) (fun c1 => ?_) (fun c1 => ?_)
  · have c1 : ¬ (row % 8) = ((row / 8) % 8) := fun h => c1 ((nI_eq (a := (row % 8)) (b := ((row / 8) % 8)) (by omega) (by omega)).mpr h)
    refine lv_iload S.1 S.2.1 dX2_receive_79 (lv_at hl 1 rfl) ?_
    refine lv_iload S.1 S.2.1 dX2_receive_81 (lv_at hl 0 rfl) ?_
    refine lv_icmp_le (tgt := 130) S.1 S.2.1 dX2_receive_83 (by decide) (fun c2 => ?_) (fun c2 => ?_)
    · refine lv_iload S.1 S.2.1 dX2_receive_130 (lv_at hl 1 rfl) ?_
      refine lv_iload S.1 S.2.1 dX2_receive_132 (lv_at hl 0 rfl) ?_
      refine lv_icmp_ge (tgt := 145) S.1 S.2.1 dX2_receive_134 (by decide) (fun c3 => ?_) (fun c3 => ?_)
      · refine lv_aload_n S.1 S.2.1 dX2_receive_145 rfl (lv_at hl 5 rfl) ?_
        refine cf_net_inFlight S hK hP dX2_receive_146 ?_
        refine lv_iload_n S.1 S.2.1 dX2_receive_149 rfl (lv_at hl 6 rfl) ?_
        refine call_X1_clear_inFlight_X2 S hK hN hP hD hS hA (row := row) (by omega) hl.1 (Nat.le_of_ble_eq_true rfl) ⟨Nat.le_of_ble_eq_true rfl, Nat.le_of_ble_eq_true rfl⟩ dX2_receive_150 ⟨Nat.le_refl _, Nat.le_refl _⟩ (fun H locs hP hD hS => ?_)
        have e9 : cRecv row σ = pClear 8 1 4 row σ := by first | (simp only [cRecv, cRecvB, c1, c2, c3, reduceIte, Bool.false_eq_true, eq_self_iff_true, if_true, if_false]; done) | with_reducible rfl
        rw [e9]
        exact kret_v S hr hlk hP hD hS dX2_receive_153
      · refine lv_aload_n S.1 S.2.1 dX2_receive_137 rfl (lv_at hl 5 rfl) ?_
        refine lv_iload_n S.1 S.2.1 dX2_receive_138 rfl (lv_at hl 3 rfl) ?_
        refine lv_iload_n S.1 S.2.1 dX2_receive_139 rfl (lv_at hl 4 rfl) ?_
        refine lv_iload S.1 S.2.1 dX2_receive_140 (lv_at hl 2 rfl) ?_
        refine call_X2_sendKnown S hK hN hP hD hS hA (f := (row / 8) % 8) (t := row / 64) (o := row % 8) (by omega) (by omega) (by omega) hl.1 (Nat.le_of_ble_eq_true rfl) ⟨Nat.le_of_ble_eq_true rfl, Nat.le_of_ble_eq_true rfl⟩ dX2_receive_142 ⟨Nat.le_refl _, Nat.le_refl _⟩ (fun H locs hP hD hS => ?_)
        refine lv_aload_n S.1 S.2.1 dX2_receive_145 rfl (lv_at hl 5 rfl) ?_
        refine cf_net_inFlight S hK hP dX2_receive_146 ?_
        refine lv_iload_n S.1 S.2.1 dX2_receive_149 rfl (lv_at hl 6 rfl) ?_
        refine call_X1_clear_inFlight_X2 S hK hN hP hD hS hA (row := row) (by omega) hl.1 (Nat.le_of_ble_eq_true rfl) ⟨Nat.le_of_ble_eq_true rfl, Nat.le_of_ble_eq_true rfl⟩ dX2_receive_150 ⟨Nat.le_refl _, Nat.le_refl _⟩ (fun H locs hP hD hS => ?_)
        have e9 : cRecv row σ = pClear 8 1 4 row (cSendKnown ((row / 8) % 8) (row / 64) (row % 8) σ) := by first | (simp only [cRecv, cRecvB, c1, c2, c3, reduceIte, Bool.false_eq_true, eq_self_iff_true, if_true, if_false]; done) | with_reducible rfl
        rw [e9]
        exact kret_v S hr hlk hP hD hS dX2_receive_153
    · refine lv_aload_n S.1 S.2.1 dX2_receive_86 rfl (lv_at hl 5 rfl) ?_
      refine cf_net_known S hK hP dX2_receive_87 ?_
      refine lv_iload_n S.1 S.2.1 dX2_receive_90 rfl (lv_at hl 3 rfl) ?_
      refine lv_iload S.1 S.2.1 dX2_receive_91 (lv_at hl 2 rfl) ?_
      refine call_X2_knownRow S hK hN hP hD hS hA (u := (row / 8) % 8) (v := row % 8)  hl.1 (Nat.le_of_ble_eq_true rfl) ⟨Nat.le_of_ble_eq_true rfl, Nat.le_of_ble_eq_true rfl⟩ dX2_receive_93 ⟨Nat.le_refl _, Nat.le_refl _⟩ (fun H locs hP hD hS => ?_)
      refine lv_iload S.1 S.2.1 dX2_receive_96 (lv_at hl 1 rfl) ?_
      refine lv_aload_n S.1 S.2.1 dX2_receive_98 rfl (lv_at hl 5 rfl) ?_
      refine cf_net_inFlight S hK hP dX2_receive_99 ?_
      refine cn_inFlight_born S hK hN hP dX2_receive_102 ?_
      refine lv_iload_n S.1 S.2.1 dX2_receive_105 rfl (lv_at hl 6 rfl) ?_
      refine ca_inBorn S hK hP (j := row) (by omega) dX2_receive_106 ?_
      refine lv_aload_n S.1 S.2.1 dX2_receive_107 rfl (lv_at hl 5 rfl) ?_
      refine cf_net_inFlight S hK hP dX2_receive_108 ?_
      refine cn_inFlight_costs S hK hN hP dX2_receive_111 ?_
      refine lv_iload_n S.1 S.2.1 dX2_receive_114 rfl (lv_at hl 6 rfl) ?_
      refine ca_inCosts S hK hP (j := row) (by omega) dX2_receive_115 ?_
      refine call_X1_write_known S hK hN hP hD hS hA (row := ((row / 8) % 8) * 8 + (row % 8)) (x := σ.1 8 row) (y := σ.1 9 row) (z := σ.2 1 row) (by omega) hl.1 (Nat.le_of_ble_eq_true rfl) ⟨Nat.le_of_ble_eq_true rfl, Nat.le_of_ble_eq_true rfl⟩ dX2_receive_116 ⟨Nat.le_refl _, Nat.le_refl _⟩ (fun H locs hP hD hS => ?_)
      refine lv_aload_n S.1 S.2.1 dX2_receive_119 rfl (lv_at hl 5 rfl) ?_
      refine lv_iload_n S.1 S.2.1 dX2_receive_120 rfl (lv_at hl 3 rfl) ?_
      refine lv_iload S.1 S.2.1 dX2_receive_121 (lv_at hl 2 rfl) ?_
      refine lv_iload_n S.1 S.2.1 dX2_receive_123 rfl (lv_at hl 4 rfl) ?_
      refine call_X2_spread S hK hN hP hD hS hA (u := (row / 8) % 8) (o := row % 8) (x := nI (row / 64)) (by omega) (by omega) hl.1 (Nat.le_of_ble_eq_true rfl) ⟨Nat.le_of_ble_eq_true rfl, Nat.le_of_ble_eq_true rfl⟩ dX2_receive_124 ⟨Nat.le_refl _, Nat.le_refl _⟩ (fun H locs hP hD hS => ?_)
      refine lv_goto (tgt := 145) S.1 S.2.1 dX2_receive_127 (by decide) ?_
      refine lv_aload_n S.1 S.2.1 dX2_receive_145 rfl (lv_at hl 5 rfl) ?_
      refine cf_net_inFlight S hK hP dX2_receive_146 ?_
      refine lv_iload_n S.1 S.2.1 dX2_receive_149 rfl (lv_at hl 6 rfl) ?_
      refine call_X1_clear_inFlight_X2 S hK hN hP hD hS hA (row := row) (by omega) hl.1 (Nat.le_of_ble_eq_true rfl) ⟨Nat.le_of_ble_eq_true rfl, Nat.le_of_ble_eq_true rfl⟩ dX2_receive_150 ⟨Nat.le_refl _, Nat.le_refl _⟩ (fun H locs hP hD hS => ?_)
      have e9 : cRecv row σ = pClear 8 1 4 row (cSpread ((row / 8) % 8) (row % 8) (nI (row / 64)) (pWrite 6 7 0 3 (((row / 8) % 8) * 8 + (row % 8)) (σ.1 8 row) (σ.1 9 row) (σ.2 1 row) σ)) := by first | (simp only [cRecv, cRecvB, c1, c2, reduceIte, Bool.false_eq_true, eq_self_iff_true, if_true, if_false]; done) | with_reducible rfl
      rw [e9]
      exact kret_v S hr hlk hP hD hS dX2_receive_153
  · have c1 : (row % 8) = ((row / 8) % 8) := (nI_eq (a := (row % 8)) (b := ((row / 8) % 8)) (by omega) (by omega)).mp c1
    refine lv_iload S.1 S.2.1 dX2_receive_52 (lv_at hl 1 rfl) ?_
    refine lv_aload_n S.1 S.2.1 dX2_receive_54 rfl (lv_at hl 5 rfl) ?_
    refine cf_net_latestNumber S hK hP dX2_receive_55 ?_
    refine lv_iload_n S.1 S.2.1 dX2_receive_58 rfl (lv_at hl 3 rfl) ?_
    refine ca_latest S hK hP (j := ((row / 8) % 8)) (by omega) dX2_receive_59 ?_
    refine lv_icmp_le (tgt := 145) S.1 S.2.1 dX2_receive_60 (by decide) (fun c4 => ?_) (fun c4 => ?_)
    · refine lv_aload_n S.1 S.2.1 dX2_receive_145 rfl (lv_at hl 5 rfl) ?_
      refine cf_net_inFlight S hK hP dX2_receive_146 ?_
      refine lv_iload_n S.1 S.2.1 dX2_receive_149 rfl (lv_at hl 6 rfl) ?_
      refine call_X1_clear_inFlight_X2 S hK hN hP hD hS hA (row := row) (by omega) hl.1 (Nat.le_of_ble_eq_true rfl) ⟨Nat.le_of_ble_eq_true rfl, Nat.le_of_ble_eq_true rfl⟩ dX2_receive_150 ⟨Nat.le_refl _, Nat.le_refl _⟩ (fun H locs hP hD hS => ?_)
      have e9 : cRecv row σ = pClear 8 1 4 row σ := by first | (simp only [cRecv, cRecvB, eq_true c1, c4, reduceIte, Bool.false_eq_true, eq_self_iff_true, if_true, if_false]; done) | with_reducible rfl
      rw [e9]
      exact kret_v S hr hlk hP hD hS dX2_receive_153
    · refine lv_aload_n S.1 S.2.1 dX2_receive_63 rfl (lv_at hl 5 rfl) ?_
      refine cf_net_latestNumber S hK hP dX2_receive_64 ?_
      refine lv_iload_n S.1 S.2.1 dX2_receive_67 rfl (lv_at hl 3 rfl) ?_
      refine lv_iload S.1 S.2.1 dX2_receive_68 (lv_at hl 1 rfl) ?_
      refine cs_latest S hK hP hD hS (j := ((row / 8) % 8)) (by omega) dX2_receive_70 (fun H locs hP hD hS => ?_)
      refine lv_aload_n S.1 S.2.1 dX2_receive_71 rfl (lv_at hl 5 rfl) ?_
      refine lv_iload_n S.1 S.2.1 dX2_receive_72 rfl (lv_at hl 3 rfl) ?_
      refine call_X2_tell S hK hN hP hD hS hA (u := (row / 8) % 8) (by omega) hl.1 (Nat.le_of_ble_eq_true rfl) ⟨Nat.le_of_ble_eq_true rfl, Nat.le_of_ble_eq_true rfl⟩ dX2_receive_73 ⟨Nat.le_refl _, Nat.le_refl _⟩ (fun H locs hP hD hS => ?_)
      refine lv_goto (tgt := 145) S.1 S.2.1 dX2_receive_76 (by decide) ?_
      refine lv_aload_n S.1 S.2.1 dX2_receive_145 rfl (lv_at hl 5 rfl) ?_
      refine cf_net_inFlight S hK hP dX2_receive_146 ?_
      refine lv_iload_n S.1 S.2.1 dX2_receive_149 rfl (lv_at hl 6 rfl) ?_
      refine call_X1_clear_inFlight_X2 S hK hN hP hD hS hA (row := row) (by omega) hl.1 (Nat.le_of_ble_eq_true rfl) ⟨Nat.le_of_ble_eq_true rfl, Nat.le_of_ble_eq_true rfl⟩ dX2_receive_150 ⟨Nat.le_refl _, Nat.le_refl _⟩ (fun H locs hP hD hS => ?_)
      have e9 : cRecv row σ = pClear 8 1 4 row (cTell ((row / 8) % 8) (sI 2 ((row / 8) % 8) (σ.1 8 row) σ)) := by first | (simp only [cRecv, cRecvB, eq_true c1, c4, reduceIte, Bool.false_eq_true, eq_self_iff_true, if_true, if_false]; done) | with_reducible rfl
      rw [e9]
      exact kret_v S hr hlk hP hD hS dX2_receive_153
theorem call_X2_receive {p : Program} {l : Launch} {e : Env} {R : Room} {s : State} {m : MethodId} {args : Array Value} {below : List Frame} {meth : Method} {c : Code} {H : Heap} {locs : List Loc} {cells slots : Nat} {Q : State → Prop} {cc : ByteArray} {pc nL : Nat} {ls : Array Slot} {rest : List Value} {D : va_G} {A : Nat → Prop} {w0 : Cond} {X : va_W} {cy : Nat → ClassId} {a : Nat → Nat} {σ : CS} (S : CallFix p m c cc nL s args (w0 :: gw) RX2) (hK : va_K D vwCl (tyA cy) s) (hN : kN nestC s) (hP : va_P D vwCl (X ++ cB cy a σ) H) (hD : va_D A (X ++ cB cy a σ)) (hS : va_S A s.heap H locs) (hA : ∀ q, s.heap.size ≤ q → A q) {row : Nat} (hrow : row < 512) (hsz : ls.size = nL) (hW : (rest.map fun v => v.category).sum ≤ 8) (hR : 4 + 1 ≤ R.frames ∧ 8 + (7 + 11) + 32 * 4 ≤ R.locals) (hdg : decode cc pc = .ok (.invokevirtual 221, 3)) (hfc : cells ≤ R.cells ∧ slots ≤ R.slots)
    (kk : ∀ (H1 : Heap) (locs1 : List Loc), va_P D vwCl (X ++ cB cy a (cRecv row σ)) H1 → va_D A (X ++ cB cy a (cRecv row σ)) → va_S A s.heap H1 locs1 → W p l e R s m args below meth c H1 locs1 cells slots Q (F0 m (pc + 3) ls (rest))) : W p l e R s m args below meth c H locs cells slots Q (F0 m pc ls (.int (nI (row)) :: .ref (a 0) :: rest)) :=
  kgo_v (va_runV (As := [.int (nI (row))]) (rest := rest) S (c_X2_receive l D cy a X σ row hrow H.size) (cwV 1 S.2.2.2.2 (gw_good_1 wm_417 (gw_good_1 wm_419 (gw_good_1 wm_27 (gw_good_1 wm_48 (gw_good_in wm_420))))) rfl rfl rfl (by decide +kernel) hR) ⟨kblind nestC_ok, crecv_net hK hP, kpre nestC_ok hN hK hP hD⟩ rfl rfl hsz rfl (lv_room hW) hdg hfc) hD hS hA kk
set_option maxHeartbeats 400000 in
set_option maxRecDepth 100000 in
theorem c_X2_receiveArrivedNews (l : Launch) (D : va_G) (cy : Nat → ClassId) (a : Nat → Nat) (X : va_W) (σ : CS)   : MetV l yX2_receiveArrivedNews cX2_receiveArrivedNews 2 (kRm 5 0 0) D (tyA cy) nestC [.ref (a 0)] (X ++ cB cy a σ) (X ++ cB cy a (cArr σ)) 0 0 := by
  intro sz
  refine kmet (own := RX2) (by decide) rfl (Nat.le_of_ble_eq_true rfl) (fun p e s m args below meth c S hr hlk hK hN hP hD hsz hA hnm ls hl => ?_)
  have hS : va_S (va_A (X ++ cB cy a σ) sz) s.heap s.heap [] := va_S.rf
  have hl : lv_has ls 2 [(0, .ref (a 0))] := hl
  refine lv_aload_n S.1 S.2.1 dX2_receiveArrivedNews_0 rfl (lv_at hl 0 rfl) ?_
  refine cf_net_inFlight S hK hP dX2_receiveArrivedNews_1 ?_
  refine cn_inFlight_count S hK hN hP dX2_receiveArrivedNews_4 ?_
  refine lv_if_ne (tgt := 11) S.1 S.2.1 dX2_receiveArrivedNews_7 (by decide) (fun c1 => ?_) (fun c1 => ?_)
  · refine lv_iconst (v := (nI 0)) S.1 S.2.1 dX2_receiveArrivedNews_11 (by decide) ?_
    refine lv_istore_n (lv' := [(1, .int (nI 0)), (0, .ref (a 0))]) S.1 S.2.1 dX2_receiveArrivedNews_12 rfl hl (by decide) rfl (fun ls hl => ?_)
    have lp2 : ∀ (n2 i2 : Nat) (σ2 : CS), i2 + n2 = 512 → itr fArr n2 i2 σ2 = itr fArr 512 0 σ → ∀ (H : Heap) (locs : List Loc), va_P D vwCl (X ++ cB cy a σ2) H → va_D (va_A (X ++ cB cy a σ) sz) (X ++ cB cy a σ2) → va_S (va_A (X ++ cB cy a σ) sz) s.heap H locs → ∀ ls : Array Slot, lv_has ls 2 [(1, .int (nI (i2))), (0, .ref (a 0))] → W p l e (kRm 5 0 0) s m args below meth c H locs 0 0 (MQ below (kQv D (X ++ cB cy a σ) (X ++ cB cy a (cArr σ)) sz) args s 0 0 (va_A (X ++ cB cy a σ) sz)) (F0 m 13 ls []) := by
      intro n2
      induction n2 with
      | zero =>
        intro i2 σ2 hi2 he2 H locs hP hD hS ls hl
        have hi2 : i2 = 512 := by omega
        have he2 : σ2 = itr fArr 512 0 σ := he2
        refine lv_iload_n S.1 S.2.1 dX2_receiveArrivedNews_13 rfl (lv_at hl 0 rfl) ?_
        refine lv_sipush (v := (nI 512)) S.1 S.2.1 dX2_receiveArrivedNews_14 (by decide) ?_
        refine lv_icmp_ge (tgt := 56) S.1 S.2.1 dX2_receiveArrivedNews_17 (by decide) (fun _ => ?_) (fun c => absurd (nI_le (by omega) (by omega)) c)
        have e9 : cArr σ = σ2 := by first | (simp only [cArr, c1, ← he2, reduceIte, Bool.false_eq_true, eq_self_iff_true, if_true, if_false]; done) | with_reducible rfl
        rw [e9]
        exact kret_v S hr hlk hP hD hS dX2_receiveArrivedNews_56
      | succ n2 ih2 =>
        intro i2 σ2 hi2 he2 H locs hP hD hS ls hl
        have hlt2 : i2 < 512 := by omega
        refine lv_iload_n S.1 S.2.1 dX2_receiveArrivedNews_13 rfl (lv_at hl 0 rfl) ?_
        refine lv_sipush (v := (nI 512)) S.1 S.2.1 dX2_receiveArrivedNews_14 (by decide) ?_
        refine lv_icmp_ge (tgt := 56) S.1 S.2.1 dX2_receiveArrivedNews_17 (by decide) (fun c => absurd c (nI_ge (by omega) (by omega))) (fun _ => ?_)
        refine lv_aload_n S.1 S.2.1 dX2_receiveArrivedNews_20 rfl (lv_at hl 1 rfl) ?_
        refine cf_net_inFlight S hK hP dX2_receiveArrivedNews_21 ?_
        refine cn_inFlight_number S hK hN hP dX2_receiveArrivedNews_24 ?_
        refine lv_iload_n S.1 S.2.1 dX2_receiveArrivedNews_27 rfl (lv_at hl 0 rfl) ?_
        refine ca_inNumber S hK hP (j := i2) (by omega) dX2_receiveArrivedNews_28 ?_
        refine lv_if_le (tgt := 50) S.1 S.2.1 dX2_receiveArrivedNews_29 (by decide) (fun c5 => ?_) (fun c5 => ?_)
        · refine lv_iinc (v := (nI (i2 + 1))) (lv' := [(1, .int (nI (i2 + 1))), (0, .ref (a 0))]) S.1 S.2.1 dX2_receiveArrivedNews_50 hl (k := 0) rfl (nI_add _ 1) (by decide) rfl (fun ls hl => ?_)
          refine lv_goto (tgt := 13) S.1 S.2.1 dX2_receiveArrivedNews_53 (by decide) ?_
          exact ih2 (i2 + 1) σ2 (by omega) (itr_step he2 (by first | (simp only [fArr, c1, c5, reduceIte, Bool.false_eq_true, eq_self_iff_true, if_true, if_false]; done) | with_reducible rfl)) _ _ hP hD hS _ (lv_sub hl [0, 1] rfl)
        · refine lv_aload_n S.1 S.2.1 dX2_receiveArrivedNews_32 rfl (lv_at hl 1 rfl) ?_
          refine cf_net_newsArrival S hK hP dX2_receiveArrivedNews_33 ?_
          refine lv_iload_n S.1 S.2.1 dX2_receiveArrivedNews_36 rfl (lv_at hl 0 rfl) ?_
          refine ca_newsArrival S hK hP (j := i2) (by omega) dX2_receiveArrivedNews_37 ?_
          refine lv_aload_n S.1 S.2.1 dX2_receiveArrivedNews_38 rfl (lv_at hl 1 rfl) ?_
          refine cf_net_time S hK hP dX2_receiveArrivedNews_39 ?_
          refine lv_icmp_ne (tgt := 50) S.1 S.2.1 dX2_receiveArrivedNews_42 (by decide) (fun c6 => ?_) (fun c6 => ?_)
          · refine lv_iinc (v := (nI (i2 + 1))) (lv' := [(1, .int (nI (i2 + 1))), (0, .ref (a 0))]) S.1 S.2.1 dX2_receiveArrivedNews_50 hl (k := 0) rfl (nI_add _ 1) (by decide) rfl (fun ls hl => ?_)
            refine lv_goto (tgt := 13) S.1 S.2.1 dX2_receiveArrivedNews_53 (by decide) ?_
            exact ih2 (i2 + 1) σ2 (by omega) (itr_step he2 (by first | (simp only [fArr, c1, c5, c6, reduceIte, Bool.false_eq_true, eq_self_iff_true, if_true, if_false]; done) | with_reducible rfl)) _ _ hP hD hS _ (lv_sub hl [0, 1] rfl)
          · refine lv_aload_n S.1 S.2.1 dX2_receiveArrivedNews_45 rfl (lv_at hl 1 rfl) ?_
            refine lv_iload_n S.1 S.2.1 dX2_receiveArrivedNews_46 rfl (lv_at hl 0 rfl) ?_
            refine call_X2_receive S hK hN hP hD hS hA (row := i2) (by omega) hl.1 (Nat.le_of_ble_eq_true rfl) ⟨Nat.le_of_ble_eq_true rfl, Nat.le_of_ble_eq_true rfl⟩ dX2_receiveArrivedNews_47 ⟨Nat.le_refl _, Nat.le_refl _⟩ (fun H locs hP hD hS => ?_)
            refine lv_iinc (v := (nI (i2 + 1))) (lv' := [(1, .int (nI (i2 + 1))), (0, .ref (a 0))]) S.1 S.2.1 dX2_receiveArrivedNews_50 hl (k := 0) rfl (nI_add _ 1) (by decide) rfl (fun ls hl => ?_)
            refine lv_goto (tgt := 13) S.1 S.2.1 dX2_receiveArrivedNews_53 (by decide) ?_
            exact ih2 (i2 + 1) (cRecv i2 σ2) (by omega) (itr_step he2 (by first | (simp only [fArr, c1, c5, eq_true c6, reduceIte, Bool.false_eq_true, eq_self_iff_true, if_true, if_false]; done) | with_reducible rfl)) _ _ hP hD hS _ (lv_sub hl [0, 1] rfl)
    exact lp2 512 0 σ (by omega) rfl _ _ hP hD hS _ (lv_sub hl [0, 1] rfl)
  · have e9 : cArr σ = σ := by first | (simp only [cArr, eq_true c1, reduceIte, Bool.false_eq_true, eq_self_iff_true, if_true, if_false]; done) | with_reducible rfl
    rw [e9]
    exact kret_v S hr hlk hP hD hS dX2_receiveArrivedNews_10
theorem call_X2_receiveArrivedNews {p : Program} {l : Launch} {e : Env} {R : Room} {s : State} {m : MethodId} {args : Array Value} {below : List Frame} {meth : Method} {c : Code} {H : Heap} {locs : List Loc} {cells slots : Nat} {Q : State → Prop} {cc : ByteArray} {pc nL : Nat} {ls : Array Slot} {rest : List Value} {D : va_G} {A : Nat → Prop} {w0 : Cond} {X : va_W} {cy : Nat → ClassId} {a : Nat → Nat} {σ : CS} (S : CallFix p m c cc nL s args (w0 :: gw) RX2) (hK : va_K D vwCl (tyA cy) s) (hN : kN nestC s) (hP : va_P D vwCl (X ++ cB cy a σ) H) (hD : va_D A (X ++ cB cy a σ)) (hS : va_S A s.heap H locs) (hA : ∀ q, s.heap.size ≤ q → A q)   (hsz : ls.size = nL) (hW : (rest.map fun v => v.category).sum ≤ 8) (hR : 5 + 1 ≤ R.frames ∧ 8 + (2 + 11) + 32 * 5 ≤ R.locals) (hdg : decode cc pc = .ok (.invokevirtual 127, 3)) (hfc : cells ≤ R.cells ∧ slots ≤ R.slots)
    (kk : ∀ (H1 : Heap) (locs1 : List Loc), va_P D vwCl (X ++ cB cy a (cArr σ)) H1 → va_D A (X ++ cB cy a (cArr σ)) → va_S A s.heap H1 locs1 → W p l e R s m args below meth c H1 locs1 cells slots Q (F0 m (pc + 3) ls (rest))) : W p l e R s m args below meth c H locs cells slots Q (F0 m pc ls (.ref (a 0) :: rest)) :=
  kgo_v (va_runV (As := []) (rest := rest) S (c_X2_receiveArrivedNews l D cy a X σ   H.size) (cwV 0 S.2.2.2.2 (gw_good_1 wm_413 (gw_good_1 wm_415 (gw_good_1 wm_26 (gw_good_1 wm_48 (gw_good_in wm_416))))) rfl rfl rfl (by decide +kernel) hR) ⟨kblind nestC_ok, crecv_net hK hP, kpre nestC_ok hN hK hP hD⟩ rfl rfl hsz rfl (lv_room hW) hdg hfc) hD hS hA kk
set_option maxHeartbeats 400000 in
set_option maxRecDepth 100000 in
theorem c_X2_measureWays (l : Launch) (D : va_G) (cy : Nat → ClassId) (a : Nat → Nat) (X : va_W) (σ : CS) (v : Nat) (g : Nat) (hv : v < 8) (hg : g < 8) : MetV l yX2_measureWays cX2_measureWays 7 (kRm 2 0 0) D (tyA cy) nestC [.ref (a 0), .int (nI (v)), .int (nI (g))] (X ++ cB cy a σ) (X ++ cB cy a (cMeas v g σ)) 0 0 := by
  intro sz
  refine kmet (own := RX2) (by decide) rfl (Nat.le_of_ble_eq_true rfl) (fun p e s m args below meth c S hr hlk hK hN hP hD hsz hA hnm ls hl => ?_)
  have hS : va_S (va_A (X ++ cB cy a σ) sz) s.heap s.heap [] := va_S.rf
  have hl : lv_has ls 7 [(0, .ref (a 0)), (1, .int (nI (v))), (2, .int (nI (g)))] := hl
  refine lv_iconst (v := (nI 0)) S.1 S.2.1 dX2_measureWays_0 (by decide) ?_
  refine lv_istore_n (lv' := [(3, .int (nI 0)), (0, .ref (a 0)), (1, .int (nI (v))), (2, .int (nI (g)))]) S.1 S.2.1 dX2_measureWays_1 rfl hl (by decide) rfl (fun ls hl => ?_)
  have lp1 : ∀ (n1 i1 : Nat) (σ1 : CS), i1 + n1 = 8 → itr (fM0 g) n1 i1 σ1 = itr (fM0 g) 8 0 σ → ∀ (H : Heap) (locs : List Loc), va_P D vwCl (X ++ cB cy a σ1) H → va_D (va_A (X ++ cB cy a σ) sz) (X ++ cB cy a σ1) → va_S (va_A (X ++ cB cy a σ) sz) s.heap H locs → ∀ ls : Array Slot, lv_has ls 7 [(3, .int (nI (i1))), (0, .ref (a 0)), (1, .int (nI (v))), (2, .int (nI (g)))] → W p l e (kRm 2 0 0) s m args below meth c H locs 0 0 (MQ below (kQv D (X ++ cB cy a σ) (X ++ cB cy a (cMeas v g σ)) sz) args s 0 0 (va_A (X ++ cB cy a σ) sz)) (F0 m 2 ls []) := by
    intro n1
    induction n1 with
    | zero =>
      intro i1 σ1 hi1 he1 H locs hP hD hS ls hl
      have hi1 : i1 = 8 := by omega
      have he1 : σ1 = itr (fM0 g) 8 0 σ := he1
      refine lv_iload_n S.1 S.2.1 dX2_measureWays_2 rfl (lv_at hl 0 rfl) ?_
      refine lv_bipush (v := (nI 8)) S.1 S.2.1 dX2_measureWays_3 (by decide) ?_
      refine lv_icmp_ge (tgt := 32) S.1 S.2.1 dX2_measureWays_5 (by decide) (fun _ => ?_) (fun c => absurd (nI_le (by omega) (by omega)) c)
      refine lv_iconst (v := (nI 1)) S.1 S.2.1 dX2_measureWays_32 (by decide) ?_
      refine lv_istore_n (lv' := [(3, .int (nI 1)), (0, .ref (a 0)), (1, .int (nI (v))), (2, .int (nI (g)))]) S.1 S.2.1 dX2_measureWays_33 rfl hl (by decide) rfl (fun ls hl => ?_)
      have lp3 : ∀ (n3 i3 : Nat) (σ3 : CS), i3 + n3 = 8 → itr (fM1 v) n3 i3 σ3 = itr (fM1 v) 7 1 σ1 → ∀ (H : Heap) (locs : List Loc), va_P D vwCl (X ++ cB cy a σ3) H → va_D (va_A (X ++ cB cy a σ) sz) (X ++ cB cy a σ3) → va_S (va_A (X ++ cB cy a σ) sz) s.heap H locs → ∀ ls : Array Slot, lv_has ls 7 [(3, .int (nI (i3))), (0, .ref (a 0)), (1, .int (nI (v))), (2, .int (nI (g)))] → W p l e (kRm 2 0 0) s m args below meth c H locs 0 0 (MQ below (kQv D (X ++ cB cy a σ) (X ++ cB cy a (cMeas v g σ)) sz) args s 0 0 (va_A (X ++ cB cy a σ) sz)) (F0 m 34 ls []) := by
        intro n3
        induction n3 with
        | zero =>
          intro i3 σ3 hi3 he3 H locs hP hD hS ls hl
          have hi3 : i3 = 8 := by omega
          have he3 : σ3 = itr (fM1 v) 7 1 σ1 := he3
          refine lv_iload_n S.1 S.2.1 dX2_measureWays_34 rfl (lv_at hl 0 rfl) ?_
          refine lv_bipush (v := (nI 8)) S.1 S.2.1 dX2_measureWays_35 (by decide) ?_
          refine lv_icmp_ge (tgt := 131) S.1 S.2.1 dX2_measureWays_37 (by decide) (fun _ => ?_) (fun c => absurd (nI_le (by omega) (by omega)) c)
          have e9 : cMeas v g σ = σ3 := by first | (simp only [cMeas, ← he1, ← he3, reduceIte, Bool.false_eq_true, eq_self_iff_true, if_true, if_false]; done) | with_reducible rfl
          rw [e9]
          exact kret_v S hr hlk hP hD hS dX2_measureWays_131
        | succ n3 ih3 =>
          intro i3 σ3 hi3 he3 H locs hP hD hS ls hl
          have hlt3 : i3 < 8 := by omega
          refine lv_iload_n S.1 S.2.1 dX2_measureWays_34 rfl (lv_at hl 0 rfl) ?_
          refine lv_bipush (v := (nI 8)) S.1 S.2.1 dX2_measureWays_35 (by decide) ?_
          refine lv_icmp_ge (tgt := 131) S.1 S.2.1 dX2_measureWays_37 (by decide) (fun c => absurd c (nI_ge (by omega) (by omega))) (fun _ => ?_)
          refine lv_iconst (v := (nI 0)) S.1 S.2.1 dX2_measureWays_40 (by decide) ?_
          refine lv_istore (lv' := [(4, .int (nI 0)), (3, .int (nI (i3))), (0, .ref (a 0)), (1, .int (nI (v))), (2, .int (nI (g)))]) S.1 S.2.1 dX2_measureWays_41 hl (by decide) rfl (fun ls hl => ?_)
          have lp6 : ∀ (n6 i6 : Nat) (σ6 : CS), i6 + n6 = 8 → itr (fM2 v) n6 i6 σ6 = itr (fM2 v) 8 0 σ3 → ∀ (H : Heap) (locs : List Loc), va_P D vwCl (X ++ cB cy a σ6) H → va_D (va_A (X ++ cB cy a σ) sz) (X ++ cB cy a σ6) → va_S (va_A (X ++ cB cy a σ) sz) s.heap H locs → ∀ ls : Array Slot, lv_has ls 7 [(4, .int (nI (i6))), (3, .int (nI (i3))), (0, .ref (a 0)), (1, .int (nI (v))), (2, .int (nI (g)))] → W p l e (kRm 2 0 0) s m args below meth c H locs 0 0 (MQ below (kQv D (X ++ cB cy a σ) (X ++ cB cy a (cMeas v g σ)) sz) args s 0 0 (va_A (X ++ cB cy a σ) sz)) (F0 m 43 ls []) := by
            intro n6
            induction n6 with
            | zero =>
              intro i6 σ6 hi6 he6 H locs hP hD hS ls hl
              have hi6 : i6 = 8 := by omega
              have he6 : σ6 = itr (fM2 v) 8 0 σ3 := he6
              refine lv_iload S.1 S.2.1 dX2_measureWays_43 (lv_at hl 0 rfl) ?_
              refine lv_bipush (v := (nI 8)) S.1 S.2.1 dX2_measureWays_45 (by decide) ?_
              refine lv_icmp_ge (tgt := 125) S.1 S.2.1 dX2_measureWays_47 (by decide) (fun _ => ?_) (fun c => absurd (nI_le (by omega) (by omega)) c)
              refine lv_iinc (v := (nI (i3 + 1))) (lv' := [(3, .int (nI (i3 + 1))), (4, .int (nI (i6))), (0, .ref (a 0)), (1, .int (nI (v))), (2, .int (nI (g)))]) S.1 S.2.1 dX2_measureWays_125 hl (k := 1) rfl (nI_add _ 1) (by decide) rfl (fun ls hl => ?_)
              refine lv_goto (tgt := 34) S.1 S.2.1 dX2_measureWays_128 (by decide) ?_
              exact ih3 (i3 + 1) σ6 (by omega) (itr_step he3 (by first | (simp only [fM1, ← he1, ← he6, reduceIte, Bool.false_eq_true, eq_self_iff_true, if_true, if_false]; done) | with_reducible rfl)) _ _ hP hD hS _ (lv_sub hl [0, 2, 3, 4] rfl)
            | succ n6 ih6 =>
              intro i6 σ6 hi6 he6 H locs hP hD hS ls hl
              have hlt6 : i6 < 8 := by omega
              refine lv_iload S.1 S.2.1 dX2_measureWays_43 (lv_at hl 0 rfl) ?_
              refine lv_bipush (v := (nI 8)) S.1 S.2.1 dX2_measureWays_45 (by decide) ?_
              refine lv_icmp_ge (tgt := 125) S.1 S.2.1 dX2_measureWays_47 (by decide) (fun c => absurd c (nI_ge (by omega) (by omega))) (fun _ => ?_)
              refine lv_iconst (v := (nI 0)) S.1 S.2.1 dX2_measureWays_50 (by decide) ?_
              refine lv_istore (lv' := [(5, .int (nI 0)), (4, .int (nI (i6))), (3, .int (nI (i3))), (0, .ref (a 0)), (1, .int (nI (v))), (2, .int (nI (g)))]) S.1 S.2.1 dX2_measureWays_51 hl (by decide) rfl (fun ls hl => ?_)
              have lp9 : ∀ (n9 i9 : Nat) (σ9 : CS), i9 + n9 = 8 → itr (fM3 v i6) n9 i9 σ9 = itr (fM3 v i6) 8 0 σ6 → ∀ (H : Heap) (locs : List Loc), va_P D vwCl (X ++ cB cy a σ9) H → va_D (va_A (X ++ cB cy a σ) sz) (X ++ cB cy a σ9) → va_S (va_A (X ++ cB cy a σ) sz) s.heap H locs → ∀ ls : Array Slot, lv_has ls 7 [(5, .int (nI (i9))), (4, .int (nI (i6))), (3, .int (nI (i3))), (0, .ref (a 0)), (1, .int (nI (v))), (2, .int (nI (g)))] → W p l e (kRm 2 0 0) s m args below meth c H locs 0 0 (MQ below (kQv D (X ++ cB cy a σ) (X ++ cB cy a (cMeas v g σ)) sz) args s 0 0 (va_A (X ++ cB cy a σ) sz)) (F0 m 53 ls []) := by
                intro n9
                induction n9 with
                | zero =>
                  intro i9 σ9 hi9 he9 H locs hP hD hS ls hl
                  have hi9 : i9 = 8 := by omega
                  have he9 : σ9 = itr (fM3 v i6) 8 0 σ6 := he9
                  refine lv_iload S.1 S.2.1 dX2_measureWays_53 (lv_at hl 0 rfl) ?_
                  refine lv_bipush (v := (nI 8)) S.1 S.2.1 dX2_measureWays_55 (by decide) ?_
                  refine lv_icmp_ge (tgt := 119) S.1 S.2.1 dX2_measureWays_57 (by decide) (fun _ => ?_) (fun c => absurd (nI_le (by omega) (by omega)) c)
                  refine lv_iinc (v := (nI (i6 + 1))) (lv' := [(4, .int (nI (i6 + 1))), (5, .int (nI (i9))), (3, .int (nI (i3))), (0, .ref (a 0)), (1, .int (nI (v))), (2, .int (nI (g)))]) S.1 S.2.1 dX2_measureWays_119 hl (k := 1) rfl (nI_add _ 1) (by decide) rfl (fun ls hl => ?_)
                  refine lv_goto (tgt := 43) S.1 S.2.1 dX2_measureWays_122 (by decide) ?_
                  exact ih6 (i6 + 1) σ9 (by omega) (itr_step he6 (by first | (simp only [fM2, ← he1, ← he9, reduceIte, Bool.false_eq_true, eq_self_iff_true, if_true, if_false]; done) | with_reducible rfl)) _ _ hP hD hS _ (lv_sub hl [0, 2, 3, 4, 5] rfl)
                | succ n9 ih9 =>
                  intro i9 σ9 hi9 he9 H locs hP hD hS ls hl
                  have hlt9 : i9 < 8 := by omega
                  refine lv_iload S.1 S.2.1 dX2_measureWays_53 (lv_at hl 0 rfl) ?_
                  refine lv_bipush (v := (nI 8)) S.1 S.2.1 dX2_measureWays_55 (by decide) ?_
                  refine lv_icmp_ge (tgt := 119) S.1 S.2.1 dX2_measureWays_57 (by decide) (fun c => absurd c (nI_ge (by omega) (by omega))) (fun _ => ?_)
                  refine lv_aload_n S.1 S.2.1 dX2_measureWays_60 rfl (lv_at hl 3 rfl) ?_
                  refine lv_iload_n S.1 S.2.1 dX2_measureWays_61 rfl (lv_at hl 4 rfl) ?_
                  refine lv_iload S.1 S.2.1 dX2_measureWays_62 (lv_at hl 1 rfl) ?_
                  refine lv_iload S.1 S.2.1 dX2_measureWays_64 (lv_at hl 0 rfl) ?_
                  refine call_X2_stepCost S hK hN hP hD hS hA (v := v) (f := i6) (t := i9) (by omega) (by omega) (by omega) hl.1 (Nat.le_of_ble_eq_true rfl) ⟨Nat.le_of_ble_eq_true rfl, Nat.le_of_ble_eq_true rfl⟩ dX2_measureWays_66 ⟨Nat.le_refl _, Nat.le_refl _⟩ (fun H locs hP hD hS => ?_)
                  refine lv_istore (lv' := [(6, .int (cStep σ9 v i6 i9)), (5, .int (nI (i9))), (4, .int (nI (i6))), (3, .int (nI (i3))), (0, .ref (a 0)), (1, .int (nI (v))), (2, .int (nI (g)))]) S.1 S.2.1 dX2_measureWays_69 hl (by decide) rfl (fun ls hl => ?_)
                  refine lv_iload S.1 S.2.1 dX2_measureWays_71 (lv_at hl 0 rfl) ?_
                  refine lv_if_le (tgt := 113) S.1 S.2.1 dX2_measureWays_73 (by decide) (fun c12 => ?_) (fun c12 => ?_)
                  · refine lv_iinc (v := (nI (i9 + 1))) (lv' := [(5, .int (nI (i9 + 1))), (6, .int (cStep σ9 v i6 i9)), (4, .int (nI (i6))), (3, .int (nI (i3))), (0, .ref (a 0)), (1, .int (nI (v))), (2, .int (nI (g)))]) S.1 S.2.1 dX2_measureWays_113 hl (k := 1) rfl (nI_add _ 1) (by decide) rfl (fun ls hl => ?_)
                    refine lv_goto (tgt := 53) S.1 S.2.1 dX2_measureWays_116 (by decide) ?_
                    exact ih9 (i9 + 1) σ9 (by omega) (itr_step he9 (by first | (simp only [fM3, ← he1, c12, reduceIte, Bool.false_eq_true, eq_self_iff_true, if_true, if_false]; done) | with_reducible rfl)) _ _ hP hD hS _ (lv_sub hl [0, 2, 3, 4, 5, 6] rfl)
                  · refine lv_iload S.1 S.2.1 dX2_measureWays_76 (lv_at hl 0 rfl) ?_
                    refine lv_aload_n S.1 S.2.1 dX2_measureWays_78 rfl (lv_at hl 4 rfl) ?_
                    refine cf_net_costToGoal S hK hP dX2_measureWays_79 ?_
                    refine lv_iload S.1 S.2.1 dX2_measureWays_82 (lv_at hl 1 rfl) ?_
                    refine ca_costToGoal S hK hP (j := i9) (by omega) dX2_measureWays_84 ?_
                    refine lv_iadd S.1 S.2.1 dX2_measureWays_85 ?_
                    refine lv_aload_n S.1 S.2.1 dX2_measureWays_86 rfl (lv_at hl 4 rfl) ?_
                    refine cf_net_costToGoal S hK hP dX2_measureWays_87 ?_
                    refine lv_iload S.1 S.2.1 dX2_measureWays_90 (lv_at hl 2 rfl) ?_
                    refine ca_costToGoal S hK hP (j := i6) (by omega) dX2_measureWays_92 ?_
                    refine lv_icmp_ge (tgt := 113) S.1 S.2.1 dX2_measureWays_93 (by decide) (fun c13 => ?_) (fun c13 => ?_)
                    · refine lv_iinc (v := (nI (i9 + 1))) (lv' := [(5, .int (nI (i9 + 1))), (6, .int (cStep σ9 v i6 i9)), (4, .int (nI (i6))), (3, .int (nI (i3))), (0, .ref (a 0)), (1, .int (nI (v))), (2, .int (nI (g)))]) S.1 S.2.1 dX2_measureWays_113 hl (k := 1) rfl (nI_add _ 1) (by decide) rfl (fun ls hl => ?_)
                      refine lv_goto (tgt := 53) S.1 S.2.1 dX2_measureWays_116 (by decide) ?_
                      exact ih9 (i9 + 1) σ9 (by omega) (itr_step he9 (by first | (simp only [fM3, ← he1, c12, c13, reduceIte, Bool.false_eq_true, eq_self_iff_true, if_true, if_false]; done) | with_reducible rfl)) _ _ hP hD hS _ (lv_sub hl [0, 2, 3, 4, 5, 6] rfl)
                    · refine lv_aload_n S.1 S.2.1 dX2_measureWays_96 rfl (lv_at hl 4 rfl) ?_
                      refine cf_net_costToGoal S hK hP dX2_measureWays_97 ?_
                      refine lv_iload S.1 S.2.1 dX2_measureWays_100 (lv_at hl 2 rfl) ?_
                      refine lv_iload S.1 S.2.1 dX2_measureWays_102 (lv_at hl 0 rfl) ?_
                      refine lv_aload_n S.1 S.2.1 dX2_measureWays_104 rfl (lv_at hl 4 rfl) ?_
                      refine cf_net_costToGoal S hK hP dX2_measureWays_105 ?_
                      refine lv_iload S.1 S.2.1 dX2_measureWays_108 (lv_at hl 1 rfl) ?_
                      refine ca_costToGoal S hK hP (j := i9) (by omega) dX2_measureWays_110 ?_
                      refine lv_iadd S.1 S.2.1 dX2_measureWays_111 ?_
                      refine cs_costToGoal S hK hP hD hS (j := i6) (by omega) dX2_measureWays_112 (fun H locs hP hD hS => ?_)
                      refine lv_iinc (v := (nI (i9 + 1))) (lv' := [(5, .int (nI (i9 + 1))), (6, .int (cStep σ9 v i6 i9)), (4, .int (nI (i6))), (3, .int (nI (i3))), (0, .ref (a 0)), (1, .int (nI (v))), (2, .int (nI (g)))]) S.1 S.2.1 dX2_measureWays_113 hl (k := 1) rfl (nI_add _ 1) (by decide) rfl (fun ls hl => ?_)
                      refine lv_goto (tgt := 53) S.1 S.2.1 dX2_measureWays_116 (by decide) ?_
                      exact ih9 (i9 + 1) (sI 11 i6 ((cStep σ9 v i6 i9) + (σ9.1 11 i9)) σ9) (by omega) (itr_step he9 (by first | (simp only [fM3, ← he1, c12, c13, reduceIte, Bool.false_eq_true, eq_self_iff_true, if_true, if_false]; done) | with_reducible rfl)) _ _ hP hD hS _ (lv_sub hl [0, 2, 3, 4, 5, 6] rfl)
              exact lp9 8 0 σ6 (by omega) rfl _ _ hP hD hS _ (lv_sub hl [0, 1, 2, 3, 4, 5] rfl)
          exact lp6 8 0 σ3 (by omega) rfl _ _ hP hD hS _ (lv_sub hl [0, 1, 2, 3, 4] rfl)
      exact lp3 7 1 σ1 (by omega) rfl _ _ hP hD hS _ (lv_sub hl [0, 1, 2, 3] rfl)
    | succ n1 ih1 =>
      intro i1 σ1 hi1 he1 H locs hP hD hS ls hl
      have hlt1 : i1 < 8 := by omega
      refine lv_iload_n S.1 S.2.1 dX2_measureWays_2 rfl (lv_at hl 0 rfl) ?_
      refine lv_bipush (v := (nI 8)) S.1 S.2.1 dX2_measureWays_3 (by decide) ?_
      refine lv_icmp_ge (tgt := 32) S.1 S.2.1 dX2_measureWays_5 (by decide) (fun c => absurd c (nI_ge (by omega) (by omega))) (fun _ => ?_)
      refine lv_aload_n S.1 S.2.1 dX2_measureWays_8 rfl (lv_at hl 1 rfl) ?_
      refine cf_net_costToGoal S hK hP dX2_measureWays_9 ?_
      refine lv_iload_n S.1 S.2.1 dX2_measureWays_12 rfl (lv_at hl 0 rfl) ?_
      refine lv_iload_n S.1 S.2.1 dX2_measureWays_13 rfl (lv_at hl 0 rfl) ?_
      refine lv_iload_n S.1 S.2.1 dX2_measureWays_14 rfl (lv_at hl 3 rfl) ?_
      refine lv_icmp_ne (tgt := 22) S.1 S.2.1 dX2_measureWays_15 (by decide) (fun c15 => ?_) (fun c15 => ?_)
      · have c15 : ¬ i1 = g := fun h => c15 ((nI_eq (a := i1) (b := g) (by omega) (by omega)).mpr h)
        refine lv_sipush (v := (nI 1000)) S.1 S.2.1 dX2_measureWays_22 (by decide) ?_
        refine cs_costToGoal S hK hP hD hS (j := i1) (by omega) dX2_measureWays_25 (fun H locs hP hD hS => ?_)
        refine lv_iinc (v := (nI (i1 + 1))) (lv' := [(3, .int (nI (i1 + 1))), (0, .ref (a 0)), (1, .int (nI (v))), (2, .int (nI (g)))]) S.1 S.2.1 dX2_measureWays_26 hl (k := 0) rfl (nI_add _ 1) (by decide) rfl (fun ls hl => ?_)
        refine lv_goto (tgt := 2) S.1 S.2.1 dX2_measureWays_29 (by decide) ?_
        exact ih1 (i1 + 1) (sI 11 i1 (nI 1000) σ1) (by omega) (itr_step he1 (by first | (simp only [fM0, c15, reduceIte, Bool.false_eq_true, eq_self_iff_true, if_true, if_false]; done) | with_reducible rfl)) _ _ hP hD hS _ (lv_sub hl [0, 1, 2, 3] rfl)
      · have c15 : i1 = g := (nI_eq (a := i1) (b := g) (by omega) (by omega)).mp c15
        refine lv_iconst (v := (nI 0)) S.1 S.2.1 dX2_measureWays_18 (by decide) ?_
        refine lv_goto (tgt := 25) S.1 S.2.1 dX2_measureWays_19 (by decide) ?_
        refine cs_costToGoal S hK hP hD hS (j := i1) (by omega) dX2_measureWays_25 (fun H locs hP hD hS => ?_)
        refine lv_iinc (v := (nI (i1 + 1))) (lv' := [(3, .int (nI (i1 + 1))), (0, .ref (a 0)), (1, .int (nI (v))), (2, .int (nI (g)))]) S.1 S.2.1 dX2_measureWays_26 hl (k := 0) rfl (nI_add _ 1) (by decide) rfl (fun ls hl => ?_)
        refine lv_goto (tgt := 2) S.1 S.2.1 dX2_measureWays_29 (by decide) ?_
        exact ih1 (i1 + 1) (sI 11 i1 (nI 0) σ1) (by omega) (itr_step he1 (by first | (simp only [fM0, eq_true c15, reduceIte, Bool.false_eq_true, eq_self_iff_true, if_true, if_false]; done) | with_reducible rfl)) _ _ hP hD hS _ (lv_sub hl [0, 1, 2, 3] rfl)
  exact lp1 8 0 σ (by omega) rfl _ _ hP hD hS _ (lv_sub hl [0, 1, 2, 3] rfl)
theorem call_X2_measureWays {p : Program} {l : Launch} {e : Env} {R : Room} {s : State} {m : MethodId} {args : Array Value} {below : List Frame} {meth : Method} {c : Code} {H : Heap} {locs : List Loc} {cells slots : Nat} {Q : State → Prop} {cc : ByteArray} {pc nL : Nat} {ls : Array Slot} {rest : List Value} {D : va_G} {A : Nat → Prop} {w0 : Cond} {X : va_W} {cy : Nat → ClassId} {a : Nat → Nat} {σ : CS} (S : CallFix p m c cc nL s args (w0 :: gw) RX2) (hK : va_K D vwCl (tyA cy) s) (hN : kN nestC s) (hP : va_P D vwCl (X ++ cB cy a σ) H) (hD : va_D A (X ++ cB cy a σ)) (hS : va_S A s.heap H locs) (hA : ∀ q, s.heap.size ≤ q → A q) {v : Nat} {g : Nat} (hv : v < 8) (hg : g < 8) (hsz : ls.size = nL) (hW : (rest.map fun v => v.category).sum ≤ 8) (hR : 2 + 1 ≤ R.frames ∧ 8 + (7 + 11) + 32 * 2 ≤ R.locals) (hdg : decode cc pc = .ok (.invokevirtual 149, 3)) (hfc : cells ≤ R.cells ∧ slots ≤ R.slots)
    (kk : ∀ (H1 : Heap) (locs1 : List Loc), va_P D vwCl (X ++ cB cy a (cMeas v g σ)) H1 → va_D A (X ++ cB cy a (cMeas v g σ)) → va_S A s.heap H1 locs1 → W p l e R s m args below meth c H1 locs1 cells slots Q (F0 m (pc + 3) ls (rest))) : W p l e R s m args below meth c H locs cells slots Q (F0 m pc ls (.int (nI (g)) :: .int (nI (v)) :: .ref (a 0) :: rest)) :=
  kgo_v (va_runV (As := [.int (nI (v)), .int (nI (g))]) (rest := rest) S (c_X2_measureWays l D cy a X σ v g hv hg H.size) (cwV 2 S.2.2.2.2 (gw_good_1 wm_161 (gw_good_1 wm_163 (gw_good_1 wm_2 (gw_good_1 wm_48 (gw_good_in wm_164))))) rfl rfl rfl (by decide +kernel) hR) ⟨kblind nestC_ok, crecv_net hK hP, kpre nestC_ok hN hK hP hD⟩ rfl rfl hsz rfl (lv_room hW) hdg hfc) hD hS hA kk
set_option maxHeartbeats 400000 in
set_option maxRecDepth 100000 in
theorem c_X2_nextHop (l : Launch) (D : va_G) (cy : Nat → ClassId) (a : Nat → Nat) (X : va_W) (σ : CS) (v : Nat) (g : Nat) (hv : v < 8) (hg : g < 8) : MetI l yX2_nextHop cX2_nextHop 5 .int (kRm 3 0 0) D (tyA cy) nestC [.ref (a 0), .int (nI (v)), .int (nI (g))] (X ++ cB cy a σ) (X ++ cB cy a (cMeas v g σ)) (cHop v g σ) 0 0 := by
  intro sz
  refine kmet (own := RX2) (by decide) rfl (Nat.le_of_ble_eq_true rfl) (fun p e s m args below meth c S hr hlk hK hN hP hD hsz hA hnm ls hl => ?_)
  have hS : va_S (va_A (X ++ cB cy a σ) sz) s.heap s.heap [] := va_S.rf
  have hl : lv_has ls 5 [(0, .ref (a 0)), (1, .int (nI (v))), (2, .int (nI (g)))] := hl
  refine lv_aload_n S.1 S.2.1 dX2_nextHop_0 rfl (lv_at hl 0 rfl) ?_
  refine lv_iload_n S.1 S.2.1 dX2_nextHop_1 rfl (lv_at hl 1 rfl) ?_
  refine lv_iload_n S.1 S.2.1 dX2_nextHop_2 rfl (lv_at hl 2 rfl) ?_
  refine call_X2_measureWays S hK hN hP hD hS hA (v := v) (g := g) (by omega) (by omega) hl.1 (Nat.le_of_ble_eq_true rfl) ⟨Nat.le_of_ble_eq_true rfl, Nat.le_of_ble_eq_true rfl⟩ dX2_nextHop_3 ⟨Nat.le_refl _, Nat.le_refl _⟩ (fun H locs hP hD hS => ?_)
  refine lv_iload_n S.1 S.2.1 dX2_nextHop_6 rfl (lv_at hl 1 rfl) ?_
  refine lv_iload_n S.1 S.2.1 dX2_nextHop_7 rfl (lv_at hl 2 rfl) ?_
  refine lv_icmp_eq (tgt := 23) S.1 S.2.1 dX2_nextHop_8 (by decide) (fun c1 => ?_) (fun c1 => ?_)
  · have c1 : v = g := (nI_eq (a := v) (b := g) (by omega) (by omega)).mp c1
    refine lv_iconst (v := (-1)) S.1 S.2.1 dX2_nextHop_23 (by decide) ?_
    exact kret_i S hr hlk hP hD hS (by first | (simp only [cHop, Option.getD_some, Option.getD_none, eq_true c1, reduceIte, Bool.false_eq_true, eq_self_iff_true, if_true, if_false]; done) | with_reducible rfl) dX2_nextHop_24
  · have c1 : ¬ v = g := fun h => c1 ((nI_eq (a := v) (b := g) (by omega) (by omega)).mpr h)
    refine lv_aload_n S.1 S.2.1 dX2_nextHop_11 rfl (lv_at hl 0 rfl) ?_
    refine cf_net_costToGoal S hK hP dX2_nextHop_12 ?_
    refine lv_iload_n S.1 S.2.1 dX2_nextHop_15 rfl (lv_at hl 1 rfl) ?_
    refine ca_costToGoal S hK hP (j := v) (by omega) dX2_nextHop_16 ?_
    refine lv_sipush (v := (nI 1000)) S.1 S.2.1 dX2_nextHop_17 (by decide) ?_
    refine lv_icmp_lt (tgt := 25) S.1 S.2.1 dX2_nextHop_20 (by decide) (fun c2 => ?_) (fun c2 => ?_)
    · refine lv_iconst (v := (nI 0)) S.1 S.2.1 dX2_nextHop_25 (by decide) ?_
      refine lv_istore_n (lv' := [(3, .int (nI 0)), (0, .ref (a 0)), (1, .int (nI (v))), (2, .int (nI (g)))]) S.1 S.2.1 dX2_nextHop_26 rfl hl (by decide) rfl (fun ls hl => ?_)
      have lp3 : ∀ (n3 i3 : Nat) , i3 + n3 = 8 → srch (fHop (cMeas v g σ) v) n3 i3 = srch (fHop (cMeas v g σ) v) 8 0 → ∀ (H : Heap) (locs : List Loc), va_P D vwCl (X ++ cB cy a (cMeas v g σ)) H → va_D (va_A (X ++ cB cy a σ) sz) (X ++ cB cy a (cMeas v g σ)) → va_S (va_A (X ++ cB cy a σ) sz) s.heap H locs → ∀ ls : Array Slot, lv_has ls 5 [(3, .int (nI (i3))), (0, .ref (a 0)), (1, .int (nI (v))), (2, .int (nI (g)))] → W p l e (kRm 3 0 0) s m args below meth c H locs 0 0 (MQ below (kQi D (X ++ cB cy a σ) (X ++ cB cy a (cMeas v g σ)) (cHop v g σ) sz) args s 0 0 (va_A (X ++ cB cy a σ) sz)) (F0 m 27 ls []) := by
        intro n3
        induction n3 with
        | zero =>
          intro i3 hi3 he3 H locs hP hD hS ls hl
          have hi3 : i3 = 8 := by omega
          have he3 : none = srch (fHop (cMeas v g σ) v) 8 0 := he3
          refine lv_iload_n S.1 S.2.1 dX2_nextHop_27 rfl (lv_at hl 0 rfl) ?_
          refine lv_bipush (v := (nI 8)) S.1 S.2.1 dX2_nextHop_28 (by decide) ?_
          refine lv_icmp_ge (tgt := 73) S.1 S.2.1 dX2_nextHop_30 (by decide) (fun _ => ?_) (fun c => absurd (nI_le (by omega) (by omega)) c)
          refine lv_iconst (v := (-1)) S.1 S.2.1 dX2_nextHop_73 (by decide) ?_
          exact kret_i S hr hlk hP hD hS (by first | (simp only [cHop, Option.getD_some, Option.getD_none, c1, c2, ← he3, reduceIte, Bool.false_eq_true, eq_self_iff_true, if_true, if_false]; done) | with_reducible rfl) dX2_nextHop_74
        | succ n3 ih3 =>
          intro i3 hi3 he3 H locs hP hD hS ls hl
          have hlt3 : i3 < 8 := by omega
          refine lv_iload_n S.1 S.2.1 dX2_nextHop_27 rfl (lv_at hl 0 rfl) ?_
          refine lv_bipush (v := (nI 8)) S.1 S.2.1 dX2_nextHop_28 (by decide) ?_
          refine lv_icmp_ge (tgt := 73) S.1 S.2.1 dX2_nextHop_30 (by decide) (fun c => absurd c (nI_ge (by omega) (by omega))) (fun _ => ?_)
          refine lv_aload_n S.1 S.2.1 dX2_nextHop_33 rfl (lv_at hl 1 rfl) ?_
          refine lv_iload_n S.1 S.2.1 dX2_nextHop_34 rfl (lv_at hl 2 rfl) ?_
          refine lv_iload_n S.1 S.2.1 dX2_nextHop_35 rfl (lv_at hl 2 rfl) ?_
          refine lv_iload_n S.1 S.2.1 dX2_nextHop_36 rfl (lv_at hl 0 rfl) ?_
          refine call_X2_stepCost S hK hN hP hD hS hA (v := v) (f := v) (t := i3) (by omega) (by omega) (by omega) hl.1 (Nat.le_of_ble_eq_true rfl) ⟨Nat.le_of_ble_eq_true rfl, Nat.le_of_ble_eq_true rfl⟩ dX2_nextHop_37 ⟨Nat.le_refl _, Nat.le_refl _⟩ (fun H locs hP hD hS => ?_)
          refine lv_istore (lv' := [(4, .int (cStep (cMeas v g σ) v v i3)), (3, .int (nI (i3))), (0, .ref (a 0)), (1, .int (nI (v))), (2, .int (nI (g)))]) S.1 S.2.1 dX2_nextHop_40 hl (by decide) rfl (fun ls hl => ?_)
          refine lv_iload S.1 S.2.1 dX2_nextHop_42 (lv_at hl 0 rfl) ?_
          refine lv_if_le (tgt := 67) S.1 S.2.1 dX2_nextHop_44 (by decide) (fun c6 => ?_) (fun c6 => ?_)
          · refine lv_iinc (v := (nI (i3 + 1))) (lv' := [(3, .int (nI (i3 + 1))), (4, .int (cStep (cMeas v g σ) v v i3)), (0, .ref (a 0)), (1, .int (nI (v))), (2, .int (nI (g)))]) S.1 S.2.1 dX2_nextHop_67 hl (k := 1) rfl (nI_add _ 1) (by decide) rfl (fun ls hl => ?_)
            refine lv_goto (tgt := 27) S.1 S.2.1 dX2_nextHop_70 (by decide) ?_
            exact ih3 (i3 + 1)  (by omega) (srch_next he3 (by first | (simp only [fHop, c1, c2, c6, reduceIte, Bool.false_eq_true, eq_self_iff_true, if_true, if_false]; done) | with_reducible rfl)) _ _ hP hD hS _ (lv_sub hl [0, 2, 3, 4] rfl)
          · refine lv_iload S.1 S.2.1 dX2_nextHop_47 (lv_at hl 0 rfl) ?_
            refine lv_aload_n S.1 S.2.1 dX2_nextHop_49 rfl (lv_at hl 2 rfl) ?_
            refine cf_net_costToGoal S hK hP dX2_nextHop_50 ?_
            refine lv_iload_n S.1 S.2.1 dX2_nextHop_53 rfl (lv_at hl 1 rfl) ?_
            refine ca_costToGoal S hK hP (j := i3) (by omega) dX2_nextHop_54 ?_
            refine lv_iadd S.1 S.2.1 dX2_nextHop_55 ?_
            refine lv_aload_n S.1 S.2.1 dX2_nextHop_56 rfl (lv_at hl 2 rfl) ?_
            refine cf_net_costToGoal S hK hP dX2_nextHop_57 ?_
            refine lv_iload_n S.1 S.2.1 dX2_nextHop_60 rfl (lv_at hl 3 rfl) ?_
            refine ca_costToGoal S hK hP (j := v) (by omega) dX2_nextHop_61 ?_
            refine lv_icmp_ne (tgt := 67) S.1 S.2.1 dX2_nextHop_62 (by decide) (fun c7 => ?_) (fun c7 => ?_)
            · refine lv_iinc (v := (nI (i3 + 1))) (lv' := [(3, .int (nI (i3 + 1))), (4, .int (cStep (cMeas v g σ) v v i3)), (0, .ref (a 0)), (1, .int (nI (v))), (2, .int (nI (g)))]) S.1 S.2.1 dX2_nextHop_67 hl (k := 1) rfl (nI_add _ 1) (by decide) rfl (fun ls hl => ?_)
              refine lv_goto (tgt := 27) S.1 S.2.1 dX2_nextHop_70 (by decide) ?_
              exact ih3 (i3 + 1)  (by omega) (srch_next he3 (by first | (simp only [fHop, c1, c2, c6, c7, reduceIte, Bool.false_eq_true, eq_self_iff_true, if_true, if_false]; done) | with_reducible rfl)) _ _ hP hD hS _ (lv_sub hl [0, 2, 3, 4] rfl)
            · refine lv_iload_n S.1 S.2.1 dX2_nextHop_65 rfl (lv_at hl 1 rfl) ?_
              have hit3 : some (nI (i3)) = srch (fHop (cMeas v g σ) v) 8 0 := srch_hit he3 (by first | (simp only [fHop, c1, c2, c6, eq_true c7, reduceIte, Bool.false_eq_true, eq_self_iff_true, if_true, if_false]; done) | with_reducible rfl)
              exact kret_i S hr hlk hP hD hS (by first | (simp only [cHop, Option.getD_some, Option.getD_none, c1, c2, c6, eq_true c7, ← hit3, reduceIte, Bool.false_eq_true, eq_self_iff_true, if_true, if_false]; done) | with_reducible rfl) dX2_nextHop_66
      exact lp3 8 0  (by omega) rfl _ _ hP hD hS _ (lv_sub hl [0, 1, 2, 3] rfl)
    · refine lv_iconst (v := (-1)) S.1 S.2.1 dX2_nextHop_23 (by decide) ?_
      exact kret_i S hr hlk hP hD hS (by first | (simp only [cHop, Option.getD_some, Option.getD_none, c1, c2, reduceIte, Bool.false_eq_true, eq_self_iff_true, if_true, if_false]; done) | with_reducible rfl) dX2_nextHop_24
theorem call_X2_nextHop {p : Program} {l : Launch} {e : Env} {R : Room} {s : State} {m : MethodId} {args : Array Value} {below : List Frame} {meth : Method} {c : Code} {H : Heap} {locs : List Loc} {cells slots : Nat} {Q : State → Prop} {cc : ByteArray} {pc nL : Nat} {ls : Array Slot} {rest : List Value} {D : va_G} {A : Nat → Prop} {w0 : Cond} {X : va_W} {cy : Nat → ClassId} {a : Nat → Nat} {σ : CS} (S : CallFix p m c cc nL s args (w0 :: gw) RX2) (hK : va_K D vwCl (tyA cy) s) (hN : kN nestC s) (hP : va_P D vwCl (X ++ cB cy a σ) H) (hD : va_D A (X ++ cB cy a σ)) (hS : va_S A s.heap H locs) (hA : ∀ q, s.heap.size ≤ q → A q) {v : Nat} {g : Nat} (hv : v < 8) (hg : g < 8) (hsz : ls.size = nL) (hW : (rest.map fun v => v.category).sum ≤ 8) (hR : 3 + 1 ≤ R.frames ∧ 8 + (5 + 11) + 32 * 3 ≤ R.locals) (hdg : decode cc pc = .ok (.invokevirtual 152, 3)) (hfc : cells ≤ R.cells ∧ slots ≤ R.slots)
    (kk : ∀ (H1 : Heap) (locs1 : List Loc), va_P D vwCl (X ++ cB cy a (cMeas v g σ)) H1 → va_D A (X ++ cB cy a (cMeas v g σ)) → va_S A s.heap H1 locs1 → W p l e R s m args below meth c H1 locs1 cells slots Q (F0 m (pc + 3) ls (.int (cHop v g σ) :: rest))) : W p l e R s m args below meth c H locs cells slots Q (F0 m pc ls (.int (nI (g)) :: .int (nI (v)) :: .ref (a 0) :: rest)) :=
  kgo_i (va_runV (As := [.int (nI (v)), .int (nI (g))]) (rest := rest) S (c_X2_nextHop l D cy a X σ v g hv hg H.size) (cwV 2 S.2.2.2.2 (gw_good_1 wm_173 (gw_good_1 wm_175 (gw_good_1 wm_4 (gw_good_1 wm_48 (gw_good_in wm_176))))) rfl rfl rfl (by decide +kernel) hR) ⟨kblind nestC_ok, crecv_net hK hP, kpre nestC_ok hN hK hP hD⟩ rfl rfl hsz rfl (lv_room hW) hdg hfc) hD hS hA kk
set_option maxHeartbeats 400000 in
set_option maxRecDepth 100000 in
theorem c_X2_neighbours (l : Launch) (D : va_G) (cy : Nat → ClassId) (a : Nat → Nat) (X : va_W) (σ : CS) (u : Nat) (hu : u < 8) : MetI l yX2_neighbours cX2_neighbours 4 .int (kRm 2 0 0) D (tyA cy) nestC [.ref (a 0), .int (nI (u))] (X ++ cB cy a σ) (X ++ cB cy a σ) (cNbr σ u) 0 0 := by
  intro sz
  refine kmet (own := RX2) (by decide) rfl (Nat.le_of_ble_eq_true rfl) (fun p e s m args below meth c S hr hlk hK hN hP hD hsz hA hnm ls hl => ?_)
  have hS : va_S (va_A (X ++ cB cy a σ) sz) s.heap s.heap [] := va_S.rf
  have hl : lv_has ls 4 [(0, .ref (a 0)), (1, .int (nI (u)))] := hl
  refine lv_iconst (v := (nI 0)) S.1 S.2.1 dX2_neighbours_0 (by decide) ?_
  refine lv_istore_n (lv' := [(2, .int (nI 0)), (0, .ref (a 0)), (1, .int (nI (u)))]) S.1 S.2.1 dX2_neighbours_1 rfl hl (by decide) rfl (fun ls hl => ?_)
  refine lv_iconst (v := (nI 0)) S.1 S.2.1 dX2_neighbours_2 (by decide) ?_
  refine lv_istore_n (lv' := [(3, .int (nI 0)), (2, .int (nI 0)), (0, .ref (a 0)), (1, .int (nI (u)))]) S.1 S.2.1 dX2_neighbours_3 rfl hl (by decide) rfl (fun ls hl => ?_)
  have lp1 : ∀ (n1 i1 : Nat)  (x1_0 : Int32), i1 + n1 = 8 → itr (fNbr σ u) n1 i1 x1_0 = itr (fNbr σ u) 8 0 (nI 0) → ∀ (H : Heap) (locs : List Loc), va_P D vwCl (X ++ cB cy a σ) H → va_D (va_A (X ++ cB cy a σ) sz) (X ++ cB cy a σ) → va_S (va_A (X ++ cB cy a σ) sz) s.heap H locs → ∀ ls : Array Slot, lv_has ls 4 [(3, .int (nI (i1))), (2, .int (x1_0)), (0, .ref (a 0)), (1, .int (nI (u)))] → W p l e (kRm 2 0 0) s m args below meth c H locs 0 0 (MQ below (kQi D (X ++ cB cy a σ) (X ++ cB cy a σ) (cNbr σ u) sz) args s 0 0 (va_A (X ++ cB cy a σ) sz)) (F0 m 4 ls []) := by
    intro n1
    induction n1 with
    | zero =>
      intro i1 x1_0 hi1 he1 H locs hP hD hS ls hl
      have hi1 : i1 = 8 := by omega
      have he1 : x1_0 = itr (fNbr σ u) 8 0 (nI 0) := he1
      refine lv_iload_n S.1 S.2.1 dX2_neighbours_4 rfl (lv_at hl 0 rfl) ?_
      refine lv_bipush (v := (nI 8)) S.1 S.2.1 dX2_neighbours_5 (by decide) ?_
      refine lv_icmp_ge (tgt := 31) S.1 S.2.1 dX2_neighbours_7 (by decide) (fun _ => ?_) (fun c => absurd (nI_le (by omega) (by omega)) c)
      refine lv_iload_n S.1 S.2.1 dX2_neighbours_31 rfl (lv_at hl 1 rfl) ?_
      exact kret_i S hr hlk hP hD hS (by first | (simp only [cNbr, ← he1, reduceIte, Bool.false_eq_true, eq_self_iff_true, if_true, if_false]; done) | with_reducible rfl) dX2_neighbours_32
    | succ n1 ih1 =>
      intro i1 x1_0 hi1 he1 H locs hP hD hS ls hl
      have hlt1 : i1 < 8 := by omega
      refine lv_iload_n S.1 S.2.1 dX2_neighbours_4 rfl (lv_at hl 0 rfl) ?_
      refine lv_bipush (v := (nI 8)) S.1 S.2.1 dX2_neighbours_5 (by decide) ?_
      refine lv_icmp_ge (tgt := 31) S.1 S.2.1 dX2_neighbours_7 (by decide) (fun c => absurd c (nI_ge (by omega) (by omega))) (fun _ => ?_)
      refine lv_aload_n S.1 S.2.1 dX2_neighbours_10 rfl (lv_at hl 2 rfl) ?_
      refine lv_iload_n S.1 S.2.1 dX2_neighbours_11 rfl (lv_at hl 3 rfl) ?_
      refine lv_iload_n S.1 S.2.1 dX2_neighbours_12 rfl (lv_at hl 0 rfl) ?_
      refine call_X2_carries S hK hN hP hD hS hA (u := u) (v := i1) (by omega) (by omega) hl.1 (Nat.le_of_ble_eq_true rfl) ⟨Nat.le_of_ble_eq_true rfl, Nat.le_of_ble_eq_true rfl⟩ dX2_neighbours_13 ⟨Nat.le_refl _, Nat.le_refl _⟩ (fun H locs hP hD hS => ?_)
      refine kb_eq (tgt := 25) S dX2_neighbours_16 (by decide) (fun c4 => ?_) (fun c4 => ?_)
      · refine lv_iinc (v := (nI (i1 + 1))) (lv' := [(3, .int (nI (i1 + 1))), (2, .int (x1_0)), (0, .ref (a 0)), (1, .int (nI (u)))]) S.1 S.2.1 dX2_neighbours_25 hl (k := 0) rfl (nI_add _ 1) (by decide) rfl (fun ls hl => ?_)
        refine lv_goto (tgt := 4) S.1 S.2.1 dX2_neighbours_28 (by decide) ?_
        exact ih1 (i1 + 1)  ((x1_0)) (by omega) (itr_step he1 (by first | (simp only [fNbr, c4, reduceIte, Bool.false_eq_true, eq_self_iff_true, if_true, if_false]; done) | with_reducible rfl)) _ _ hP hD hS _ (lv_sub hl [0, 1, 2, 3] rfl)
      · refine lv_iload_n S.1 S.2.1 dX2_neighbours_19 rfl (lv_at hl 1 rfl) ?_
        refine lv_iconst (v := (nI 1)) S.1 S.2.1 dX2_neighbours_20 (by decide) ?_
        refine lv_iload_n S.1 S.2.1 dX2_neighbours_21 rfl (lv_at hl 0 rfl) ?_
        refine lv_ishl S.1 S.2.1 dX2_neighbours_22 ?_
        refine lv_ior S.1 S.2.1 dX2_neighbours_23 ?_
        refine lv_istore_n (lv' := [(2, .int ((x1_0) ||| ((nI 1) <<< ((nI (i1)) &&& 31)))), (3, .int (nI (i1))), (0, .ref (a 0)), (1, .int (nI (u)))]) S.1 S.2.1 dX2_neighbours_24 rfl hl (by decide) rfl (fun ls hl => ?_)
        refine lv_iinc (v := (nI (i1 + 1))) (lv' := [(3, .int (nI (i1 + 1))), (2, .int ((x1_0) ||| ((nI 1) <<< ((nI (i1)) &&& 31)))), (0, .ref (a 0)), (1, .int (nI (u)))]) S.1 S.2.1 dX2_neighbours_25 hl (k := 1) rfl (nI_add _ 1) (by decide) rfl (fun ls hl => ?_)
        refine lv_goto (tgt := 4) S.1 S.2.1 dX2_neighbours_28 (by decide) ?_
        exact ih1 (i1 + 1)  (((x1_0) ||| ((nI 1) <<< ((nI (i1)) &&& 31)))) (by omega) (itr_step he1 (by first | (simp only [fNbr, c4, reduceIte, Bool.false_eq_true, eq_self_iff_true, if_true, if_false]; done) | with_reducible rfl)) _ _ hP hD hS _ (lv_sub hl [0, 1, 2, 3] rfl)
  exact lp1 8 0  ((nI 0)) (by omega) rfl _ _ hP hD hS _ (lv_sub hl [0, 1, 2, 3] rfl)
theorem call_X2_neighbours {p : Program} {l : Launch} {e : Env} {R : Room} {s : State} {m : MethodId} {args : Array Value} {below : List Frame} {meth : Method} {c : Code} {H : Heap} {locs : List Loc} {cells slots : Nat} {Q : State → Prop} {cc : ByteArray} {pc nL : Nat} {ls : Array Slot} {rest : List Value} {D : va_G} {A : Nat → Prop} {w0 : Cond} {X : va_W} {cy : Nat → ClassId} {a : Nat → Nat} {σ : CS} (S : CallFix p m c cc nL s args (w0 :: gw) RX2) (hK : va_K D vwCl (tyA cy) s) (hN : kN nestC s) (hP : va_P D vwCl (X ++ cB cy a σ) H) (hD : va_D A (X ++ cB cy a σ)) (hS : va_S A s.heap H locs) (hA : ∀ q, s.heap.size ≤ q → A q) {u : Nat} (hu : u < 8) (hsz : ls.size = nL) (hW : (rest.map fun v => v.category).sum ≤ 8) (hR : 2 + 1 ≤ R.frames ∧ 8 + (4 + 11) + 32 * 2 ≤ R.locals) (hdg : decode cc pc = .ok (.invokevirtual 242, 3)) (hfc : cells ≤ R.cells ∧ slots ≤ R.slots)
    (kk : ∀ (H1 : Heap) (locs1 : List Loc), va_P D vwCl (X ++ cB cy a σ) H1 → va_D A (X ++ cB cy a σ) → va_S A s.heap H1 locs1 → W p l e R s m args below meth c H1 locs1 cells slots Q (F0 m (pc + 3) ls (.int (cNbr σ u) :: rest))) : W p l e R s m args below meth c H locs cells slots Q (F0 m pc ls (.int (nI (u)) :: .ref (a 0) :: rest)) :=
  kgo_i (va_runV (As := [.int (nI (u))]) (rest := rest) S (c_X2_neighbours l D cy a X σ u hu H.size) (cwV 1 S.2.2.2.2 (gw_good_1 wm_193 (gw_good_1 wm_195 (gw_good_1 wm_7 (gw_good_1 wm_48 (gw_good_in wm_196))))) rfl rfl rfl (by decide +kernel) hR) ⟨kblind nestC_ok, crecv_net hK hP, kpre nestC_ok hN hK hP hD⟩ rfl rfl hsz rfl (lv_room hW) hdg hfc) hD hS hA kk
set_option maxHeartbeats 400000 in
set_option maxRecDepth 100000 in
theorem c_X2_joinedWith (l : Launch) (D : va_G) (cy : Nat → ClassId) (a : Nat → Nat) (X : va_W) (σ : CS) (u : Nat) (hu : u < 8) : MetI l yX2_joinedWith cX2_joinedWith 5 .int (kRm 3 0 0) D (tyA cy) nestC [.ref (a 0), .int (nI (u))] (X ++ cB cy a σ) (X ++ cB cy a σ) (cJoin σ u) 0 0 := by
  intro sz
  refine kmet (own := RX2) (by decide) rfl (Nat.le_of_ble_eq_true rfl) (fun p e s m args below meth c S hr hlk hK hN hP hD hsz hA hnm ls hl => ?_)
  have hS : va_S (va_A (X ++ cB cy a σ) sz) s.heap s.heap [] := va_S.rf
  have hl : lv_has ls 5 [(0, .ref (a 0)), (1, .int (nI (u)))] := hl
  refine lv_iconst (v := (nI 1)) S.1 S.2.1 dX2_joinedWith_0 (by decide) ?_
  refine lv_iload_n S.1 S.2.1 dX2_joinedWith_1 rfl (lv_at hl 1 rfl) ?_
  refine lv_ishl S.1 S.2.1 dX2_joinedWith_2 ?_
  refine lv_istore_n (lv' := [(2, .int ((nI 1) <<< ((nI (u)) &&& 31))), (0, .ref (a 0)), (1, .int (nI (u)))]) S.1 S.2.1 dX2_joinedWith_3 rfl hl (by decide) rfl (fun ls hl => ?_)
  refine lv_iconst (v := (nI 1)) S.1 S.2.1 dX2_joinedWith_4 (by decide) ?_
  refine lv_istore_n (lv' := [(3, .int (nI 1)), (2, .int ((nI 1) <<< ((nI (u)) &&& 31))), (0, .ref (a 0)), (1, .int (nI (u)))]) S.1 S.2.1 dX2_joinedWith_5 rfl hl (by decide) rfl (fun ls hl => ?_)
  have lp1 : ∀ (n1 i1 : Nat)  (x1_0 : Int32), i1 + n1 = 8 → itr (fJ1 σ) n1 i1 x1_0 = itr (fJ1 σ) 7 1 ((nI 1) <<< ((nI (u)) &&& 31)) → ∀ (H : Heap) (locs : List Loc), va_P D vwCl (X ++ cB cy a σ) H → va_D (va_A (X ++ cB cy a σ) sz) (X ++ cB cy a σ) → va_S (va_A (X ++ cB cy a σ) sz) s.heap H locs → ∀ ls : Array Slot, lv_has ls 5 [(3, .int (nI (i1))), (2, .int (x1_0)), (0, .ref (a 0)), (1, .int (nI (u)))] → W p l e (kRm 3 0 0) s m args below meth c H locs 0 0 (MQ below (kQi D (X ++ cB cy a σ) (X ++ cB cy a σ) (cJoin σ u) sz) args s 0 0 (va_A (X ++ cB cy a σ) sz)) (F0 m 6 ls []) := by
    intro n1
    induction n1 with
    | zero =>
      intro i1 x1_0 hi1 he1 H locs hP hD hS ls hl
      have hi1 : i1 = 8 := by omega
      have he1 : x1_0 = itr (fJ1 σ) 7 1 ((nI 1) <<< ((nI (u)) &&& 31)) := he1
      refine lv_iload_n S.1 S.2.1 dX2_joinedWith_6 rfl (lv_at hl 0 rfl) ?_
      refine lv_bipush (v := (nI 8)) S.1 S.2.1 dX2_joinedWith_7 (by decide) ?_
      refine lv_icmp_ge (tgt := 53) S.1 S.2.1 dX2_joinedWith_9 (by decide) (fun _ => ?_) (fun c => absurd (nI_le (by omega) (by omega)) c)
      refine lv_iload_n S.1 S.2.1 dX2_joinedWith_53 rfl (lv_at hl 1 rfl) ?_
      exact kret_i S hr hlk hP hD hS (by first | (simp only [cJoin, ← he1, reduceIte, Bool.false_eq_true, eq_self_iff_true, if_true, if_false]; done) | with_reducible rfl) dX2_joinedWith_54
    | succ n1 ih1 =>
      intro i1 x1_0 hi1 he1 H locs hP hD hS ls hl
      have hlt1 : i1 < 8 := by omega
      refine lv_iload_n S.1 S.2.1 dX2_joinedWith_6 rfl (lv_at hl 0 rfl) ?_
      refine lv_bipush (v := (nI 8)) S.1 S.2.1 dX2_joinedWith_7 (by decide) ?_
      refine lv_icmp_ge (tgt := 53) S.1 S.2.1 dX2_joinedWith_9 (by decide) (fun c => absurd c (nI_ge (by omega) (by omega))) (fun _ => ?_)
      refine lv_iconst (v := (nI 0)) S.1 S.2.1 dX2_joinedWith_12 (by decide) ?_
      refine lv_istore (lv' := [(4, .int (nI 0)), (3, .int (nI (i1))), (2, .int (x1_0)), (0, .ref (a 0)), (1, .int (nI (u)))]) S.1 S.2.1 dX2_joinedWith_13 hl (by decide) rfl (fun ls hl => ?_)
      have lp4 : ∀ (n4 i4 : Nat)  (x4_0 : Int32), i4 + n4 = 8 → itr (fJ2 σ) n4 i4 x4_0 = itr (fJ2 σ) 8 0 (x1_0) → ∀ (H : Heap) (locs : List Loc), va_P D vwCl (X ++ cB cy a σ) H → va_D (va_A (X ++ cB cy a σ) sz) (X ++ cB cy a σ) → va_S (va_A (X ++ cB cy a σ) sz) s.heap H locs → ∀ ls : Array Slot, lv_has ls 5 [(4, .int (nI (i4))), (3, .int (nI (i1))), (2, .int (x4_0)), (0, .ref (a 0)), (1, .int (nI (u)))] → W p l e (kRm 3 0 0) s m args below meth c H locs 0 0 (MQ below (kQi D (X ++ cB cy a σ) (X ++ cB cy a σ) (cJoin σ u) sz) args s 0 0 (va_A (X ++ cB cy a σ) sz)) (F0 m 15 ls []) := by
        intro n4
        induction n4 with
        | zero =>
          intro i4 x4_0 hi4 he4 H locs hP hD hS ls hl
          have hi4 : i4 = 8 := by omega
          have he4 : x4_0 = itr (fJ2 σ) 8 0 (x1_0) := he4
          refine lv_iload S.1 S.2.1 dX2_joinedWith_15 (lv_at hl 0 rfl) ?_
          refine lv_bipush (v := (nI 8)) S.1 S.2.1 dX2_joinedWith_17 (by decide) ?_
          refine lv_icmp_ge (tgt := 47) S.1 S.2.1 dX2_joinedWith_19 (by decide) (fun _ => ?_) (fun c => absurd (nI_le (by omega) (by omega)) c)
          refine lv_iinc (v := (nI (i1 + 1))) (lv' := [(3, .int (nI (i1 + 1))), (4, .int (nI (i4))), (2, .int (x4_0)), (0, .ref (a 0)), (1, .int (nI (u)))]) S.1 S.2.1 dX2_joinedWith_47 hl (k := 1) rfl (nI_add _ 1) (by decide) rfl (fun ls hl => ?_)
          refine lv_goto (tgt := 6) S.1 S.2.1 dX2_joinedWith_50 (by decide) ?_
          exact ih1 (i1 + 1)  ((x4_0)) (by omega) (itr_step he1 (by first | (simp only [fJ1, ← he4, reduceIte, Bool.false_eq_true, eq_self_iff_true, if_true, if_false]; done) | with_reducible rfl)) _ _ hP hD hS _ (lv_sub hl [0, 2, 3, 4] rfl)
        | succ n4 ih4 =>
          intro i4 x4_0 hi4 he4 H locs hP hD hS ls hl
          have hlt4 : i4 < 8 := by omega
          refine lv_iload S.1 S.2.1 dX2_joinedWith_15 (lv_at hl 0 rfl) ?_
          refine lv_bipush (v := (nI 8)) S.1 S.2.1 dX2_joinedWith_17 (by decide) ?_
          refine lv_icmp_ge (tgt := 47) S.1 S.2.1 dX2_joinedWith_19 (by decide) (fun c => absurd c (nI_ge (by omega) (by omega))) (fun _ => ?_)
          refine lv_iload_n S.1 S.2.1 dX2_joinedWith_22 rfl (lv_at hl 2 rfl) ?_
          refine lv_iload S.1 S.2.1 dX2_joinedWith_23 (lv_at hl 0 rfl) ?_
          refine lv_ishr S.1 S.2.1 dX2_joinedWith_25 ?_
          refine lv_iconst (v := (nI 1)) S.1 S.2.1 dX2_joinedWith_26 (by decide) ?_
          refine lv_iand S.1 S.2.1 dX2_joinedWith_27 ?_
          refine lv_iconst (v := (nI 1)) S.1 S.2.1 dX2_joinedWith_28 (by decide) ?_
          refine lv_icmp_ne (tgt := 41) S.1 S.2.1 dX2_joinedWith_29 (by decide) (fun c7 => ?_) (fun c7 => ?_)
          · refine lv_iinc (v := (nI (i4 + 1))) (lv' := [(4, .int (nI (i4 + 1))), (3, .int (nI (i1))), (2, .int (x4_0)), (0, .ref (a 0)), (1, .int (nI (u)))]) S.1 S.2.1 dX2_joinedWith_41 hl (k := 0) rfl (nI_add _ 1) (by decide) rfl (fun ls hl => ?_)
            refine lv_goto (tgt := 15) S.1 S.2.1 dX2_joinedWith_44 (by decide) ?_
            exact ih4 (i4 + 1)  ((x4_0)) (by omega) (itr_step he4 (by first | (simp only [fJ2, c7, reduceIte, Bool.false_eq_true, eq_self_iff_true, if_true, if_false]; done) | with_reducible rfl)) _ _ hP hD hS _ (lv_sub hl [0, 1, 2, 3, 4] rfl)
          · refine lv_iload_n S.1 S.2.1 dX2_joinedWith_32 rfl (lv_at hl 2 rfl) ?_
            refine lv_aload_n S.1 S.2.1 dX2_joinedWith_33 rfl (lv_at hl 3 rfl) ?_
            refine lv_iload S.1 S.2.1 dX2_joinedWith_34 (lv_at hl 0 rfl) ?_
            refine call_X2_neighbours S hK hN hP hD hS hA (u := i4) (by omega) hl.1 (Nat.le_of_ble_eq_true rfl) ⟨Nat.le_of_ble_eq_true rfl, Nat.le_of_ble_eq_true rfl⟩ dX2_joinedWith_36 ⟨Nat.le_refl _, Nat.le_refl _⟩ (fun H locs hP hD hS => ?_)
            refine lv_ior S.1 S.2.1 dX2_joinedWith_39 ?_
            refine lv_istore_n (lv' := [(2, .int ((x4_0) ||| (cNbr σ i4))), (4, .int (nI (i4))), (3, .int (nI (i1))), (0, .ref (a 0)), (1, .int (nI (u)))]) S.1 S.2.1 dX2_joinedWith_40 rfl hl (by decide) rfl (fun ls hl => ?_)
            refine lv_iinc (v := (nI (i4 + 1))) (lv' := [(4, .int (nI (i4 + 1))), (2, .int ((x4_0) ||| (cNbr σ i4))), (3, .int (nI (i1))), (0, .ref (a 0)), (1, .int (nI (u)))]) S.1 S.2.1 dX2_joinedWith_41 hl (k := 1) rfl (nI_add _ 1) (by decide) rfl (fun ls hl => ?_)
            refine lv_goto (tgt := 15) S.1 S.2.1 dX2_joinedWith_44 (by decide) ?_
            exact ih4 (i4 + 1)  (((x4_0) ||| (cNbr σ i4))) (by omega) (itr_step he4 (by first | (simp only [fJ2, eq_true c7, reduceIte, Bool.false_eq_true, eq_self_iff_true, if_true, if_false]; done) | with_reducible rfl)) _ _ hP hD hS _ (lv_sub hl [0, 2, 1, 3, 4] rfl)
      exact lp4 8 0  ((x1_0)) (by omega) rfl _ _ hP hD hS _ (lv_sub hl [0, 1, 2, 3, 4] rfl)
  exact lp1 7 1  (((nI 1) <<< ((nI (u)) &&& 31))) (by omega) rfl _ _ hP hD hS _ (lv_sub hl [0, 1, 2, 3] rfl)
theorem call_X2_joinedWith {p : Program} {l : Launch} {e : Env} {R : Room} {s : State} {m : MethodId} {args : Array Value} {below : List Frame} {meth : Method} {c : Code} {H : Heap} {locs : List Loc} {cells slots : Nat} {Q : State → Prop} {cc : ByteArray} {pc nL : Nat} {ls : Array Slot} {rest : List Value} {D : va_G} {A : Nat → Prop} {w0 : Cond} {X : va_W} {cy : Nat → ClassId} {a : Nat → Nat} {σ : CS} (S : CallFix p m c cc nL s args (w0 :: gw) RX2) (hK : va_K D vwCl (tyA cy) s) (hN : kN nestC s) (hP : va_P D vwCl (X ++ cB cy a σ) H) (hD : va_D A (X ++ cB cy a σ)) (hS : va_S A s.heap H locs) (hA : ∀ q, s.heap.size ≤ q → A q) {u : Nat} (hu : u < 8) (hsz : ls.size = nL) (hW : (rest.map fun v => v.category).sum ≤ 8) (hR : 3 + 1 ≤ R.frames ∧ 8 + (5 + 11) + 32 * 3 ≤ R.locals) (hdg : decode cc pc = .ok (.invokevirtual 239, 3)) (hfc : cells ≤ R.cells ∧ slots ≤ R.slots)
    (kk : ∀ (H1 : Heap) (locs1 : List Loc), va_P D vwCl (X ++ cB cy a σ) H1 → va_D A (X ++ cB cy a σ) → va_S A s.heap H1 locs1 → W p l e R s m args below meth c H1 locs1 cells slots Q (F0 m (pc + 3) ls (.int (cJoin σ u) :: rest))) : W p l e R s m args below meth c H locs cells slots Q (F0 m pc ls (.int (nI (u)) :: .ref (a 0) :: rest)) :=
  kgo_i (va_runV (As := [.int (nI (u))]) (rest := rest) S (c_X2_joinedWith l D cy a X σ u hu H.size) (cwV 1 S.2.2.2.2 (gw_good_1 wm_189 (gw_good_1 wm_191 (gw_good_1 wm_6 (gw_good_1 wm_48 (gw_good_in wm_192))))) rfl rfl rfl (by decide +kernel) hR) ⟨kblind nestC_ok, crecv_net hK hP, kpre nestC_ok hN hK hP hD⟩ rfl rfl hsz rfl (lv_room hW) hdg hfc) hD hS hA kk
set_option maxHeartbeats 400000 in
set_option maxRecDepth 100000 in
theorem c_X2_agreeOn (l : Launch) (D : va_G) (cy : Nat → ClassId) (a : Nat → Nat) (X : va_W) (σ : CS) (o : Nat) (ho : o < 8) : MetI l yX2_agreeOn cX2_agreeOn 5 .boolean (kRm 4 0 0) D (tyA cy) nestC [.ref (a 0), .int (nI (o))] (X ++ cB cy a σ) (X ++ cB cy a σ) (b2i (cAgr σ o)) 0 0 := by
  intro sz
  refine kmet (own := RX2) (by decide) rfl (Nat.le_of_ble_eq_true rfl) (fun p e s m args below meth c S hr hlk hK hN hP hD hsz hA hnm ls hl => ?_)
  have hS : va_S (va_A (X ++ cB cy a σ) sz) s.heap s.heap [] := va_S.rf
  have hl : lv_has ls 5 [(0, .ref (a 0)), (1, .int (nI (o)))] := hl
  refine lv_aload_n S.1 S.2.1 dX2_agreeOn_0 rfl (lv_at hl 0 rfl) ?_
  refine lv_iload_n S.1 S.2.1 dX2_agreeOn_1 rfl (lv_at hl 1 rfl) ?_
  refine call_X2_joinedWith S hK hN hP hD hS hA (u := o) (by omega) hl.1 (Nat.le_of_ble_eq_true rfl) ⟨Nat.le_of_ble_eq_true rfl, Nat.le_of_ble_eq_true rfl⟩ dX2_agreeOn_2 ⟨Nat.le_refl _, Nat.le_refl _⟩ (fun H locs hP hD hS => ?_)
  refine lv_istore_n (lv' := [(2, .int (cJoin σ o)), (0, .ref (a 0)), (1, .int (nI (o)))]) S.1 S.2.1 dX2_agreeOn_5 rfl hl (by decide) rfl (fun ls hl => ?_)
  refine lv_iconst (v := (nI 0)) S.1 S.2.1 dX2_agreeOn_6 (by decide) ?_
  refine lv_istore_n (lv' := [(3, .int (nI 0)), (2, .int (cJoin σ o)), (0, .ref (a 0)), (1, .int (nI (o)))]) S.1 S.2.1 dX2_agreeOn_7 rfl hl (by decide) rfl (fun ls hl => ?_)
  have lp1 : ∀ (n1 i1 : Nat) , i1 + n1 = 8 → srch (fAgr σ o) n1 i1 = srch (fAgr σ o) 8 0 → ∀ (H : Heap) (locs : List Loc), va_P D vwCl (X ++ cB cy a σ) H → va_D (va_A (X ++ cB cy a σ) sz) (X ++ cB cy a σ) → va_S (va_A (X ++ cB cy a σ) sz) s.heap H locs → ∀ ls : Array Slot, lv_has ls 5 [(3, .int (nI (i1))), (2, .int (cJoin σ o)), (0, .ref (a 0)), (1, .int (nI (o)))] → W p l e (kRm 4 0 0) s m args below meth c H locs 0 0 (MQ below (kQi D (X ++ cB cy a σ) (X ++ cB cy a σ) (b2i (cAgr σ o)) sz) args s 0 0 (va_A (X ++ cB cy a σ) sz)) (F0 m 8 ls []) := by
    intro n1
    induction n1 with
    | zero =>
      intro i1 hi1 he1 H locs hP hD hS ls hl
      have hi1 : i1 = 8 := by omega
      have he1 : none = srch (fAgr σ o) 8 0 := he1
      refine lv_iload_n S.1 S.2.1 dX2_agreeOn_8 rfl (lv_at hl 0 rfl) ?_
      refine lv_bipush (v := (nI 8)) S.1 S.2.1 dX2_agreeOn_9 (by decide) ?_
      refine lv_icmp_ge (tgt := 72) S.1 S.2.1 dX2_agreeOn_11 (by decide) (fun _ => ?_) (fun c => absurd (nI_le (by omega) (by omega)) c)
      refine lv_iconst (v := (nI 1)) S.1 S.2.1 dX2_agreeOn_72 (by decide) ?_
      exact kret_z S hr hlk hP hD hS (by first | rfl | exact b2i_nar _) (by rw [show cAgr σ o = true from (by first | (simp only [cAgr, Option.isNone_some, Option.isNone_none, ← he1, reduceIte, Bool.false_eq_true, eq_self_iff_true, if_true, if_false]; done) | with_reducible rfl)]; decide) dX2_agreeOn_73
    | succ n1 ih1 =>
      intro i1 hi1 he1 H locs hP hD hS ls hl
      have hlt1 : i1 < 8 := by omega
      refine lv_iload_n S.1 S.2.1 dX2_agreeOn_8 rfl (lv_at hl 0 rfl) ?_
      refine lv_bipush (v := (nI 8)) S.1 S.2.1 dX2_agreeOn_9 (by decide) ?_
      refine lv_icmp_ge (tgt := 72) S.1 S.2.1 dX2_agreeOn_11 (by decide) (fun c => absurd c (nI_ge (by omega) (by omega))) (fun _ => ?_)
      refine lv_iload_n S.1 S.2.1 dX2_agreeOn_14 rfl (lv_at hl 1 rfl) ?_
      refine lv_iload_n S.1 S.2.1 dX2_agreeOn_15 rfl (lv_at hl 0 rfl) ?_
      refine lv_ishr S.1 S.2.1 dX2_agreeOn_16 ?_
      refine lv_iconst (v := (nI 1)) S.1 S.2.1 dX2_agreeOn_17 (by decide) ?_
      refine lv_iand S.1 S.2.1 dX2_agreeOn_18 ?_
      refine lv_iconst (v := (nI 1)) S.1 S.2.1 dX2_agreeOn_19 (by decide) ?_
      refine lv_icmp_ne (tgt := 27) S.1 S.2.1 dX2_agreeOn_20 (by decide) (fun c4 => ?_) (fun c4 => ?_)
      · refine lv_iconst (v := (nI 0)) S.1 S.2.1 dX2_agreeOn_27 (by decide) ?_
        refine lv_istore (lv' := [(4, .int (nI 0)), (3, .int (nI (i1))), (2, .int (cJoin σ o)), (0, .ref (a 0)), (1, .int (nI (o)))]) S.1 S.2.1 dX2_agreeOn_28 hl (by decide) rfl (fun ls hl => ?_)
        refine lv_iload S.1 S.2.1 dX2_agreeOn_30 (lv_at hl 0 rfl) ?_
        refine lv_if_eq (tgt := 66) S.1 S.2.1 dX2_agreeOn_32 (by decide) (fun _ => ?_) (fun c5 => absurd (by decide) c5)
        refine lv_iinc (v := (nI (i1 + 1))) (lv' := [(3, .int (nI (i1 + 1))), (4, .int (nI 0)), (2, .int (cJoin σ o)), (0, .ref (a 0)), (1, .int (nI (o)))]) S.1 S.2.1 dX2_agreeOn_66 hl (k := 1) rfl (nI_add _ 1) (by decide) rfl (fun ls hl => ?_)
        refine lv_goto (tgt := 8) S.1 S.2.1 dX2_agreeOn_69 (by decide) ?_
        exact ih1 (i1 + 1)  (by omega) (srch_next he1 (by first | (simp only [fAgr, c4, reduceIte, Bool.false_eq_true, eq_self_iff_true, if_true, if_false]; done) | with_reducible rfl)) _ _ hP hD hS _ (lv_sub hl [0, 2, 3, 4] rfl)
      · refine lv_iconst (v := (nI 1)) S.1 S.2.1 dX2_agreeOn_23 (by decide) ?_
        refine lv_goto (tgt := 28) S.1 S.2.1 dX2_agreeOn_24 (by decide) ?_
        refine lv_istore (lv' := [(4, .int (nI 1)), (3, .int (nI (i1))), (2, .int (cJoin σ o)), (0, .ref (a 0)), (1, .int (nI (o)))]) S.1 S.2.1 dX2_agreeOn_28 hl (by decide) rfl (fun ls hl => ?_)
        refine lv_iload S.1 S.2.1 dX2_agreeOn_30 (lv_at hl 0 rfl) ?_
        refine lv_if_eq (tgt := 66) S.1 S.2.1 dX2_agreeOn_32 (by decide) (fun c6 => absurd c6 (by decide)) (fun _ => ?_)
        refine lv_aload_n S.1 S.2.1 dX2_agreeOn_35 rfl (lv_at hl 3 rfl) ?_
        refine cf_net_known S hK hP dX2_agreeOn_36 ?_
        refine cn_known_number S hK hN hP dX2_agreeOn_39 ?_
        refine lv_iload_n S.1 S.2.1 dX2_agreeOn_42 rfl (lv_at hl 1 rfl) ?_
        refine lv_iload_n S.1 S.2.1 dX2_agreeOn_43 rfl (lv_at hl 4 rfl) ?_
        refine call_X2_knownRow S hK hN hP hD hS hA (u := i1) (v := o)  hl.1 (Nat.le_of_ble_eq_true rfl) ⟨Nat.le_of_ble_eq_true rfl, Nat.le_of_ble_eq_true rfl⟩ dX2_agreeOn_44 ⟨Nat.le_refl _, Nat.le_refl _⟩ (fun H locs hP hD hS => ?_)
        refine ca_knNumber S hK hP (j := (i1 * 8 + o)) (by omega) dX2_agreeOn_47 ?_
        refine lv_aload_n S.1 S.2.1 dX2_agreeOn_48 rfl (lv_at hl 3 rfl) ?_
        refine cf_net_known S hK hP dX2_agreeOn_49 ?_
        refine cn_known_number S hK hN hP dX2_agreeOn_52 ?_
        refine lv_iload_n S.1 S.2.1 dX2_agreeOn_55 rfl (lv_at hl 4 rfl) ?_
        refine lv_iload_n S.1 S.2.1 dX2_agreeOn_56 rfl (lv_at hl 4 rfl) ?_
        refine call_X2_knownRow S hK hN hP hD hS hA (u := o) (v := o)  hl.1 (Nat.le_of_ble_eq_true rfl) ⟨Nat.le_of_ble_eq_true rfl, Nat.le_of_ble_eq_true rfl⟩ dX2_agreeOn_57 ⟨Nat.le_refl _, Nat.le_refl _⟩ (fun H locs hP hD hS => ?_)
        refine ca_knNumber S hK hP (j := (o * 8 + o)) (by omega) dX2_agreeOn_60 ?_
        refine lv_icmp_eq (tgt := 66) S.1 S.2.1 dX2_agreeOn_61 (by decide) (fun c7 => ?_) (fun c7 => ?_)
        · refine lv_iinc (v := (nI (i1 + 1))) (lv' := [(3, .int (nI (i1 + 1))), (4, .int (nI 1)), (2, .int (cJoin σ o)), (0, .ref (a 0)), (1, .int (nI (o)))]) S.1 S.2.1 dX2_agreeOn_66 hl (k := 1) rfl (nI_add _ 1) (by decide) rfl (fun ls hl => ?_)
          refine lv_goto (tgt := 8) S.1 S.2.1 dX2_agreeOn_69 (by decide) ?_
          exact ih1 (i1 + 1)  (by omega) (srch_next he1 (by first | (simp only [fAgr, eq_true c4, eq_true c7, reduceIte, Bool.false_eq_true, eq_self_iff_true, if_true, if_false]; done) | with_reducible rfl)) _ _ hP hD hS _ (lv_sub hl [0, 2, 3, 4] rfl)
        · refine lv_iconst (v := (nI 0)) S.1 S.2.1 dX2_agreeOn_64 (by decide) ?_
          have hit1 : some (nI 0) = srch (fAgr σ o) 8 0 := srch_hit he1 (by first | (simp only [fAgr, eq_true c4, c7, reduceIte, Bool.false_eq_true, eq_self_iff_true, if_true, if_false]; done) | with_reducible rfl)
          exact kret_z S hr hlk hP hD hS (by first | rfl | exact b2i_nar _) (by rw [show cAgr σ o = false from (by first | (simp only [cAgr, Option.isNone_some, Option.isNone_none, eq_true c4, c7, ← hit1, reduceIte, Bool.false_eq_true, eq_self_iff_true, if_true, if_false]; done) | with_reducible rfl)]; decide) dX2_agreeOn_65
  exact lp1 8 0  (by omega) rfl _ _ hP hD hS _ (lv_sub hl [0, 1, 2, 3] rfl)
theorem call_X2_agreeOn {p : Program} {l : Launch} {e : Env} {R : Room} {s : State} {m : MethodId} {args : Array Value} {below : List Frame} {meth : Method} {c : Code} {H : Heap} {locs : List Loc} {cells slots : Nat} {Q : State → Prop} {cc : ByteArray} {pc nL : Nat} {ls : Array Slot} {rest : List Value} {D : va_G} {A : Nat → Prop} {w0 : Cond} {X : va_W} {cy : Nat → ClassId} {a : Nat → Nat} {σ : CS} (S : CallFix p m c cc nL s args (w0 :: gw) RX2) (hK : va_K D vwCl (tyA cy) s) (hN : kN nestC s) (hP : va_P D vwCl (X ++ cB cy a σ) H) (hD : va_D A (X ++ cB cy a σ)) (hS : va_S A s.heap H locs) (hA : ∀ q, s.heap.size ≤ q → A q) {o : Nat} (ho : o < 8) (hsz : ls.size = nL) (hW : (rest.map fun v => v.category).sum ≤ 8) (hR : 4 + 1 ≤ R.frames ∧ 8 + (5 + 11) + 32 * 4 ≤ R.locals) (hdg : decode cc pc = .ok (.invokevirtual 180, 3)) (hfc : cells ≤ R.cells ∧ slots ≤ R.slots)
    (kk : ∀ (H1 : Heap) (locs1 : List Loc), va_P D vwCl (X ++ cB cy a σ) H1 → va_D A (X ++ cB cy a σ) → va_S A s.heap H1 locs1 → W p l e R s m args below meth c H1 locs1 cells slots Q (F0 m (pc + 3) ls (.int (b2i (cAgr σ o)) :: rest))) : W p l e R s m args below meth c H locs cells slots Q (F0 m pc ls (.int (nI (o)) :: .ref (a 0) :: rest)) :=
  kgo_i (va_runV (As := [.int (nI (o))]) (rest := rest) S (c_X2_agreeOn l D cy a X σ o ho H.size) (cwV 1 S.2.2.2.2 (gw_good_1 wm_185 (gw_good_1 wm_187 (gw_good_1 wm_5 (gw_good_1 wm_48 (gw_good_in wm_188))))) rfl rfl rfl (by decide +kernel) hR) ⟨kblind nestC_ok, crecv_net hK hP, kpre nestC_ok hN hK hP hD⟩ rfl rfl hsz rfl (lv_room hW) hdg hfc) hD hS hA kk
set_option maxHeartbeats 400000 in
set_option maxRecDepth 100000 in
theorem c_X2_settled (l : Launch) (D : va_G) (cy : Nat → ClassId) (a : Nat → Nat) (X : va_W) (σ : CS)   : MetI l yX2_settled cX2_settled 2 .boolean (kRm 5 0 0) D (tyA cy) nestC [.ref (a 0)] (X ++ cB cy a σ) (X ++ cB cy a σ) (b2i (cSettled σ)) 0 0 := by
  intro sz
  refine kmet (own := RX2) (by decide) rfl (Nat.le_of_ble_eq_true rfl) (fun p e s m args below meth c S hr hlk hK hN hP hD hsz hA hnm ls hl => ?_)
  have hS : va_S (va_A (X ++ cB cy a σ) sz) s.heap s.heap [] := va_S.rf
  have hl : lv_has ls 2 [(0, .ref (a 0))] := hl
  refine lv_aload_n S.1 S.2.1 dX2_settled_0 rfl (lv_at hl 0 rfl) ?_
  refine cf_net_inFlight S hK hP dX2_settled_1 ?_
  refine cn_inFlight_count S hK hN hP dX2_settled_4 ?_
  refine lv_if_le (tgt := 12) S.1 S.2.1 dX2_settled_7 (by decide) (fun c1 => ?_) (fun c1 => ?_)
  · refine lv_iconst (v := (nI 0)) S.1 S.2.1 dX2_settled_12 (by decide) ?_
    refine lv_istore_n (lv' := [(1, .int (nI 0)), (0, .ref (a 0))]) S.1 S.2.1 dX2_settled_13 rfl hl (by decide) rfl (fun ls hl => ?_)
    have lp2 : ∀ (n2 i2 : Nat) , i2 + n2 = 8 → srch (fSet σ) n2 i2 = srch (fSet σ) 8 0 → ∀ (H : Heap) (locs : List Loc), va_P D vwCl (X ++ cB cy a σ) H → va_D (va_A (X ++ cB cy a σ) sz) (X ++ cB cy a σ) → va_S (va_A (X ++ cB cy a σ) sz) s.heap H locs → ∀ ls : Array Slot, lv_has ls 2 [(1, .int (nI (i2))), (0, .ref (a 0))] → W p l e (kRm 5 0 0) s m args below meth c H locs 0 0 (MQ below (kQi D (X ++ cB cy a σ) (X ++ cB cy a σ) (b2i (cSettled σ)) sz) args s 0 0 (va_A (X ++ cB cy a σ) sz)) (F0 m 14 ls []) := by
      intro n2
      induction n2 with
      | zero =>
        intro i2 hi2 he2 H locs hP hD hS ls hl
        have hi2 : i2 = 8 := by omega
        have he2 : none = srch (fSet σ) 8 0 := he2
        refine lv_iload_n S.1 S.2.1 dX2_settled_14 rfl (lv_at hl 0 rfl) ?_
        refine lv_bipush (v := (nI 8)) S.1 S.2.1 dX2_settled_15 (by decide) ?_
        refine lv_icmp_ge (tgt := 45) S.1 S.2.1 dX2_settled_17 (by decide) (fun _ => ?_) (fun c => absurd (nI_le (by omega) (by omega)) c)
        refine lv_iconst (v := (nI 1)) S.1 S.2.1 dX2_settled_45 (by decide) ?_
        exact kret_z S hr hlk hP hD hS (by first | rfl | exact b2i_nar _) (by rw [show cSettled σ = true from (by first | (simp only [cSettled, Option.isNone_some, Option.isNone_none, c1, ← he2, reduceIte, Bool.false_eq_true, eq_self_iff_true, if_true, if_false]; done) | with_reducible rfl)]; decide) dX2_settled_46
      | succ n2 ih2 =>
        intro i2 hi2 he2 H locs hP hD hS ls hl
        have hlt2 : i2 < 8 := by omega
        refine lv_iload_n S.1 S.2.1 dX2_settled_14 rfl (lv_at hl 0 rfl) ?_
        refine lv_bipush (v := (nI 8)) S.1 S.2.1 dX2_settled_15 (by decide) ?_
        refine lv_icmp_ge (tgt := 45) S.1 S.2.1 dX2_settled_17 (by decide) (fun c => absurd c (nI_ge (by omega) (by omega))) (fun _ => ?_)
        refine lv_aload_n S.1 S.2.1 dX2_settled_20 rfl (lv_at hl 1 rfl) ?_
        refine cf_net_there S hK hP dX2_settled_21 ?_
        refine lv_iload_n S.1 S.2.1 dX2_settled_24 rfl (lv_at hl 0 rfl) ?_
        refine ca_there S hK hP (j := i2) (by omega) dX2_settled_25 ?_
        refine lv_if_eq (tgt := 39) S.1 S.2.1 dX2_settled_26 (by decide) (fun c5 => ?_) (fun c5 => ?_)
        · refine lv_iinc (v := (nI (i2 + 1))) (lv' := [(1, .int (nI (i2 + 1))), (0, .ref (a 0))]) S.1 S.2.1 dX2_settled_39 hl (k := 0) rfl (nI_add _ 1) (by decide) rfl (fun ls hl => ?_)
          refine lv_goto (tgt := 14) S.1 S.2.1 dX2_settled_42 (by decide) ?_
          exact ih2 (i2 + 1)  (by omega) (srch_next he2 (by first | (simp only [fSet, c1, eq_true c5, reduceIte, Bool.false_eq_true, eq_self_iff_true, if_true, if_false]; done) | with_reducible rfl)) _ _ hP hD hS _ (lv_sub hl [0, 1] rfl)
        · refine lv_aload_n S.1 S.2.1 dX2_settled_29 rfl (lv_at hl 1 rfl) ?_
          refine lv_iload_n S.1 S.2.1 dX2_settled_30 rfl (lv_at hl 0 rfl) ?_
          refine call_X2_agreeOn S hK hN hP hD hS hA (o := i2) (by omega) hl.1 (Nat.le_of_ble_eq_true rfl) ⟨Nat.le_of_ble_eq_true rfl, Nat.le_of_ble_eq_true rfl⟩ dX2_settled_31 ⟨Nat.le_refl _, Nat.le_refl _⟩ (fun H locs hP hD hS => ?_)
          refine kb_ne (tgt := 39) S dX2_settled_34 (by decide) (fun c6 => ?_) (fun c6 => ?_)
          · refine lv_iinc (v := (nI (i2 + 1))) (lv' := [(1, .int (nI (i2 + 1))), (0, .ref (a 0))]) S.1 S.2.1 dX2_settled_39 hl (k := 0) rfl (nI_add _ 1) (by decide) rfl (fun ls hl => ?_)
            refine lv_goto (tgt := 14) S.1 S.2.1 dX2_settled_42 (by decide) ?_
            exact ih2 (i2 + 1)  (by omega) (srch_next he2 (by first | (simp only [fSet, c1, c5, c6, reduceIte, Bool.false_eq_true, eq_self_iff_true, if_true, if_false]; done) | with_reducible rfl)) _ _ hP hD hS _ (lv_sub hl [0, 1] rfl)
          · refine lv_iconst (v := (nI 0)) S.1 S.2.1 dX2_settled_37 (by decide) ?_
            have hit2 : some (nI 0) = srch (fSet σ) 8 0 := srch_hit he2 (by first | (simp only [fSet, c1, c5, c6, reduceIte, Bool.false_eq_true, eq_self_iff_true, if_true, if_false]; done) | with_reducible rfl)
            exact kret_z S hr hlk hP hD hS (by first | rfl | exact b2i_nar _) (by rw [show cSettled σ = false from (by first | (simp only [cSettled, Option.isNone_some, Option.isNone_none, c1, c5, c6, ← hit2, reduceIte, Bool.false_eq_true, eq_self_iff_true, if_true, if_false]; done) | with_reducible rfl)]; decide) dX2_settled_38
    exact lp2 8 0  (by omega) rfl _ _ hP hD hS _ (lv_sub hl [0, 1] rfl)
  · refine lv_iconst (v := (nI 0)) S.1 S.2.1 dX2_settled_10 (by decide) ?_
    exact kret_z S hr hlk hP hD hS (by first | rfl | exact b2i_nar _) (by rw [show cSettled σ = false from (by first | (simp only [cSettled, Option.isNone_some, Option.isNone_none, c1, reduceIte, Bool.false_eq_true, eq_self_iff_true, if_true, if_false]; done) | with_reducible rfl)]; decide) dX2_settled_11
set_option maxHeartbeats 400000 in
set_option maxRecDepth 100000 in
theorem c_X2_flying (l : Launch) (D : va_G) (cy : Nat → ClassId) (a : Nat → Nat) (X : va_W) (σ : CS)   : MetI l yX2_flying cX2_flying 1 .int (kRm 0 0 0) D (tyA cy) nestC [.ref (a 0)] (X ++ cB cy a σ) (X ++ cB cy a σ) (σ.1 0 4) 0 0 := by
  intro sz
  refine kmet (own := RX2) (by decide) rfl (Nat.le_of_ble_eq_true rfl) (fun p e s m args below meth c S hr hlk hK hN hP hD hsz hA hnm ls hl => ?_)
  have hS : va_S (va_A (X ++ cB cy a σ) sz) s.heap s.heap [] := va_S.rf
  have hl : lv_has ls 1 [(0, .ref (a 0))] := hl
  refine lv_aload_n S.1 S.2.1 dX2_flying_0 rfl (lv_at hl 0 rfl) ?_
  refine cf_net_inFlight S hK hP dX2_flying_1 ?_
  refine cn_inFlight_count S hK hN hP dX2_flying_4 ?_
  exact kret_i S hr hlk hP hD hS (by rfl) dX2_flying_7
set_option maxHeartbeats 400000 in
set_option maxRecDepth 100000 in
theorem c_X2_distance (l : Launch) (D : va_G) (cy : Nat → ClassId) (a : Nat → Nat) (X : va_W) (σ : CS) (x : Int32) (y : Int32)  : MetI l yX2_distance cX2_distance 3 .int (kRm 3 0 0) D (tyA cy) nestC [.ref (a 0), .int (x), .int (y)] (X ++ cB cy a σ) (X ++ cB cy a (cDistS x y σ)) (cDist x y σ) 0 0 := by
  intro sz
  refine kmet (own := RX2) (by decide) rfl (Nat.le_of_ble_eq_true rfl) (fun p e s m args below meth c S hr hlk hK hN hP hD hsz hA hnm ls hl => ?_)
  have hS : va_S (va_A (X ++ cB cy a σ) sz) s.heap s.heap [] := va_S.rf
  have hl : lv_has ls 3 [(0, .ref (a 0)), (1, .int (x)), (2, .int (y))] := hl
  refine lv_iload_n S.1 S.2.1 dX2_distance_0 rfl (lv_at hl 1 rfl) ?_
  refine call_X2_isNode S hK hN hP hD hS hA (x := x)  hl.1 (Nat.le_of_ble_eq_true rfl) ⟨Nat.le_of_ble_eq_true rfl, Nat.le_of_ble_eq_true rfl⟩ dX2_distance_1 ⟨Nat.le_refl _, Nat.le_refl _⟩ (fun H locs hP hD hS => ?_)
  refine kb_eq (tgt := 23) S dX2_distance_4 (by decide) (fun c1 => ?_) (fun c1 => ?_)
  · refine lv_iconst (v := (-1)) S.1 S.2.1 dX2_distance_23 (by decide) ?_
    have e9 : cDistS x y σ = σ := by first | (simp only [cDistS, c1, reduceIte, Bool.false_eq_true, eq_self_iff_true, if_true, if_false]; done) | with_reducible rfl
    rw [e9]
    exact kret_i S hr hlk hP hD hS (by first | (simp only [cDist, c1, reduceIte, Bool.false_eq_true, eq_self_iff_true, if_true, if_false]; done) | with_reducible rfl) dX2_distance_24
  · obtain ⟨x1, hx1, rfl⟩ := isN_of c1
    refine lv_iload_n S.1 S.2.1 dX2_distance_7 rfl (lv_at hl 2 rfl) ?_
    refine call_X2_isNode S hK hN hP hD hS hA (x := y)  hl.1 (Nat.le_of_ble_eq_true rfl) ⟨Nat.le_of_ble_eq_true rfl, Nat.le_of_ble_eq_true rfl⟩ dX2_distance_8 ⟨Nat.le_refl _, Nat.le_refl _⟩ (fun H locs hP hD hS => ?_)
    refine kb_eq (tgt := 23) S dX2_distance_11 (by decide) (fun c2 => ?_) (fun c2 => ?_)
    · refine lv_iconst (v := (-1)) S.1 S.2.1 dX2_distance_23 (by decide) ?_
      have e9 : cDistS (nI x1) y σ = σ := by first | (simp only [cDistS, c1, cl8 hx1, c2, reduceIte, Bool.false_eq_true, eq_self_iff_true, if_true, if_false]; done) | with_reducible rfl
      rw [e9]
      exact kret_i S hr hlk hP hD hS (by first | (simp only [cDist, c1, cl8 hx1, c2, reduceIte, Bool.false_eq_true, eq_self_iff_true, if_true, if_false]; done) | with_reducible rfl) dX2_distance_24
    · obtain ⟨y1, hy1, rfl⟩ := isN_of c2
      refine lv_aload_n S.1 S.2.1 dX2_distance_14 rfl (lv_at hl 0 rfl) ?_
      refine cf_net_there S hK hP dX2_distance_15 ?_
      refine lv_iload_n S.1 S.2.1 dX2_distance_18 rfl (lv_at hl 1 rfl) ?_
      refine ca_there S hK hP (j := x1) (by omega) dX2_distance_19 ?_
      refine lv_if_ne (tgt := 25) S.1 S.2.1 dX2_distance_20 (by decide) (fun c3 => ?_) (fun c3 => ?_)
      · refine lv_aload_n S.1 S.2.1 dX2_distance_25 rfl (lv_at hl 0 rfl) ?_
        refine lv_iload_n S.1 S.2.1 dX2_distance_26 rfl (lv_at hl 1 rfl) ?_
        refine lv_iload_n S.1 S.2.1 dX2_distance_27 rfl (lv_at hl 2 rfl) ?_
        refine call_X2_measureWays S hK hN hP hD hS hA (v := x1) (g := y1) (by omega) (by omega) hl.1 (Nat.le_of_ble_eq_true rfl) ⟨Nat.le_of_ble_eq_true rfl, Nat.le_of_ble_eq_true rfl⟩ dX2_distance_28 ⟨Nat.le_refl _, Nat.le_refl _⟩ (fun H locs hP hD hS => ?_)
        refine lv_aload_n S.1 S.2.1 dX2_distance_31 rfl (lv_at hl 0 rfl) ?_
        refine cf_net_costToGoal S hK hP dX2_distance_32 ?_
        refine lv_iload_n S.1 S.2.1 dX2_distance_35 rfl (lv_at hl 1 rfl) ?_
        refine ca_costToGoal S hK hP (j := x1) (by omega) dX2_distance_36 ?_
        refine lv_sipush (v := (nI 1000)) S.1 S.2.1 dX2_distance_37 (by decide) ?_
        refine lv_icmp_ge (tgt := 52) S.1 S.2.1 dX2_distance_40 (by decide) (fun c4 => ?_) (fun c4 => ?_)
        · refine lv_iconst (v := (-1)) S.1 S.2.1 dX2_distance_52 (by decide) ?_
          have e9 : cDistS (nI x1) (nI y1) σ = cMeas x1 y1 σ := by first | (simp only [cDistS, c1, cl8 hx1, c2, cl8 hy1, c3, c4, reduceIte, Bool.false_eq_true, eq_self_iff_true, if_true, if_false]; done) | with_reducible rfl
          rw [e9]
          exact kret_i S hr hlk hP hD hS (by first | (simp only [cDist, c1, cl8 hx1, c2, cl8 hy1, c3, c4, reduceIte, Bool.false_eq_true, eq_self_iff_true, if_true, if_false]; done) | with_reducible rfl) dX2_distance_53
        · refine lv_aload_n S.1 S.2.1 dX2_distance_43 rfl (lv_at hl 0 rfl) ?_
          refine cf_net_costToGoal S hK hP dX2_distance_44 ?_
          refine lv_iload_n S.1 S.2.1 dX2_distance_47 rfl (lv_at hl 1 rfl) ?_
          refine ca_costToGoal S hK hP (j := x1) (by omega) dX2_distance_48 ?_
          refine lv_goto (tgt := 53) S.1 S.2.1 dX2_distance_49 (by decide) ?_
          have e9 : cDistS (nI x1) (nI y1) σ = cMeas x1 y1 σ := by first | (simp only [cDistS, c1, cl8 hx1, c2, cl8 hy1, c3, c4, reduceIte, Bool.false_eq_true, eq_self_iff_true, if_true, if_false]; done) | with_reducible rfl
          rw [e9]
          exact kret_i S hr hlk hP hD hS (by first | (simp only [cDist, c1, cl8 hx1, c2, cl8 hy1, c3, c4, reduceIte, Bool.false_eq_true, eq_self_iff_true, if_true, if_false]; done) | with_reducible rfl) dX2_distance_53
      · refine lv_iconst (v := (-1)) S.1 S.2.1 dX2_distance_23 (by decide) ?_
        have e9 : cDistS (nI x1) (nI y1) σ = σ := by first | (simp only [cDistS, c1, cl8 hx1, c2, cl8 hy1, eq_true c3, reduceIte, Bool.false_eq_true, eq_self_iff_true, if_true, if_false]; done) | with_reducible rfl
        rw [e9]
        exact kret_i S hr hlk hP hD hS (by first | (simp only [cDist, c1, cl8 hx1, c2, cl8 hy1, eq_true c3, reduceIte, Bool.false_eq_true, eq_self_iff_true, if_true, if_false]; done) | with_reducible rfl) dX2_distance_24
set_option maxHeartbeats 400000 in
set_option maxRecDepth 100000 in
theorem c_X2_next (l : Launch) (D : va_G) (cy : Nat → ClassId) (a : Nat → Nat) (X : va_W) (σ : CS) (x : Int32) (y : Int32)  : MetI l yX2_next cX2_next 3 .int (kRm 4 0 0) D (tyA cy) nestC [.ref (a 0), .int (x), .int (y)] (X ++ cB cy a σ) (X ++ cB cy a (cDistS x y σ)) (cNext x y σ) 0 0 := by
  intro sz
  refine kmet (own := RX2) (by decide) rfl (Nat.le_of_ble_eq_true rfl) (fun p e s m args below meth c S hr hlk hK hN hP hD hsz hA hnm ls hl => ?_)
  have hS : va_S (va_A (X ++ cB cy a σ) sz) s.heap s.heap [] := va_S.rf
  have hl : lv_has ls 3 [(0, .ref (a 0)), (1, .int (x)), (2, .int (y))] := hl
  refine lv_iload_n S.1 S.2.1 dX2_next_0 rfl (lv_at hl 1 rfl) ?_
  refine call_X2_isNode S hK hN hP hD hS hA (x := x)  hl.1 (Nat.le_of_ble_eq_true rfl) ⟨Nat.le_of_ble_eq_true rfl, Nat.le_of_ble_eq_true rfl⟩ dX2_next_1 ⟨Nat.le_refl _, Nat.le_refl _⟩ (fun H locs hP hD hS => ?_)
  refine kb_eq (tgt := 23) S dX2_next_4 (by decide) (fun c1 => ?_) (fun c1 => ?_)
  · refine lv_iconst (v := (-1)) S.1 S.2.1 dX2_next_23 (by decide) ?_
    have e9 : cDistS x y σ = σ := by first | (simp only [cDistS, c1, reduceIte, Bool.false_eq_true, eq_self_iff_true, if_true, if_false]; done) | with_reducible rfl
    rw [e9]
    exact kret_i S hr hlk hP hD hS (by first | (simp only [cNext, c1, reduceIte, Bool.false_eq_true, eq_self_iff_true, if_true, if_false]; done) | with_reducible rfl) dX2_next_24
  · obtain ⟨x1, hx1, rfl⟩ := isN_of c1
    refine lv_iload_n S.1 S.2.1 dX2_next_7 rfl (lv_at hl 2 rfl) ?_
    refine call_X2_isNode S hK hN hP hD hS hA (x := y)  hl.1 (Nat.le_of_ble_eq_true rfl) ⟨Nat.le_of_ble_eq_true rfl, Nat.le_of_ble_eq_true rfl⟩ dX2_next_8 ⟨Nat.le_refl _, Nat.le_refl _⟩ (fun H locs hP hD hS => ?_)
    refine kb_eq (tgt := 23) S dX2_next_11 (by decide) (fun c2 => ?_) (fun c2 => ?_)
    · refine lv_iconst (v := (-1)) S.1 S.2.1 dX2_next_23 (by decide) ?_
      have e9 : cDistS (nI x1) y σ = σ := by first | (simp only [cDistS, c1, cl8 hx1, c2, reduceIte, Bool.false_eq_true, eq_self_iff_true, if_true, if_false]; done) | with_reducible rfl
      rw [e9]
      exact kret_i S hr hlk hP hD hS (by first | (simp only [cNext, c1, cl8 hx1, c2, reduceIte, Bool.false_eq_true, eq_self_iff_true, if_true, if_false]; done) | with_reducible rfl) dX2_next_24
    · obtain ⟨y1, hy1, rfl⟩ := isN_of c2
      refine lv_aload_n S.1 S.2.1 dX2_next_14 rfl (lv_at hl 0 rfl) ?_
      refine cf_net_there S hK hP dX2_next_15 ?_
      refine lv_iload_n S.1 S.2.1 dX2_next_18 rfl (lv_at hl 1 rfl) ?_
      refine ca_there S hK hP (j := x1) (by omega) dX2_next_19 ?_
      refine lv_if_ne (tgt := 25) S.1 S.2.1 dX2_next_20 (by decide) (fun c3 => ?_) (fun c3 => ?_)
      · refine lv_aload_n S.1 S.2.1 dX2_next_25 rfl (lv_at hl 0 rfl) ?_
        refine lv_iload_n S.1 S.2.1 dX2_next_26 rfl (lv_at hl 1 rfl) ?_
        refine lv_iload_n S.1 S.2.1 dX2_next_27 rfl (lv_at hl 2 rfl) ?_
        refine call_X2_nextHop S hK hN hP hD hS hA (v := x1) (g := y1) (by omega) (by omega) hl.1 (Nat.le_of_ble_eq_true rfl) ⟨Nat.le_of_ble_eq_true rfl, Nat.le_of_ble_eq_true rfl⟩ dX2_next_28 ⟨Nat.le_refl _, Nat.le_refl _⟩ (fun H locs hP hD hS => ?_)
        have e9 : cDistS (nI x1) (nI y1) σ = cMeas x1 y1 σ := by first | (simp only [cDistS, c1, cl8 hx1, c2, cl8 hy1, c3, reduceIte, Bool.false_eq_true, eq_self_iff_true, if_true, if_false]; done) | with_reducible rfl
        rw [e9]
        exact kret_i S hr hlk hP hD hS (by first | (simp only [cNext, c1, cl8 hx1, c2, cl8 hy1, c3, reduceIte, Bool.false_eq_true, eq_self_iff_true, if_true, if_false]; done) | with_reducible rfl) dX2_next_31
      · refine lv_iconst (v := (-1)) S.1 S.2.1 dX2_next_23 (by decide) ?_
        have e9 : cDistS (nI x1) (nI y1) σ = σ := by first | (simp only [cDistS, c1, cl8 hx1, c2, cl8 hy1, eq_true c3, reduceIte, Bool.false_eq_true, eq_self_iff_true, if_true, if_false]; done) | with_reducible rfl
        rw [e9]
        exact kret_i S hr hlk hP hD hS (by first | (simp only [cNext, c1, cl8 hx1, c2, cl8 hy1, eq_true c3, reduceIte, Bool.false_eq_true, eq_self_iff_true, if_true, if_false]; done) | with_reducible rfl) dX2_next_24
set_option maxHeartbeats 400000 in
set_option maxRecDepth 100000 in
theorem c_X2_news (l : Launch) (D : va_G) (cy : Nat → ClassId) (a : Nat → Nat) (X : va_W) (σ : CS) (x : Int32) (y : Int32) (z : Int32)  : MetI l yX2_news cX2_news 5 .int (kRm 2 0 0) D (tyA cy) nestC [.ref (a 0), .int (x), .int (y), .int (z)] (X ++ cB cy a σ) (X ++ cB cy a σ) (cNews x y z σ) 0 0 := by
  intro sz
  refine kmet (own := RX2) (by decide) rfl (Nat.le_of_ble_eq_true rfl) (fun p e s m args below meth c S hr hlk hK hN hP hD hsz hA hnm ls hl => ?_)
  have hS : va_S (va_A (X ++ cB cy a σ) sz) s.heap s.heap [] := va_S.rf
  have hl : lv_has ls 5 [(0, .ref (a 0)), (1, .int (x)), (2, .int (y)), (3, .int (z))] := hl
  refine lv_iload_n S.1 S.2.1 dX2_news_0 rfl (lv_at hl 1 rfl) ?_
  refine call_X2_isNode S hK hN hP hD hS hA (x := x)  hl.1 (Nat.le_of_ble_eq_true rfl) ⟨Nat.le_of_ble_eq_true rfl, Nat.le_of_ble_eq_true rfl⟩ dX2_news_1 ⟨Nat.le_refl _, Nat.le_refl _⟩ (fun H locs hP hD hS => ?_)
  refine kb_eq (tgt := 14) S dX2_news_4 (by decide) (fun c1 => ?_) (fun c1 => ?_)
  · refine lv_iconst (v := (-1)) S.1 S.2.1 dX2_news_14 (by decide) ?_
    exact kret_i S hr hlk hP hD hS (by first | (simp only [cNews, c1, reduceIte, Bool.false_eq_true, eq_self_iff_true, if_true, if_false]; done) | with_reducible rfl) dX2_news_15
  · obtain ⟨x1, hx1, rfl⟩ := isN_of c1
    refine lv_iload_n S.1 S.2.1 dX2_news_7 rfl (lv_at hl 2 rfl) ?_
    refine call_X2_isNode S hK hN hP hD hS hA (x := y)  hl.1 (Nat.le_of_ble_eq_true rfl) ⟨Nat.le_of_ble_eq_true rfl, Nat.le_of_ble_eq_true rfl⟩ dX2_news_8 ⟨Nat.le_refl _, Nat.le_refl _⟩ (fun H locs hP hD hS => ?_)
    refine kb_ne (tgt := 16) S dX2_news_11 (by decide) (fun c2 => ?_) (fun c2 => ?_)
    · obtain ⟨y1, hy1, rfl⟩ := isN_of c2
      refine lv_iload_n S.1 S.2.1 dX2_news_16 rfl (lv_at hl 1 rfl) ?_
      refine lv_iload_n S.1 S.2.1 dX2_news_17 rfl (lv_at hl 2 rfl) ?_
      refine call_X2_knownRow S hK hN hP hD hS hA (u := x1) (v := y1)  hl.1 (Nat.le_of_ble_eq_true rfl) ⟨Nat.le_of_ble_eq_true rfl, Nat.le_of_ble_eq_true rfl⟩ dX2_news_18 ⟨Nat.le_refl _, Nat.le_refl _⟩ (fun H locs hP hD hS => ?_)
      refine lv_istore (lv' := [(4, .int (nI (x1 * 8 + y1))), (0, .ref (a 0)), (1, .int (nI (x1))), (2, .int (nI (y1))), (3, .int (z))]) S.1 S.2.1 dX2_news_21 hl (by decide) rfl (fun ls hl => ?_)
      refine lv_aload_n S.1 S.2.1 dX2_news_23 rfl (lv_at hl 1 rfl) ?_
      refine cf_net_known S hK hP dX2_news_24 ?_
      refine cn_known_number S hK hN hP dX2_news_27 ?_
      refine lv_iload S.1 S.2.1 dX2_news_30 (lv_at hl 0 rfl) ?_
      refine ca_knNumber S hK hP (j := (x1 * 8 + y1)) (by omega) dX2_news_32 ?_
      refine lv_if_ne (tgt := 38) S.1 S.2.1 dX2_news_33 (by decide) (fun c3 => ?_) (fun c3 => ?_)
      · refine lv_iload_n S.1 S.2.1 dX2_news_38 rfl (lv_at hl 4 rfl) ?_
        rcases sw02 z with c4 | ⟨c4a, c4⟩ | ⟨c4a, c4b, c4⟩ | ⟨c4a, c4b, c4c, c4⟩
        · refine lv_tableIn (tgt := 64) S.1 S.2.1 dX2_news_39 (by rw [c4]; decide) (by rw [c4]; decide) (by rw [c4]; rfl) (by decide) ?_
          refine lv_aload_n S.1 S.2.1 dX2_news_64 rfl (lv_at hl 1 rfl) ?_
          refine cf_net_known S hK hP dX2_news_65 ?_
          refine cn_known_number S hK hN hP dX2_news_68 ?_
          refine lv_iload S.1 S.2.1 dX2_news_71 (lv_at hl 0 rfl) ?_
          refine ca_knNumber S hK hP (j := (x1 * 8 + y1)) (by omega) dX2_news_73 ?_
          exact kret_i S hr hlk hP hD hS (by first | (simp only [cNews, c1, cl8 hx1, c2, cl8 hy1, c3, eq_true c4, reduceIte, Bool.false_eq_true, eq_self_iff_true, if_true, if_false]; done) | with_reducible rfl) dX2_news_74
        · refine lv_tableIn (tgt := 75) S.1 S.2.1 dX2_news_39 (by rw [c4]; decide) (by rw [c4]; decide) (by rw [c4]; rfl) (by decide) ?_
          refine lv_aload_n S.1 S.2.1 dX2_news_75 rfl (lv_at hl 1 rfl) ?_
          refine cf_net_time S hK hP dX2_news_76 ?_
          refine lv_aload_n S.1 S.2.1 dX2_news_79 rfl (lv_at hl 1 rfl) ?_
          refine cf_net_known S hK hP dX2_news_80 ?_
          refine cn_known_born S hK hN hP dX2_news_83 ?_
          refine lv_iload S.1 S.2.1 dX2_news_86 (lv_at hl 0 rfl) ?_
          refine ca_knBorn S hK hP (j := (x1 * 8 + y1)) (by omega) dX2_news_88 ?_
          refine lv_isub S.1 S.2.1 dX2_news_89 ?_
          exact kret_i S hr hlk hP hD hS (by first | (simp only [cNews, c1, cl8 hx1, c2, cl8 hy1, c3, c4a, eq_true c4, reduceIte, Bool.false_eq_true, eq_self_iff_true, if_true, if_false]; done) | with_reducible rfl) dX2_news_90
        · refine lv_tableIn (tgt := 91) S.1 S.2.1 dX2_news_39 (by rw [c4]; decide) (by rw [c4]; decide) (by rw [c4]; rfl) (by decide) ?_
          refine lv_aload_n S.1 S.2.1 dX2_news_91 rfl (lv_at hl 1 rfl) ?_
          refine cf_net_known S hK hP dX2_news_92 ?_
          refine lv_iload S.1 S.2.1 dX2_news_95 (lv_at hl 0 rfl) ?_
          refine call_X1_costCount_known S hK hN hP hD hS hA (row := x1 * 8 + y1) (by omega) hl.1 (Nat.le_of_ble_eq_true rfl) ⟨Nat.le_of_ble_eq_true rfl, Nat.le_of_ble_eq_true rfl⟩ dX2_news_97 ⟨Nat.le_refl _, Nat.le_refl _⟩ (fun H locs hP hD hS => ?_)
          exact kret_i S hr hlk hP hD hS (by first | (simp only [cNews, c1, cl8 hx1, c2, cl8 hy1, c3, c4a, c4b, eq_true c4, reduceIte, Bool.false_eq_true, eq_self_iff_true, if_true, if_false]; done) | with_reducible rfl) dX2_news_100
        · refine lv_tableOut (tgt := 101) S.1 S.2.1 dX2_news_39 c4 (by decide) ?_
          refine lv_iload_n S.1 S.2.1 dX2_news_101 rfl (lv_at hl 4 rfl) ?_
          refine lv_bipush (v := (nI 10)) S.1 S.2.1 dX2_news_102 (by decide) ?_
          refine lv_icmp_lt (tgt := 133) S.1 S.2.1 dX2_news_104 (by decide) (fun c5 => ?_) (fun c5 => ?_)
          · refine lv_iconst (v := (-1)) S.1 S.2.1 dX2_news_133 (by decide) ?_
            exact kret_i S hr hlk hP hD hS (by first | (simp only [cNews, c1, cl8 hx1, c2, cl8 hy1, c3, c4a, c4b, c4c, c5, reduceIte, Bool.false_eq_true, eq_self_iff_true, if_true, if_false]; done) | with_reducible rfl) dX2_news_134
          · refine lv_iload_n S.1 S.2.1 dX2_news_107 rfl (lv_at hl 4 rfl) ?_
            refine lv_bipush (v := (nI 10)) S.1 S.2.1 dX2_news_108 (by decide) ?_
            refine lv_isub S.1 S.2.1 dX2_news_110 ?_
            refine call_X2_isNode S hK hN hP hD hS hA (x := (z) - (nI 10))  hl.1 (Nat.le_of_ble_eq_true rfl) ⟨Nat.le_of_ble_eq_true rfl, Nat.le_of_ble_eq_true rfl⟩ dX2_news_111 ⟨Nat.le_refl _, Nat.le_refl _⟩ (fun H locs hP hD hS => ?_)
            refine kb_eq (tgt := 133) S dX2_news_114 (by decide) (fun c6 => ?_) (fun c6 => ?_)
            · refine lv_iconst (v := (-1)) S.1 S.2.1 dX2_news_133 (by decide) ?_
              exact kret_i S hr hlk hP hD hS (by first | (simp only [cNews, c1, cl8 hx1, c2, cl8 hy1, c3, c4a, c4b, c4c, c5, c6, reduceIte, Bool.false_eq_true, eq_self_iff_true, if_true, if_false]; done) | with_reducible rfl) dX2_news_134
            · obtain ⟨jc6, hc6j, hc6e⟩ := isN_of c6
              have hc6c : ((z) - (nI 10)).toNatClampNeg = jc6 := by rw [hc6e, cl8 hc6j]
              refine lv_aload_n S.1 S.2.1 dX2_news_117 rfl (lv_at hl 1 rfl) ?_
              refine cf_net_known S hK hP dX2_news_118 ?_
              refine lv_iload S.1 S.2.1 dX2_news_121 (lv_at hl 0 rfl) ?_
              refine lv_iload_n S.1 S.2.1 dX2_news_123 rfl (lv_at hl 4 rfl) ?_
              refine lv_bipush (v := (nI 10)) S.1 S.2.1 dX2_news_124 (by decide) ?_
              refine lv_isub S.1 S.2.1 dX2_news_126 ?_
              refine k_top hc6e ?_
              refine call_X1_costFor_known_X2 S hK hN hP hD hS hA (row := x1 * 8 + y1) (w := jc6) (by omega) hl.1 (Nat.le_of_ble_eq_true rfl) ⟨Nat.le_of_ble_eq_true rfl, Nat.le_of_ble_eq_true rfl⟩ dX2_news_127 ⟨Nat.le_refl _, Nat.le_refl _⟩ (fun H locs hP hD hS => ?_)
              refine lv_goto (tgt := 134) S.1 S.2.1 dX2_news_130 (by decide) ?_
              exact kret_i S hr hlk hP hD hS (by first | (simp only [cNews, c1, cl8 hx1, c2, cl8 hy1, c3, c4a, c4b, c4c, c5, c6, hc6c, reduceIte, Bool.false_eq_true, eq_self_iff_true, if_true, if_false]; done) | with_reducible rfl) dX2_news_134
      · refine lv_iconst (v := (-1)) S.1 S.2.1 dX2_news_36 (by decide) ?_
        exact kret_i S hr hlk hP hD hS (by first | (simp only [cNews, c1, cl8 hx1, c2, cl8 hy1, eq_true c3, reduceIte, Bool.false_eq_true, eq_self_iff_true, if_true, if_false]; done) | with_reducible rfl) dX2_news_37
    · refine lv_iconst (v := (-1)) S.1 S.2.1 dX2_news_14 (by decide) ?_
      exact kret_i S hr hlk hP hD hS (by first | (simp only [cNews, c1, cl8 hx1, c2, reduceIte, Bool.false_eq_true, eq_self_iff_true, if_true, if_false]; done) | with_reducible rfl) dX2_news_15
