set_option maxHeartbeats 400000 in
set_option maxRecDepth 100000 in
theorem c_X3_goes_t (l : Launch) (D : va_G) (cy : Nat → ClassId) (a : Nat → Nat) (X : va_W) (τ : MS) (q : Bool)  : MetI l yX3_goes cX3_goes 3 .boolean (kRm 0 0 0) D (tyA cy) [] [.ref (a 0), .int (b2i (q)), .int (nI 1)] (X ++ mB cy a τ) (X ++ mB cy a (mGoes q true τ)) (b2i (q)) 0 0 := by
  intro sz
  refine kmet (own := RX3) (by decide) rfl (Nat.le_of_ble_eq_true rfl) (fun p e s m args below meth c S hr hlk hK hN hP hD hsz hA hnm ls hl => ?_)
  have hS : va_S (va_A (X ++ mB cy a τ) sz) s.heap s.heap [] := va_S.rf
  have hl : lv_has ls 3 [(0, .ref (a 0)), (1, .int (b2i (q))), (2, .int (nI 1))] := hl
  refine lv_aload_n S.1 S.2.1 dX3_goes_0 rfl (lv_at hl 0 rfl) ?_
  refine lv_iload_n S.1 S.2.1 dX3_goes_1 rfl (lv_at hl 1 rfl) ?_
  refine kb_ne (tgt := 9) S dX3_goes_2 (by decide) (fun c1 => ?_) (fun c1 => ?_)
  · refine lv_iload_n S.1 S.2.1 dX3_goes_9 rfl (lv_at hl 2 rfl) ?_
    refine lv_if_ne (tgt := 17) S.1 S.2.1 dX3_goes_10 (by decide) (fun _ => ?_) (fun c2 => absurd c2 (by decide))
    refine lv_iconst (v := (nI 0)) S.1 S.2.1 dX3_goes_17 (by decide) ?_
    refine mp_thrown S hK hP hD hS dX3_goes_18 (fun H locs hP hD hS => ?_)
    refine lv_aload_n S.1 S.2.1 dX3_goes_21 rfl (lv_at hl 0 rfl) ?_
    refine mf_thrown S hK hP dX3_goes_22 ?_
    refine k_top (y := nI 0) rfl ?_
    refine lv_if_ne (tgt := 32) S.1 S.2.1 dX3_goes_25 (by decide) (fun c3 => absurd (by decide) c3) (fun _ => ?_)
    refine lv_iconst (v := (nI 1)) S.1 S.2.1 dX3_goes_28 (by decide) ?_
    refine lv_goto (tgt := 33) S.1 S.2.1 dX3_goes_29 (by decide) ?_
    have e9 : mGoes q true τ = mS 0 0 (nI 0) τ := by first | (simp only [mGoes, thr, c1, reduceIte, Bool.false_eq_true, eq_self_iff_true, if_true, if_false]; done) | with_reducible rfl
    rw [e9]
    exact kret_z S hr hlk hP hD hS (by first | rfl | exact b2i_nar _) (by rw [show q = true from (by assumption)]; decide) dX3_goes_33
  · refine lv_iconst (v := (nI 1)) S.1 S.2.1 dX3_goes_5 (by decide) ?_
    refine lv_goto (tgt := 18) S.1 S.2.1 dX3_goes_6 (by decide) ?_
    refine mp_thrown S hK hP hD hS dX3_goes_18 (fun H locs hP hD hS => ?_)
    refine lv_aload_n S.1 S.2.1 dX3_goes_21 rfl (lv_at hl 0 rfl) ?_
    refine mf_thrown S hK hP dX3_goes_22 ?_
    refine k_top (y := nI 1) rfl ?_
    refine lv_if_ne (tgt := 32) S.1 S.2.1 dX3_goes_25 (by decide) (fun _ => ?_) (fun c4 => absurd c4 (by decide))
    refine lv_iconst (v := (nI 0)) S.1 S.2.1 dX3_goes_32 (by decide) ?_
    have e9 : mGoes q true τ = mS 0 0 (nI 1) τ := by first | (simp only [mGoes, thr, c1, reduceIte, Bool.false_eq_true, eq_self_iff_true, if_true, if_false]; done) | with_reducible rfl
    rw [e9]
    exact kret_z S hr hlk hP hD hS (by first | rfl | exact b2i_nar _) (by rw [show q = false from (by assumption)]; decide) dX3_goes_33
theorem call_X3_goes_t {p : Program} {l : Launch} {e : Env} {R : Room} {s : State} {m : MethodId} {args : Array Value} {below : List Frame} {meth : Method} {c : Code} {H : Heap} {locs : List Loc} {cells slots : Nat} {Q : State → Prop} {cc : ByteArray} {pc nL : Nat} {ls : Array Slot} {rest : List Value} {D : va_G} {A : Nat → Prop} {w0 : Cond} {X : va_W} {cy : Nat → ClassId} {a : Nat → Nat} {τ : MS} (S : CallFix p m c cc nL s args (w0 :: gw) RX3) (hK : va_K D vwCl (tyA cy) s) (hN : kN [] s) (hP : va_P D vwCl (X ++ mB cy a τ) H) (hD : va_D A (X ++ mB cy a τ)) (hS : va_S A s.heap H locs) (hA : ∀ q, s.heap.size ≤ q → A q) {q : Bool}  (hsz : ls.size = nL) (hW : (rest.map fun v => v.category).sum ≤ 8) (hR : 0 + 1 ≤ R.frames ∧ 8 + (3 + 11) + 32 * 0 ≤ R.locals) (hdg : decode cc pc = .ok (.invokevirtual 117, 3)) (hfc : cells ≤ R.cells ∧ slots ≤ R.slots)
    (kk : ∀ (H1 : Heap) (locs1 : List Loc), va_P D vwCl (X ++ mB cy a (mGoes q true τ)) H1 → va_D A (X ++ mB cy a (mGoes q true τ)) → va_S A s.heap H1 locs1 → W p l e R s m args below meth c H1 locs1 cells slots Q (F0 m (pc + 3) ls (.int (b2i (q)) :: rest))) : W p l e R s m args below meth c H locs cells slots Q (F0 m pc ls (.int (nI 1) :: .int (b2i (q)) :: .ref (a 0) :: rest)) :=
  kgo_i (va_runV (As := [.int (b2i (q)), .int (nI 1)]) (rest := rest) S (c_X3_goes_t l D cy a X τ q  H.size) (cwV 2 S.2.2.2.2 (gw_good_1 wm_579 (gw_good_1 wm_581 (gw_good_1 wm_31 (gw_good_1 wm_50 (gw_good_in wm_582))))) rfl rfl rfl (by decide +kernel) hR) ⟨kblind kNok.nil, mrecv hK hP, kpre kNok.nil hN hK hP hD⟩ rfl rfl hsz rfl (lv_room hW) hdg hfc) hD hS hA kk
set_option maxHeartbeats 400000 in
set_option maxRecDepth 100000 in
theorem c_X3_goes_f (l : Launch) (D : va_G) (cy : Nat → ClassId) (a : Nat → Nat) (X : va_W) (τ : MS) (q : Bool)  : MetI l yX3_goes cX3_goes 3 .boolean (kRm 0 0 0) D (tyA cy) [] [.ref (a 0), .int (b2i (q)), .int (nI 0)] (X ++ mB cy a τ) (X ++ mB cy a (mGoes q false τ)) (b2i (false)) 0 0 := by
  intro sz
  refine kmet (own := RX3) (by decide) rfl (Nat.le_of_ble_eq_true rfl) (fun p e s m args below meth c S hr hlk hK hN hP hD hsz hA hnm ls hl => ?_)
  have hS : va_S (va_A (X ++ mB cy a τ) sz) s.heap s.heap [] := va_S.rf
  have hl : lv_has ls 3 [(0, .ref (a 0)), (1, .int (b2i (q))), (2, .int (nI 0))] := hl
  refine lv_aload_n S.1 S.2.1 dX3_goes_0 rfl (lv_at hl 0 rfl) ?_
  refine lv_iload_n S.1 S.2.1 dX3_goes_1 rfl (lv_at hl 1 rfl) ?_
  refine kb_ne (tgt := 9) S dX3_goes_2 (by decide) (fun c1 => ?_) (fun c1 => ?_)
  · refine lv_iload_n S.1 S.2.1 dX3_goes_9 rfl (lv_at hl 2 rfl) ?_
    refine lv_if_ne (tgt := 17) S.1 S.2.1 dX3_goes_10 (by decide) (fun c2 => absurd (by decide) c2) (fun _ => ?_)
    refine lv_iconst (v := (nI 2)) S.1 S.2.1 dX3_goes_13 (by decide) ?_
    refine lv_goto (tgt := 18) S.1 S.2.1 dX3_goes_14 (by decide) ?_
    refine mp_thrown S hK hP hD hS dX3_goes_18 (fun H locs hP hD hS => ?_)
    refine lv_aload_n S.1 S.2.1 dX3_goes_21 rfl (lv_at hl 0 rfl) ?_
    refine mf_thrown S hK hP dX3_goes_22 ?_
    refine k_top (y := nI 2) rfl ?_
    refine lv_if_ne (tgt := 32) S.1 S.2.1 dX3_goes_25 (by decide) (fun _ => ?_) (fun c3 => absurd c3 (by decide))
    refine lv_iconst (v := (nI 0)) S.1 S.2.1 dX3_goes_32 (by decide) ?_
    have e9 : mGoes q false τ = mS 0 0 (nI 2) τ := by first | (simp only [mGoes, thr, c1, reduceIte, Bool.false_eq_true, eq_self_iff_true, if_true, if_false]; done) | with_reducible rfl
    rw [e9]
    exact kret_z S hr hlk hP hD hS (by first | rfl | exact b2i_nar _) (by decide) dX3_goes_33
  · refine lv_iconst (v := (nI 1)) S.1 S.2.1 dX3_goes_5 (by decide) ?_
    refine lv_goto (tgt := 18) S.1 S.2.1 dX3_goes_6 (by decide) ?_
    refine mp_thrown S hK hP hD hS dX3_goes_18 (fun H locs hP hD hS => ?_)
    refine lv_aload_n S.1 S.2.1 dX3_goes_21 rfl (lv_at hl 0 rfl) ?_
    refine mf_thrown S hK hP dX3_goes_22 ?_
    refine k_top (y := nI 1) rfl ?_
    refine lv_if_ne (tgt := 32) S.1 S.2.1 dX3_goes_25 (by decide) (fun _ => ?_) (fun c4 => absurd c4 (by decide))
    refine lv_iconst (v := (nI 0)) S.1 S.2.1 dX3_goes_32 (by decide) ?_
    have e9 : mGoes q false τ = mS 0 0 (nI 1) τ := by first | (simp only [mGoes, thr, c1, reduceIte, Bool.false_eq_true, eq_self_iff_true, if_true, if_false]; done) | with_reducible rfl
    rw [e9]
    exact kret_z S hr hlk hP hD hS (by first | rfl | exact b2i_nar _) (by decide) dX3_goes_33
theorem call_X3_goes_f {p : Program} {l : Launch} {e : Env} {R : Room} {s : State} {m : MethodId} {args : Array Value} {below : List Frame} {meth : Method} {c : Code} {H : Heap} {locs : List Loc} {cells slots : Nat} {Q : State → Prop} {cc : ByteArray} {pc nL : Nat} {ls : Array Slot} {rest : List Value} {D : va_G} {A : Nat → Prop} {w0 : Cond} {X : va_W} {cy : Nat → ClassId} {a : Nat → Nat} {τ : MS} (S : CallFix p m c cc nL s args (w0 :: gw) RX3) (hK : va_K D vwCl (tyA cy) s) (hN : kN [] s) (hP : va_P D vwCl (X ++ mB cy a τ) H) (hD : va_D A (X ++ mB cy a τ)) (hS : va_S A s.heap H locs) (hA : ∀ q, s.heap.size ≤ q → A q) {q : Bool}  (hsz : ls.size = nL) (hW : (rest.map fun v => v.category).sum ≤ 8) (hR : 0 + 1 ≤ R.frames ∧ 8 + (3 + 11) + 32 * 0 ≤ R.locals) (hdg : decode cc pc = .ok (.invokevirtual 117, 3)) (hfc : cells ≤ R.cells ∧ slots ≤ R.slots)
    (kk : ∀ (H1 : Heap) (locs1 : List Loc), va_P D vwCl (X ++ mB cy a (mGoes q false τ)) H1 → va_D A (X ++ mB cy a (mGoes q false τ)) → va_S A s.heap H1 locs1 → W p l e R s m args below meth c H1 locs1 cells slots Q (F0 m (pc + 3) ls (.int (b2i (false)) :: rest))) : W p l e R s m args below meth c H locs cells slots Q (F0 m pc ls (.int (nI 0) :: .int (b2i (q)) :: .ref (a 0) :: rest)) :=
  kgo_i (va_runV (As := [.int (b2i (q)), .int (nI 0)]) (rest := rest) S (c_X3_goes_f l D cy a X τ q  H.size) (cwV 2 S.2.2.2.2 (gw_good_1 wm_579 (gw_good_1 wm_581 (gw_good_1 wm_31 (gw_good_1 wm_50 (gw_good_in wm_582))))) rfl rfl rfl (by decide +kernel) hR) ⟨kblind kNok.nil, mrecv hK hP, kpre kNok.nil hN hK hP hD⟩ rfl rfl hsz rfl (lv_room hW) hdg hfc) hD hS hA kk
set_option maxHeartbeats 400000 in
set_option maxRecDepth 100000 in
theorem c_X3_in (l : Launch) (D : va_G) (cy : Nat → ClassId) (a : Nat → Nat) (X : va_W) (τ : MS) (x : Int32) (y : Int32) (z : Int32)  : MetI l yX3_in cX3_in 3 .boolean (kRm 0 0 0) D (tyA cy) [] [.int (x), .int (y), .int (z)] (X ++ mB cy a τ) (X ++ mB cy a τ) (b2i (inR x y z)) 0 0 := by
  intro sz
  refine kmet (own := RX3) (by decide) rfl (Nat.le_of_ble_eq_true rfl) (fun p e s m args below meth c S hr hlk hK hN hP hD hsz hA hnm ls hl => ?_)
  have hS : va_S (va_A (X ++ mB cy a τ) sz) s.heap s.heap [] := va_S.rf
  have hl : lv_has ls 3 [(0, .int (x)), (1, .int (y)), (2, .int (z))] := hl
  refine lv_iload_n S.1 S.2.1 dX3_in_0 rfl (lv_at hl 0 rfl) ?_
  refine lv_iload_n S.1 S.2.1 dX3_in_1 rfl (lv_at hl 1 rfl) ?_
  refine lv_icmp_lt (tgt := 14) S.1 S.2.1 dX3_in_2 (by decide) (fun c1 => ?_) (fun c1 => ?_)
  · refine lv_iconst (v := (nI 0)) S.1 S.2.1 dX3_in_14 (by decide) ?_
    exact kret_z S hr hlk hP hD hS (by first | rfl | exact b2i_nar _) (by rw [show inR x y z = false from (by first | (simp only [inR, c1, reduceIte, Bool.false_eq_true, eq_self_iff_true, if_true, if_false]; done) | with_reducible rfl)]; decide) dX3_in_15
  · refine lv_iload_n S.1 S.2.1 dX3_in_5 rfl (lv_at hl 0 rfl) ?_
    refine lv_iload_n S.1 S.2.1 dX3_in_6 rfl (lv_at hl 2 rfl) ?_
    refine lv_icmp_gt (tgt := 14) S.1 S.2.1 dX3_in_7 (by decide) (fun c2 => ?_) (fun c2 => ?_)
    · refine lv_iconst (v := (nI 0)) S.1 S.2.1 dX3_in_14 (by decide) ?_
      exact kret_z S hr hlk hP hD hS (by first | rfl | exact b2i_nar _) (by rw [show inR x y z = false from (by first | (simp only [inR, c1, c2, reduceIte, Bool.false_eq_true, eq_self_iff_true, if_true, if_false]; done) | with_reducible rfl)]; decide) dX3_in_15
    · refine lv_iconst (v := (nI 1)) S.1 S.2.1 dX3_in_10 (by decide) ?_
      refine lv_goto (tgt := 15) S.1 S.2.1 dX3_in_11 (by decide) ?_
      exact kret_z S hr hlk hP hD hS (by first | rfl | exact b2i_nar _) (by rw [show inR x y z = true from (by first | (simp only [inR, c1, c2, reduceIte, Bool.false_eq_true, eq_self_iff_true, if_true, if_false]; done) | with_reducible rfl)]; decide) dX3_in_15
theorem call_X3_in {p : Program} {l : Launch} {e : Env} {R : Room} {s : State} {m : MethodId} {args : Array Value} {below : List Frame} {meth : Method} {c : Code} {H : Heap} {locs : List Loc} {cells slots : Nat} {Q : State → Prop} {cc : ByteArray} {pc nL : Nat} {ls : Array Slot} {rest : List Value} {D : va_G} {A : Nat → Prop} {w0 : Cond} {X : va_W} {cy : Nat → ClassId} {a : Nat → Nat} {τ : MS} (S : CallFix p m c cc nL s args (w0 :: gw) RX3) (hK : va_K D vwCl (tyA cy) s) (hN : kN [] s) (hP : va_P D vwCl (X ++ mB cy a τ) H) (hD : va_D A (X ++ mB cy a τ)) (hS : va_S A s.heap H locs) (hA : ∀ q, s.heap.size ≤ q → A q) {x : Int32} {y : Int32} {z : Int32}  (hsz : ls.size = nL) (hW : (rest.map fun v => v.category).sum ≤ 8) (hR : 0 + 1 ≤ R.frames ∧ 8 + (3 + 11) + 32 * 0 ≤ R.locals) (hdg : decode cc pc = .ok (.invokestatic 84, 3)) (hfc : cells ≤ R.cells ∧ slots ≤ R.slots)
    (kk : ∀ (H1 : Heap) (locs1 : List Loc), va_P D vwCl (X ++ mB cy a τ) H1 → va_D A (X ++ mB cy a τ) → va_S A s.heap H1 locs1 → W p l e R s m args below meth c H1 locs1 cells slots Q (F0 m (pc + 3) ls (.int (b2i (inR x y z)) :: rest))) : W p l e R s m args below meth c H locs cells slots Q (F0 m pc ls (.int (z) :: .int (y) :: .int (x) :: rest)) :=
  kgo_i (va_runS (As := [.int (x), .int (y), .int (z)]) (rest := rest) S (c_X3_in l D cy a X τ x y z  H.size) (cwS 3 S.2.2.2.2 (gw_good_1 wm_576 (gw_good_1 wm_577 (gw_good_1 wm_50 (gw_good_in wm_578)))) rfl rfl rfl (by decide +kernel) hR) ⟨kblind kNok.nil, kpre kNok.nil hN hK hP hD⟩ rfl rfl hsz rfl (lv_room hW) hdg hfc) hD hS hA kk
set_option maxHeartbeats 400000 in
set_option maxRecDepth 100000 in
theorem c_X3_isNode (l : Launch) (D : va_G) (cy : Nat → ClassId) (a : Nat → Nat) (X : va_W) (τ : MS) (x : Int32)  : MetI l yX3_isNode cX3_isNode 1 .boolean (kRm 1 0 0) D (tyA cy) [] [.int (x)] (X ++ mB cy a τ) (X ++ mB cy a τ) (b2i (isN x)) 0 0 := by
  intro sz
  refine kmet (own := RX3) (by decide) rfl (Nat.le_of_ble_eq_true rfl) (fun p e s m args below meth c S hr hlk hK hN hP hD hsz hA hnm ls hl => ?_)
  have hS : va_S (va_A (X ++ mB cy a τ) sz) s.heap s.heap [] := va_S.rf
  have hl : lv_has ls 1 [(0, .int (x))] := hl
  refine lv_iload_n S.1 S.2.1 dX3_isNode_0 rfl (lv_at hl 0 rfl) ?_
  refine lv_iconst (v := (nI 0)) S.1 S.2.1 dX3_isNode_1 (by decide) ?_
  refine lv_bipush (v := (nI 7)) S.1 S.2.1 dX3_isNode_2 (by decide) ?_
  refine call_X3_in S hK hN hP hD hS hA (x := x) (y := nI 0) (z := nI 7)  hl.1 (Nat.le_of_ble_eq_true rfl) ⟨Nat.le_of_ble_eq_true rfl, Nat.le_of_ble_eq_true rfl⟩ dX3_isNode_4 ⟨Nat.le_refl _, Nat.le_refl _⟩ (fun H locs hP hD hS => ?_)
  exact kret_z S hr hlk hP hD hS (by first | rfl | exact b2i_nar _) (by rw [inR_isN]) dX3_isNode_7
theorem call_X3_isNode {p : Program} {l : Launch} {e : Env} {R : Room} {s : State} {m : MethodId} {args : Array Value} {below : List Frame} {meth : Method} {c : Code} {H : Heap} {locs : List Loc} {cells slots : Nat} {Q : State → Prop} {cc : ByteArray} {pc nL : Nat} {ls : Array Slot} {rest : List Value} {D : va_G} {A : Nat → Prop} {w0 : Cond} {X : va_W} {cy : Nat → ClassId} {a : Nat → Nat} {τ : MS} (S : CallFix p m c cc nL s args (w0 :: gw) RX3) (hK : va_K D vwCl (tyA cy) s) (hN : kN [] s) (hP : va_P D vwCl (X ++ mB cy a τ) H) (hD : va_D A (X ++ mB cy a τ)) (hS : va_S A s.heap H locs) (hA : ∀ q, s.heap.size ≤ q → A q) {x : Int32}  (hsz : ls.size = nL) (hW : (rest.map fun v => v.category).sum ≤ 8) (hR : 1 + 1 ≤ R.frames ∧ 8 + (1 + 11) + 32 * 1 ≤ R.locals) (hdg : decode cc pc = .ok (.invokestatic 88, 3)) (hfc : cells ≤ R.cells ∧ slots ≤ R.slots)
    (kk : ∀ (H1 : Heap) (locs1 : List Loc), va_P D vwCl (X ++ mB cy a τ) H1 → va_D A (X ++ mB cy a τ) → va_S A s.heap H1 locs1 → W p l e R s m args below meth c H1 locs1 cells slots Q (F0 m (pc + 3) ls (.int (b2i (isN x)) :: rest))) : W p l e R s m args below meth c H locs cells slots Q (F0 m pc ls (.int (x) :: rest)) :=
  kgo_i (va_runS (As := [.int (x)]) (rest := rest) S (c_X3_isNode l D cy a X τ x  H.size) (cwS 1 S.2.2.2.2 (gw_good_1 wm_573 (gw_good_1 wm_574 (gw_good_1 wm_50 (gw_good_in wm_575)))) rfl rfl rfl (by decide +kernel) hR) ⟨kblind kNok.nil, kpre kNok.nil hN hK hP hD⟩ rfl rfl hsz rfl (lv_room hW) hdg hfc) hD hS hA kk
set_option maxHeartbeats 400000 in
set_option maxRecDepth 100000 in
theorem c_X3_haveLink (l : Launch) (D : va_G) (cy : Nat → ClassId) (a : Nat → Nat) (X : va_W) (τ : MS) (x : Int32) (y : Int32)  : MetI l yX3_haveLink cX3_haveLink 3 .boolean (kRm 2 0 0) D (tyA cy) [] [.ref (a 0), .int (x), .int (y)] (X ++ mB cy a τ) (X ++ mB cy a τ) (b2i (mHas τ x y)) 0 0 := by
  intro sz
  refine kmet (own := RX3) (by decide) rfl (Nat.le_of_ble_eq_true rfl) (fun p e s m args below meth c S hr hlk hK hN hP hD hsz hA hnm ls hl => ?_)
  have hS : va_S (va_A (X ++ mB cy a τ) sz) s.heap s.heap [] := va_S.rf
  have hl : lv_has ls 3 [(0, .ref (a 0)), (1, .int (x)), (2, .int (y))] := hl
  refine lv_iload_n S.1 S.2.1 dX3_haveLink_0 rfl (lv_at hl 1 rfl) ?_
  refine call_X3_isNode S hK hN hP hD hS hA (x := x)  hl.1 (Nat.le_of_ble_eq_true rfl) ⟨Nat.le_of_ble_eq_true rfl, Nat.le_of_ble_eq_true rfl⟩ dX3_haveLink_1 ⟨Nat.le_refl _, Nat.le_refl _⟩ (fun H locs hP hD hS => ?_)
  refine kb_eq (tgt := 32) S dX3_haveLink_4 (by decide) (fun c1 => ?_) (fun c1 => ?_)
  · refine lv_iconst (v := (nI 0)) S.1 S.2.1 dX3_haveLink_32 (by decide) ?_
    exact kret_z S hr hlk hP hD hS (by first | rfl | exact b2i_nar _) (by rw [show mHas τ x y = false from (by first | (simp only [mHas, c1, reduceIte, Bool.false_eq_true, eq_self_iff_true, if_true, if_false]; done) | with_reducible rfl)]; decide) dX3_haveLink_33
  · obtain ⟨x1, hx1, rfl⟩ := isN_of c1
    refine lv_iload_n S.1 S.2.1 dX3_haveLink_7 rfl (lv_at hl 2 rfl) ?_
    refine call_X3_isNode S hK hN hP hD hS hA (x := y)  hl.1 (Nat.le_of_ble_eq_true rfl) ⟨Nat.le_of_ble_eq_true rfl, Nat.le_of_ble_eq_true rfl⟩ dX3_haveLink_8 ⟨Nat.le_refl _, Nat.le_refl _⟩ (fun H locs hP hD hS => ?_)
    refine kb_eq (tgt := 32) S dX3_haveLink_11 (by decide) (fun c2 => ?_) (fun c2 => ?_)
    · refine lv_iconst (v := (nI 0)) S.1 S.2.1 dX3_haveLink_32 (by decide) ?_
      exact kret_z S hr hlk hP hD hS (by first | rfl | exact b2i_nar _) (by rw [show mHas τ (nI x1) y = false from (by first | (simp only [mHas, c1, cl8 hx1, c2, reduceIte, Bool.false_eq_true, eq_self_iff_true, if_true, if_false]; done) | with_reducible rfl)]; decide) dX3_haveLink_33
    · obtain ⟨y1, hy1, rfl⟩ := isN_of c2
      refine lv_aload_n S.1 S.2.1 dX3_haveLink_14 rfl (lv_at hl 0 rfl) ?_
      refine mf_joined S hK hP dX3_haveLink_15 ?_
      refine lv_bipush (v := (nI 8)) S.1 S.2.1 dX3_haveLink_18 (by decide) ?_
      refine lv_iload_n S.1 S.2.1 dX3_haveLink_20 rfl (lv_at hl 1 rfl) ?_
      refine lv_imul S.1 S.2.1 dX3_haveLink_21 ?_
      refine k_top (pk_mul _ _) ?_
      refine lv_iload_n S.1 S.2.1 dX3_haveLink_22 rfl (lv_at hl 2 rfl) ?_
      refine lv_iadd S.1 S.2.1 dX3_haveLink_23 ?_
      refine k_top (nI_add _ _) ?_
      refine ma_joined S hK hP (j := ((8 * x1) + y1)) (by omega) dX3_haveLink_24 ?_
      refine lv_if_eq (tgt := 32) S.1 S.2.1 dX3_haveLink_25 (by decide) (fun c3 => ?_) (fun c3 => ?_)
      · refine lv_iconst (v := (nI 0)) S.1 S.2.1 dX3_haveLink_32 (by decide) ?_
        exact kret_z S hr hlk hP hD hS (by first | rfl | exact b2i_nar _) (by rw [show mHas τ (nI x1) (nI y1) = false from (by first | (simp only [mHas, c1, cl8 hx1, c2, cl8 hy1, eq_true c3, reduceIte, Bool.false_eq_true, eq_self_iff_true, if_true, if_false]; done) | with_reducible rfl)]; decide) dX3_haveLink_33
      · refine lv_iconst (v := (nI 1)) S.1 S.2.1 dX3_haveLink_28 (by decide) ?_
        refine lv_goto (tgt := 33) S.1 S.2.1 dX3_haveLink_29 (by decide) ?_
        exact kret_z S hr hlk hP hD hS (by first | rfl | exact b2i_nar _) (by rw [show mHas τ (nI x1) (nI y1) = true from (by first | (simp only [mHas, c1, cl8 hx1, c2, cl8 hy1, c3, reduceIte, Bool.false_eq_true, eq_self_iff_true, if_true, if_false]; done) | with_reducible rfl)]; decide) dX3_haveLink_33
theorem call_X3_haveLink {p : Program} {l : Launch} {e : Env} {R : Room} {s : State} {m : MethodId} {args : Array Value} {below : List Frame} {meth : Method} {c : Code} {H : Heap} {locs : List Loc} {cells slots : Nat} {Q : State → Prop} {cc : ByteArray} {pc nL : Nat} {ls : Array Slot} {rest : List Value} {D : va_G} {A : Nat → Prop} {w0 : Cond} {X : va_W} {cy : Nat → ClassId} {a : Nat → Nat} {τ : MS} (S : CallFix p m c cc nL s args (w0 :: gw) RX3) (hK : va_K D vwCl (tyA cy) s) (hN : kN [] s) (hP : va_P D vwCl (X ++ mB cy a τ) H) (hD : va_D A (X ++ mB cy a τ)) (hS : va_S A s.heap H locs) (hA : ∀ q, s.heap.size ≤ q → A q) {x : Int32} {y : Int32}  (hsz : ls.size = nL) (hW : (rest.map fun v => v.category).sum ≤ 8) (hR : 2 + 1 ≤ R.frames ∧ 8 + (3 + 11) + 32 * 2 ≤ R.locals) (hdg : decode cc pc = .ok (.invokevirtual 124, 3)) (hfc : cells ≤ R.cells ∧ slots ≤ R.slots)
    (kk : ∀ (H1 : Heap) (locs1 : List Loc), va_P D vwCl (X ++ mB cy a τ) H1 → va_D A (X ++ mB cy a τ) → va_S A s.heap H1 locs1 → W p l e R s m args below meth c H1 locs1 cells slots Q (F0 m (pc + 3) ls (.int (b2i (mHas τ x y)) :: rest))) : W p l e R s m args below meth c H locs cells slots Q (F0 m pc ls (.int (y) :: .int (x) :: .ref (a 0) :: rest)) :=
  kgo_i (va_runV (As := [.int (x), .int (y)]) (rest := rest) S (c_X3_haveLink l D cy a X τ x y  H.size) (cwV 2 S.2.2.2.2 (gw_good_1 wm_607 (gw_good_1 wm_609 (gw_good_1 wm_37 (gw_good_1 wm_50 (gw_good_in wm_610))))) rfl rfl rfl (by decide +kernel) hR) ⟨kblind kNok.nil, mrecv hK hP, kpre kNok.nil hN hK hP hD⟩ rfl rfl hsz rfl (lv_room hW) hdg hfc) hD hS hA kk
set_option maxHeartbeats 400000 in
set_option maxRecDepth 100000 in
theorem c_X3_carries (l : Launch) (D : va_G) (cy : Nat → ClassId) (a : Nat → Nat) (X : va_W) (τ : MS) (u : Nat) (v : Nat) (hu : u < 8) (hv : v < 8) : MetI l yX3_carries cX3_carries 3 .boolean (kRm 0 0 0) D (tyA cy) [] [.ref (a 0), .int (nI (u)), .int (nI (v))] (X ++ mB cy a τ) (X ++ mB cy a τ) (b2i (mCarr τ u v)) 0 0 := by
  intro sz
  refine kmet (own := RX3) (by decide) rfl (Nat.le_of_ble_eq_true rfl) (fun p e s m args below meth c S hr hlk hK hN hP hD hsz hA hnm ls hl => ?_)
  have hS : va_S (va_A (X ++ mB cy a τ) sz) s.heap s.heap [] := va_S.rf
  have hl : lv_has ls 3 [(0, .ref (a 0)), (1, .int (nI (u))), (2, .int (nI (v)))] := hl
  refine lv_aload_n S.1 S.2.1 dX3_carries_0 rfl (lv_at hl 0 rfl) ?_
  refine mf_joined S hK hP dX3_carries_1 ?_
  refine lv_bipush (v := (nI 8)) S.1 S.2.1 dX3_carries_4 (by decide) ?_
  refine lv_iload_n S.1 S.2.1 dX3_carries_6 rfl (lv_at hl 1 rfl) ?_
  refine lv_imul S.1 S.2.1 dX3_carries_7 ?_
  refine k_top (pk_mul _ _) ?_
  refine lv_iload_n S.1 S.2.1 dX3_carries_8 rfl (lv_at hl 2 rfl) ?_
  refine lv_iadd S.1 S.2.1 dX3_carries_9 ?_
  refine k_top (nI_add _ _) ?_
  refine ma_joined S hK hP (j := ((8 * u) + v)) (by omega) dX3_carries_10 ?_
  refine lv_if_eq (tgt := 50) S.1 S.2.1 dX3_carries_11 (by decide) (fun c1 => ?_) (fun c1 => ?_)
  · refine lv_iconst (v := (nI 0)) S.1 S.2.1 dX3_carries_50 (by decide) ?_
    exact kret_z S hr hlk hP hD hS (by first | rfl | exact b2i_nar _) (by rw [show mCarr τ u v = false from (by first | (simp only [mCarr, eq_true c1, reduceIte, Bool.false_eq_true, eq_self_iff_true, if_true, if_false]; done) | with_reducible rfl)]; decide) dX3_carries_51
  · refine lv_aload_n S.1 S.2.1 dX3_carries_14 rfl (lv_at hl 0 rfl) ?_
    refine mf_up S hK hP dX3_carries_15 ?_
    refine lv_bipush (v := (nI 8)) S.1 S.2.1 dX3_carries_18 (by decide) ?_
    refine lv_iload_n S.1 S.2.1 dX3_carries_20 rfl (lv_at hl 1 rfl) ?_
    refine lv_imul S.1 S.2.1 dX3_carries_21 ?_
    refine k_top (pk_mul _ _) ?_
    refine lv_iload_n S.1 S.2.1 dX3_carries_22 rfl (lv_at hl 2 rfl) ?_
    refine lv_iadd S.1 S.2.1 dX3_carries_23 ?_
    refine k_top (nI_add _ _) ?_
    refine ma_up S hK hP (j := ((8 * u) + v)) (by omega) dX3_carries_24 ?_
    refine lv_if_eq (tgt := 50) S.1 S.2.1 dX3_carries_25 (by decide) (fun c2 => ?_) (fun c2 => ?_)
    · refine lv_iconst (v := (nI 0)) S.1 S.2.1 dX3_carries_50 (by decide) ?_
      exact kret_z S hr hlk hP hD hS (by first | rfl | exact b2i_nar _) (by rw [show mCarr τ u v = false from (by first | (simp only [mCarr, c1, eq_true c2, reduceIte, Bool.false_eq_true, eq_self_iff_true, if_true, if_false]; done) | with_reducible rfl)]; decide) dX3_carries_51
    · refine lv_aload_n S.1 S.2.1 dX3_carries_28 rfl (lv_at hl 0 rfl) ?_
      refine mf_there S hK hP dX3_carries_29 ?_
      refine lv_iload_n S.1 S.2.1 dX3_carries_32 rfl (lv_at hl 1 rfl) ?_
      refine ma_there S hK hP (j := u) (by omega) dX3_carries_33 ?_
      refine lv_if_eq (tgt := 50) S.1 S.2.1 dX3_carries_34 (by decide) (fun c3 => ?_) (fun c3 => ?_)
      · refine lv_iconst (v := (nI 0)) S.1 S.2.1 dX3_carries_50 (by decide) ?_
        exact kret_z S hr hlk hP hD hS (by first | rfl | exact b2i_nar _) (by rw [show mCarr τ u v = false from (by first | (simp only [mCarr, c1, c2, eq_true c3, reduceIte, Bool.false_eq_true, eq_self_iff_true, if_true, if_false]; done) | with_reducible rfl)]; decide) dX3_carries_51
      · refine lv_aload_n S.1 S.2.1 dX3_carries_37 rfl (lv_at hl 0 rfl) ?_
        refine mf_there S hK hP dX3_carries_38 ?_
        refine lv_iload_n S.1 S.2.1 dX3_carries_41 rfl (lv_at hl 2 rfl) ?_
        refine ma_there S hK hP (j := v) (by omega) dX3_carries_42 ?_
        refine lv_if_eq (tgt := 50) S.1 S.2.1 dX3_carries_43 (by decide) (fun c4 => ?_) (fun c4 => ?_)
        · refine lv_iconst (v := (nI 0)) S.1 S.2.1 dX3_carries_50 (by decide) ?_
          exact kret_z S hr hlk hP hD hS (by first | rfl | exact b2i_nar _) (by rw [show mCarr τ u v = false from (by first | (simp only [mCarr, c1, c2, c3, eq_true c4, reduceIte, Bool.false_eq_true, eq_self_iff_true, if_true, if_false]; done) | with_reducible rfl)]; decide) dX3_carries_51
        · refine lv_iconst (v := (nI 1)) S.1 S.2.1 dX3_carries_46 (by decide) ?_
          refine lv_goto (tgt := 51) S.1 S.2.1 dX3_carries_47 (by decide) ?_
          exact kret_z S hr hlk hP hD hS (by first | rfl | exact b2i_nar _) (by rw [show mCarr τ u v = true from (by first | (simp only [mCarr, c1, c2, c3, c4, reduceIte, Bool.false_eq_true, eq_self_iff_true, if_true, if_false]; done) | with_reducible rfl)]; decide) dX3_carries_51
theorem call_X3_carries {p : Program} {l : Launch} {e : Env} {R : Room} {s : State} {m : MethodId} {args : Array Value} {below : List Frame} {meth : Method} {c : Code} {H : Heap} {locs : List Loc} {cells slots : Nat} {Q : State → Prop} {cc : ByteArray} {pc nL : Nat} {ls : Array Slot} {rest : List Value} {D : va_G} {A : Nat → Prop} {w0 : Cond} {X : va_W} {cy : Nat → ClassId} {a : Nat → Nat} {τ : MS} (S : CallFix p m c cc nL s args (w0 :: gw) RX3) (hK : va_K D vwCl (tyA cy) s) (hN : kN [] s) (hP : va_P D vwCl (X ++ mB cy a τ) H) (hD : va_D A (X ++ mB cy a τ)) (hS : va_S A s.heap H locs) (hA : ∀ q, s.heap.size ≤ q → A q) {u : Nat} {v : Nat} (hu : u < 8) (hv : v < 8) (hsz : ls.size = nL) (hW : (rest.map fun v => v.category).sum ≤ 8) (hR : 0 + 1 ≤ R.frames ∧ 8 + (3 + 11) + 32 * 0 ≤ R.locals) (hdg : decode cc pc = .ok (.invokevirtual 92, 3)) (hfc : cells ≤ R.cells ∧ slots ≤ R.slots)
    (kk : ∀ (H1 : Heap) (locs1 : List Loc), va_P D vwCl (X ++ mB cy a τ) H1 → va_D A (X ++ mB cy a τ) → va_S A s.heap H1 locs1 → W p l e R s m args below meth c H1 locs1 cells slots Q (F0 m (pc + 3) ls (.int (b2i (mCarr τ u v)) :: rest))) : W p l e R s m args below meth c H locs cells slots Q (F0 m pc ls (.int (nI (v)) :: .int (nI (u)) :: .ref (a 0) :: rest)) :=
  kgo_i (va_runV (As := [.int (nI (u)), .int (nI (v))]) (rest := rest) S (c_X3_carries l D cy a X τ u v hu hv H.size) (cwV 2 S.2.2.2.2 (gw_good_1 wm_591 (gw_good_1 wm_593 (gw_good_1 wm_34 (gw_good_1 wm_50 (gw_good_in wm_594))))) rfl rfl rfl (by decide +kernel) hR) ⟨kblind kNok.nil, mrecv hK hP, kpre kNok.nil hN hK hP hD⟩ rfl rfl hsz rfl (lv_room hW) hdg hfc) hD hS hA kk
set_option maxHeartbeats 400000 in
set_option maxRecDepth 100000 in
theorem c_X3_pass (l : Launch) (D : va_G) (cy : Nat → ClassId) (a : Nat → Nat) (X : va_W) (τ : MS) (u : Nat) (v : Nat) (o : Nat) (hu : u < 8) (hv : v < 8) (ho : o < 8) : MetV l yX3_pass cX3_pass 7 (kRm 1 0 0) D (tyA cy) [] [.ref (a 0), .int (nI (u)), .int (nI (v)), .int (nI (o))] (X ++ mB cy a τ) (X ++ mB cy a (mPass u v o τ)) 0 0 := by
  intro sz
  refine kmet (own := RX3) (by decide) rfl (Nat.le_of_ble_eq_true rfl) (fun p e s m args below meth c S hr hlk hK hN hP hD hsz hA hnm ls hl => ?_)
  have hS : va_S (va_A (X ++ mB cy a τ) sz) s.heap s.heap [] := va_S.rf
  have hl : lv_has ls 7 [(0, .ref (a 0)), (1, .int (nI (u))), (2, .int (nI (v))), (3, .int (nI (o)))] := hl
  refine lv_bipush (v := (nI 8)) S.1 S.2.1 dX3_pass_0 (by decide) ?_
  refine lv_iload_n S.1 S.2.1 dX3_pass_2 rfl (lv_at hl 1 rfl) ?_
  refine lv_imul S.1 S.2.1 dX3_pass_3 ?_
  refine k_top (pk_mul _ _) ?_
  refine lv_iload_n S.1 S.2.1 dX3_pass_4 rfl (lv_at hl 3 rfl) ?_
  refine lv_iadd S.1 S.2.1 dX3_pass_5 ?_
  refine k_top (nI_add _ _) ?_
  refine lv_istore (lv' := [(4, .int (nI ((8 * u) + o))), (0, .ref (a 0)), (1, .int (nI (u))), (2, .int (nI (v))), (3, .int (nI (o)))]) S.1 S.2.1 dX3_pass_6 hl (by decide) rfl (fun ls hl => ?_)
  refine lv_bipush (v := (nI 64)) S.1 S.2.1 dX3_pass_8 (by decide) ?_
  refine lv_iload_n S.1 S.2.1 dX3_pass_10 rfl (lv_at hl 2 rfl) ?_
  refine lv_imul S.1 S.2.1 dX3_pass_11 ?_
  refine k_top (pk_mul _ _) ?_
  refine lv_bipush (v := (nI 8)) S.1 S.2.1 dX3_pass_12 (by decide) ?_
  refine lv_iload_n S.1 S.2.1 dX3_pass_14 rfl (lv_at hl 3 rfl) ?_
  refine lv_imul S.1 S.2.1 dX3_pass_15 ?_
  refine k_top (pk_mul _ _) ?_
  refine lv_iadd S.1 S.2.1 dX3_pass_16 ?_
  refine k_top (nI_add _ _) ?_
  refine lv_iload_n S.1 S.2.1 dX3_pass_17 rfl (lv_at hl 4 rfl) ?_
  refine lv_iadd S.1 S.2.1 dX3_pass_18 ?_
  refine k_top (nI_add _ _) ?_
  refine lv_istore (lv' := [(5, .int (nI (((64 * u) + (8 * v)) + o))), (4, .int (nI ((8 * u) + o))), (0, .ref (a 0)), (1, .int (nI (u))), (2, .int (nI (v))), (3, .int (nI (o)))]) S.1 S.2.1 dX3_pass_19 hl (by decide) rfl (fun ls hl => ?_)
  refine lv_aload_n S.1 S.2.1 dX3_pass_21 rfl (lv_at hl 2 rfl) ?_
  refine mf_numbers S hK hP dX3_pass_22 ?_
  refine lv_iload S.1 S.2.1 dX3_pass_25 (lv_at hl 1 rfl) ?_
  refine ma_numbers S hK hP (j := ((8 * u) + o)) (by omega) dX3_pass_27 ?_
  refine lv_if_eq (tgt := 57) S.1 S.2.1 dX3_pass_28 (by decide) (fun c1 => ?_) (fun c1 => ?_)
  · have e9 : mPass u v o τ = τ := by first | (simp only [mPass, mP3, mP2, mP1, eq_true c1, reduceIte, Bool.false_eq_true, eq_self_iff_true, if_true, if_false]; done) | with_reducible rfl
    rw [e9]
    exact kret_v S hr hlk hP hD hS dX3_pass_57
  · refine lv_aload_n S.1 S.2.1 dX3_pass_31 rfl (lv_at hl 2 rfl) ?_
    refine lv_iload_n S.1 S.2.1 dX3_pass_32 rfl (lv_at hl 3 rfl) ?_
    refine lv_iload_n S.1 S.2.1 dX3_pass_33 rfl (lv_at hl 4 rfl) ?_
    refine call_X3_carries S hK hN hP hD hS hA (u := u) (v := v) (by omega) (by omega) hl.1 (Nat.le_of_ble_eq_true rfl) ⟨Nat.le_of_ble_eq_true rfl, Nat.le_of_ble_eq_true rfl⟩ dX3_pass_34 ⟨Nat.le_refl _, Nat.le_refl _⟩ (fun H locs hP hD hS => ?_)
    refine kb_eq (tgt := 57) S dX3_pass_37 (by decide) (fun c2 => ?_) (fun c2 => ?_)
    · have e9 : mPass u v o τ = τ := by first | (simp only [mPass, mP3, mP2, mP1, c1, c2, reduceIte, Bool.false_eq_true, eq_self_iff_true, if_true, if_false]; done) | with_reducible rfl
      rw [e9]
      exact kret_v S hr hlk hP hD hS dX3_pass_57
    · refine lv_aload_n S.1 S.2.1 dX3_pass_40 rfl (lv_at hl 2 rfl) ?_
      refine mf_flightNumbers S hK hP dX3_pass_41 ?_
      refine lv_iload S.1 S.2.1 dX3_pass_44 (lv_at hl 0 rfl) ?_
      refine ma_flightNumbers S hK hP (j := (((64 * u) + (8 * v)) + o)) (by omega) dX3_pass_46 ?_
      refine lv_aload_n S.1 S.2.1 dX3_pass_47 rfl (lv_at hl 2 rfl) ?_
      refine mf_numbers S hK hP dX3_pass_48 ?_
      refine lv_iload S.1 S.2.1 dX3_pass_51 (lv_at hl 1 rfl) ?_
      refine ma_numbers S hK hP (j := ((8 * u) + o)) (by omega) dX3_pass_53 ?_
      refine lv_icmp_lt (tgt := 58) S.1 S.2.1 dX3_pass_54 (by decide) (fun c3 => ?_) (fun c3 => ?_)
      · refine lv_aload_n S.1 S.2.1 dX3_pass_58 rfl (lv_at hl 2 rfl) ?_
        refine mf_flightNumbers S hK hP dX3_pass_59 ?_
        refine lv_iload S.1 S.2.1 dX3_pass_62 (lv_at hl 0 rfl) ?_
        refine lv_aload_n S.1 S.2.1 dX3_pass_64 rfl (lv_at hl 2 rfl) ?_
        refine mf_numbers S hK hP dX3_pass_65 ?_
        refine lv_iload S.1 S.2.1 dX3_pass_68 (lv_at hl 1 rfl) ?_
        refine ma_numbers S hK hP (j := ((8 * u) + o)) (by omega) dX3_pass_70 ?_
        refine ms_flightNumbers S hK hP hD hS (j := (((64 * u) + (8 * v)) + o)) (by omega) dX3_pass_71 (fun H locs hP hD hS => ?_)
        refine lv_aload_n S.1 S.2.1 dX3_pass_72 rfl (lv_at hl 2 rfl) ?_
        refine mf_flightAges S hK hP dX3_pass_73 ?_
        refine lv_iload S.1 S.2.1 dX3_pass_76 (lv_at hl 0 rfl) ?_
        refine lv_aload_n S.1 S.2.1 dX3_pass_78 rfl (lv_at hl 2 rfl) ?_
        refine mf_ages S hK hP dX3_pass_79 ?_
        refine lv_iload S.1 S.2.1 dX3_pass_82 (lv_at hl 1 rfl) ?_
        refine ma_ages S hK hP (j := ((8 * u) + o)) (by omega) dX3_pass_84 ?_
        refine ms_flightAges S hK hP hD hS (j := (((64 * u) + (8 * v)) + o)) (by omega) dX3_pass_85 (fun H locs hP hD hS => ?_)
        refine lv_aload_n S.1 S.2.1 dX3_pass_86 rfl (lv_at hl 2 rfl) ?_
        refine mf_flightTimes S hK hP dX3_pass_87 ?_
        refine lv_iload S.1 S.2.1 dX3_pass_90 (lv_at hl 0 rfl) ?_
        refine lv_aload_n S.1 S.2.1 dX3_pass_92 rfl (lv_at hl 2 rfl) ?_
        refine mf_time S hK hP dX3_pass_93 ?_
        refine lv_aload_n S.1 S.2.1 dX3_pass_96 rfl (lv_at hl 2 rfl) ?_
        refine mf_delays S hK hP dX3_pass_97 ?_
        refine lv_bipush (v := (nI 8)) S.1 S.2.1 dX3_pass_100 (by decide) ?_
        refine lv_iload_n S.1 S.2.1 dX3_pass_102 rfl (lv_at hl 3 rfl) ?_
        refine lv_imul S.1 S.2.1 dX3_pass_103 ?_
        refine k_top (pk_mul _ _) ?_
        refine lv_iload_n S.1 S.2.1 dX3_pass_104 rfl (lv_at hl 4 rfl) ?_
        refine lv_iadd S.1 S.2.1 dX3_pass_105 ?_
        refine k_top (nI_add _ _) ?_
        refine ma_delays S hK hP (j := ((8 * u) + v)) (by omega) dX3_pass_106 ?_
        refine lv_iadd S.1 S.2.1 dX3_pass_107 ?_
        refine ms_flightTimes S hK hP hD hS (j := (((64 * u) + (8 * v)) + o)) (by omega) dX3_pass_108 (fun H locs hP hD hS => ?_)
        refine lv_iconst (v := (nI 0)) S.1 S.2.1 dX3_pass_109 (by decide) ?_
        refine lv_istore (lv' := [(6, .int (nI 0)), (5, .int (nI (((64 * u) + (8 * v)) + o))), (4, .int (nI ((8 * u) + o))), (0, .ref (a 0)), (1, .int (nI (u))), (2, .int (nI (v))), (3, .int (nI (o)))]) S.1 S.2.1 dX3_pass_110 hl (by decide) rfl (fun ls hl => ?_)
        have lp4 : ∀ (n4 i4 : Nat) (τ4 : MS), i4 + n4 = 8 → itr (fPass (8 * u + o) (64 * u + 8 * v + o)) n4 i4 τ4 = itr (fPass (8 * u + o) (64 * u + 8 * v + o)) 8 0 (mS 14 (((64 * u) + (8 * v)) + o) (((mS 13 (((64 * u) + (8 * v)) + o) ((mS 12 (((64 * u) + (8 * v)) + o) (τ 9 ((8 * u) + o)) τ) 10 ((8 * u) + o)) (mS 12 (((64 * u) + (8 * v)) + o) (τ 9 ((8 * u) + o)) τ)) 0 1) + ((mS 13 (((64 * u) + (8 * v)) + o) ((mS 12 (((64 * u) + (8 * v)) + o) (τ 9 ((8 * u) + o)) τ) 10 ((8 * u) + o)) (mS 12 (((64 * u) + (8 * v)) + o) (τ 9 ((8 * u) + o)) τ)) 7 ((8 * u) + v))) (mS 13 (((64 * u) + (8 * v)) + o) ((mS 12 (((64 * u) + (8 * v)) + o) (τ 9 ((8 * u) + o)) τ) 10 ((8 * u) + o)) (mS 12 (((64 * u) + (8 * v)) + o) (τ 9 ((8 * u) + o)) τ))) → ∀ (H : Heap) (locs : List Loc), va_P D vwCl (X ++ mB cy a τ4) H → va_D (va_A (X ++ mB cy a τ) sz) (X ++ mB cy a τ4) → va_S (va_A (X ++ mB cy a τ) sz) s.heap H locs → ∀ ls : Array Slot, lv_has ls 7 [(6, .int (nI (i4))), (5, .int (nI (((64 * u) + (8 * v)) + o))), (4, .int (nI ((8 * u) + o))), (0, .ref (a 0)), (1, .int (nI (u))), (2, .int (nI (v))), (3, .int (nI (o)))] → W p l e (kRm 1 0 0) s m args below meth c H locs 0 0 (MQ below (kQv D (X ++ mB cy a τ) (X ++ mB cy a (mPass u v o τ)) sz) args s 0 0 (va_A (X ++ mB cy a τ) sz)) (F0 m 112 ls []) := by
          intro n4
          induction n4 with
          | zero =>
            intro i4 τ4 hi4 he4 H locs hP hD hS ls hl
            have hi4 : i4 = 8 := by omega
            have he4 : τ4 = itr (fPass (8 * u + o) (64 * u + 8 * v + o)) 8 0 (mS 14 (((64 * u) + (8 * v)) + o) (((mS 13 (((64 * u) + (8 * v)) + o) ((mS 12 (((64 * u) + (8 * v)) + o) (τ 9 ((8 * u) + o)) τ) 10 ((8 * u) + o)) (mS 12 (((64 * u) + (8 * v)) + o) (τ 9 ((8 * u) + o)) τ)) 0 1) + ((mS 13 (((64 * u) + (8 * v)) + o) ((mS 12 (((64 * u) + (8 * v)) + o) (τ 9 ((8 * u) + o)) τ) 10 ((8 * u) + o)) (mS 12 (((64 * u) + (8 * v)) + o) (τ 9 ((8 * u) + o)) τ)) 7 ((8 * u) + v))) (mS 13 (((64 * u) + (8 * v)) + o) ((mS 12 (((64 * u) + (8 * v)) + o) (τ 9 ((8 * u) + o)) τ) 10 ((8 * u) + o)) (mS 12 (((64 * u) + (8 * v)) + o) (τ 9 ((8 * u) + o)) τ))) := he4
            refine lv_iload S.1 S.2.1 dX3_pass_112 (lv_at hl 0 rfl) ?_
            refine lv_bipush (v := (nI 8)) S.1 S.2.1 dX3_pass_114 (by decide) ?_
            refine lv_icmp_ge (tgt := 151) S.1 S.2.1 dX3_pass_116 (by decide) (fun _ => ?_) (fun c => absurd (nI_le (by omega) (by omega)) c)
            have e9 : mPass u v o τ = τ4 := by first | (simp only [mPass, mP3, mP2, mP1, c1, c2, c3, ← he4, reduceIte, Bool.false_eq_true, eq_self_iff_true, if_true, if_false]; done) | with_reducible rfl
            rw [e9]
            exact kret_v S hr hlk hP hD hS dX3_pass_151
          | succ n4 ih4 =>
            intro i4 τ4 hi4 he4 H locs hP hD hS ls hl
            have hlt4 : i4 < 8 := by omega
            refine lv_iload S.1 S.2.1 dX3_pass_112 (lv_at hl 0 rfl) ?_
            refine lv_bipush (v := (nI 8)) S.1 S.2.1 dX3_pass_114 (by decide) ?_
            refine lv_icmp_ge (tgt := 151) S.1 S.2.1 dX3_pass_116 (by decide) (fun c => absurd c (nI_ge (by omega) (by omega))) (fun _ => ?_)
            refine lv_aload_n S.1 S.2.1 dX3_pass_119 rfl (lv_at hl 3 rfl) ?_
            refine mf_flightTells S hK hP dX3_pass_120 ?_
            refine lv_bipush (v := (nI 8)) S.1 S.2.1 dX3_pass_123 (by decide) ?_
            refine lv_iload S.1 S.2.1 dX3_pass_125 (lv_at hl 1 rfl) ?_
            refine lv_imul S.1 S.2.1 dX3_pass_127 ?_
            refine k_top (pk_mul _ _) ?_
            refine lv_iload S.1 S.2.1 dX3_pass_128 (lv_at hl 0 rfl) ?_
            refine lv_iadd S.1 S.2.1 dX3_pass_130 ?_
            refine k_top (nI_add _ _) ?_
            refine lv_aload_n S.1 S.2.1 dX3_pass_131 rfl (lv_at hl 3 rfl) ?_
            refine mf_tells S hK hP dX3_pass_132 ?_
            refine lv_bipush (v := (nI 8)) S.1 S.2.1 dX3_pass_135 (by decide) ?_
            refine lv_iload S.1 S.2.1 dX3_pass_137 (lv_at hl 2 rfl) ?_
            refine lv_imul S.1 S.2.1 dX3_pass_139 ?_
            refine k_top (pk_mul _ _) ?_
            refine lv_iload S.1 S.2.1 dX3_pass_140 (lv_at hl 0 rfl) ?_
            refine lv_iadd S.1 S.2.1 dX3_pass_142 ?_
            refine k_top (nI_add _ _) ?_
            refine ma_tells S hK hP (j := ((8 * ((8 * u) + o)) + i4)) (by omega) dX3_pass_143 ?_
            refine ms_flightTells S hK hP hD hS (j := ((8 * (((64 * u) + (8 * v)) + o)) + i4)) (by omega) dX3_pass_144 (fun H locs hP hD hS => ?_)
            refine lv_iinc (v := (nI (i4 + 1))) (lv' := [(6, .int (nI (i4 + 1))), (5, .int (nI (((64 * u) + (8 * v)) + o))), (4, .int (nI ((8 * u) + o))), (0, .ref (a 0)), (1, .int (nI (u))), (2, .int (nI (v))), (3, .int (nI (o)))]) S.1 S.2.1 dX3_pass_145 hl (k := 0) rfl (nI_add _ 1) (by decide) rfl (fun ls hl => ?_)
            refine lv_goto (tgt := 112) S.1 S.2.1 dX3_pass_148 (by decide) ?_
            exact ih4 (i4 + 1) (mS 15 ((8 * (((64 * u) + (8 * v)) + o)) + i4) (τ4 11 ((8 * ((8 * u) + o)) + i4)) τ4) (by omega) (itr_step he4 (by first | (simp only [fPass, c1, c2, c3, reduceIte, Bool.false_eq_true, eq_self_iff_true, if_true, if_false]; done) | with_reducible rfl)) _ _ hP hD hS _ (lv_sub hl [0, 1, 2, 3, 4, 5, 6] rfl)
        exact lp4 8 0 (mS 14 (((64 * u) + (8 * v)) + o) (((mS 13 (((64 * u) + (8 * v)) + o) ((mS 12 (((64 * u) + (8 * v)) + o) (τ 9 ((8 * u) + o)) τ) 10 ((8 * u) + o)) (mS 12 (((64 * u) + (8 * v)) + o) (τ 9 ((8 * u) + o)) τ)) 0 1) + ((mS 13 (((64 * u) + (8 * v)) + o) ((mS 12 (((64 * u) + (8 * v)) + o) (τ 9 ((8 * u) + o)) τ) 10 ((8 * u) + o)) (mS 12 (((64 * u) + (8 * v)) + o) (τ 9 ((8 * u) + o)) τ)) 7 ((8 * u) + v))) (mS 13 (((64 * u) + (8 * v)) + o) ((mS 12 (((64 * u) + (8 * v)) + o) (τ 9 ((8 * u) + o)) τ) 10 ((8 * u) + o)) (mS 12 (((64 * u) + (8 * v)) + o) (τ 9 ((8 * u) + o)) τ))) (by omega) rfl _ _ hP hD hS _ (lv_sub hl [0, 1, 2, 3, 4, 5, 6] rfl)
      · have e9 : mPass u v o τ = τ := by first | (simp only [mPass, mP3, mP2, mP1, c1, c2, c3, reduceIte, Bool.false_eq_true, eq_self_iff_true, if_true, if_false]; done) | with_reducible rfl
        rw [e9]
        exact kret_v S hr hlk hP hD hS dX3_pass_57
theorem call_X3_pass {p : Program} {l : Launch} {e : Env} {R : Room} {s : State} {m : MethodId} {args : Array Value} {below : List Frame} {meth : Method} {c : Code} {H : Heap} {locs : List Loc} {cells slots : Nat} {Q : State → Prop} {cc : ByteArray} {pc nL : Nat} {ls : Array Slot} {rest : List Value} {D : va_G} {A : Nat → Prop} {w0 : Cond} {X : va_W} {cy : Nat → ClassId} {a : Nat → Nat} {τ : MS} (S : CallFix p m c cc nL s args (w0 :: gw) RX3) (hK : va_K D vwCl (tyA cy) s) (hN : kN [] s) (hP : va_P D vwCl (X ++ mB cy a τ) H) (hD : va_D A (X ++ mB cy a τ)) (hS : va_S A s.heap H locs) (hA : ∀ q, s.heap.size ≤ q → A q) {u : Nat} {v : Nat} {o : Nat} (hu : u < 8) (hv : v < 8) (ho : o < 8) (hsz : ls.size = nL) (hW : (rest.map fun v => v.category).sum ≤ 8) (hR : 1 + 1 ≤ R.frames ∧ 8 + (7 + 11) + 32 * 1 ≤ R.locals) (hdg : decode cc pc = .ok (.invokevirtual 99, 3)) (hfc : cells ≤ R.cells ∧ slots ≤ R.slots)
    (kk : ∀ (H1 : Heap) (locs1 : List Loc), va_P D vwCl (X ++ mB cy a (mPass u v o τ)) H1 → va_D A (X ++ mB cy a (mPass u v o τ)) → va_S A s.heap H1 locs1 → W p l e R s m args below meth c H1 locs1 cells slots Q (F0 m (pc + 3) ls (rest))) : W p l e R s m args below meth c H locs cells slots Q (F0 m pc ls (.int (nI (o)) :: .int (nI (v)) :: .int (nI (u)) :: .ref (a 0) :: rest)) :=
  kgo_v (va_runV (As := [.int (nI (u)), .int (nI (v)), .int (nI (o))]) (rest := rest) S (c_X3_pass l D cy a X τ u v o hu hv ho H.size) (cwV 3 S.2.2.2.2 (gw_good_1 wm_595 (gw_good_1 wm_597 (gw_good_1 wm_35 (gw_good_1 wm_50 (gw_good_in wm_598))))) rfl rfl rfl (by decide +kernel) hR) ⟨kblind kNok.nil, mrecv hK hP, kpre kNok.nil hN hK hP hD⟩ rfl rfl hsz rfl (lv_room hW) hdg hfc) hD hS hA kk
set_option maxHeartbeats 400000 in
set_option maxRecDepth 100000 in
theorem c_X3_tell (l : Launch) (D : va_G) (cy : Nat → ClassId) (a : Nat → Nat) (X : va_W) (τ : MS) (u : Nat) (hu : u < 8) : MetV l yX3_tell cX3_tell 4 (kRm 2 0 0) D (tyA cy) [] [.ref (a 0), .int (nI (u))] (X ++ mB cy a τ) (X ++ mB cy a (mTell u τ)) 0 0 := by
  intro sz
  refine kmet (own := RX3) (by decide) rfl (Nat.le_of_ble_eq_true rfl) (fun p e s m args below meth c S hr hlk hK hN hP hD hsz hA hnm ls hl => ?_)
  have hS : va_S (va_A (X ++ mB cy a τ) sz) s.heap s.heap [] := va_S.rf
  have hl : lv_has ls 4 [(0, .ref (a 0)), (1, .int (nI (u)))] := hl
  refine lv_aload_n S.1 S.2.1 dX3_tell_0 rfl (lv_at hl 0 rfl) ?_
  refine mf_made S hK hP dX3_tell_1 ?_
  refine lv_iload_n S.1 S.2.1 dX3_tell_4 rfl (lv_at hl 1 rfl) ?_
  refine lv_dup2_11 S.1 S.2.1 dX3_tell_5 rfl rfl ?_
  refine ma_made S hK hP (j := u) (by omega) dX3_tell_6 ?_
  refine lv_iconst (v := (nI 1)) S.1 S.2.1 dX3_tell_7 (by decide) ?_
  refine lv_iadd S.1 S.2.1 dX3_tell_8 ?_
  refine ms_made S hK hP hD hS (j := u) (by omega) dX3_tell_9 (fun H locs hP hD hS => ?_)
  refine lv_bipush (v := (nI 8)) S.1 S.2.1 dX3_tell_10 (by decide) ?_
  refine lv_iload_n S.1 S.2.1 dX3_tell_12 rfl (lv_at hl 1 rfl) ?_
  refine lv_imul S.1 S.2.1 dX3_tell_13 ?_
  refine k_top (pk_mul _ _) ?_
  refine lv_iload_n S.1 S.2.1 dX3_tell_14 rfl (lv_at hl 1 rfl) ?_
  refine lv_iadd S.1 S.2.1 dX3_tell_15 ?_
  refine k_top (nI_add _ _) ?_
  refine lv_istore_n (lv' := [(2, .int (nI ((8 * u) + u))), (0, .ref (a 0)), (1, .int (nI (u)))]) S.1 S.2.1 dX3_tell_16 rfl hl (by decide) rfl (fun ls hl => ?_)
  refine lv_aload_n S.1 S.2.1 dX3_tell_17 rfl (lv_at hl 1 rfl) ?_
  refine mf_numbers S hK hP dX3_tell_18 ?_
  refine lv_iload_n S.1 S.2.1 dX3_tell_21 rfl (lv_at hl 0 rfl) ?_
  refine lv_aload_n S.1 S.2.1 dX3_tell_22 rfl (lv_at hl 1 rfl) ?_
  refine mf_made S hK hP dX3_tell_23 ?_
  refine lv_iload_n S.1 S.2.1 dX3_tell_26 rfl (lv_at hl 2 rfl) ?_
  refine ma_made S hK hP (j := u) (by omega) dX3_tell_27 ?_
  refine ms_numbers S hK hP hD hS (j := ((8 * u) + u)) (by omega) dX3_tell_28 (fun H locs hP hD hS => ?_)
  refine lv_aload_n S.1 S.2.1 dX3_tell_29 rfl (lv_at hl 1 rfl) ?_
  refine mf_ages S hK hP dX3_tell_30 ?_
  refine lv_iload_n S.1 S.2.1 dX3_tell_33 rfl (lv_at hl 0 rfl) ?_
  refine lv_iconst (v := (nI 0)) S.1 S.2.1 dX3_tell_34 (by decide) ?_
  refine ms_ages S hK hP hD hS (j := ((8 * u) + u)) (by omega) dX3_tell_35 (fun H locs hP hD hS => ?_)
  refine lv_iconst (v := (nI 0)) S.1 S.2.1 dX3_tell_36 (by decide) ?_
  refine lv_istore_n (lv' := [(3, .int (nI 0)), (2, .int (nI ((8 * u) + u))), (0, .ref (a 0)), (1, .int (nI (u)))]) S.1 S.2.1 dX3_tell_37 rfl hl (by decide) rfl (fun ls hl => ?_)
  have lp1 : ∀ (n1 i1 : Nat) (τ1 : MS), i1 + n1 = 8 → itr (fT1 u) n1 i1 τ1 = itr (fT1 u) 8 0 (mS 10 ((8 * u) + u) (nI 0) (mS 9 ((8 * u) + u) ((mS 3 u ((τ 3 u) + (nI 1)) τ) 3 u) (mS 3 u ((τ 3 u) + (nI 1)) τ))) → ∀ (H : Heap) (locs : List Loc), va_P D vwCl (X ++ mB cy a τ1) H → va_D (va_A (X ++ mB cy a τ) sz) (X ++ mB cy a τ1) → va_S (va_A (X ++ mB cy a τ) sz) s.heap H locs → ∀ ls : Array Slot, lv_has ls 4 [(3, .int (nI (i1))), (2, .int (nI ((8 * u) + u))), (0, .ref (a 0)), (1, .int (nI (u)))] → W p l e (kRm 2 0 0) s m args below meth c H locs 0 0 (MQ below (kQv D (X ++ mB cy a τ) (X ++ mB cy a (mTell u τ)) sz) args s 0 0 (va_A (X ++ mB cy a τ) sz)) (F0 m 38 ls []) := by
    intro n1
    induction n1 with
    | zero =>
      intro i1 τ1 hi1 he1 H locs hP hD hS ls hl
      have hi1 : i1 = 8 := by omega
      have he1 : τ1 = itr (fT1 u) 8 0 (mS 10 ((8 * u) + u) (nI 0) (mS 9 ((8 * u) + u) ((mS 3 u ((τ 3 u) + (nI 1)) τ) 3 u) (mS 3 u ((τ 3 u) + (nI 1)) τ))) := he1
      refine lv_iload_n S.1 S.2.1 dX3_tell_38 rfl (lv_at hl 0 rfl) ?_
      refine lv_bipush (v := (nI 8)) S.1 S.2.1 dX3_tell_39 (by decide) ?_
      refine lv_icmp_ge (tgt := 85) S.1 S.2.1 dX3_tell_41 (by decide) (fun _ => ?_) (fun c => absurd (nI_le (by omega) (by omega)) c)
      refine lv_iconst (v := (nI 0)) S.1 S.2.1 dX3_tell_85 (by decide) ?_
      refine lv_istore_n (lv' := [(3, .int (nI 0)), (2, .int (nI ((8 * u) + u))), (0, .ref (a 0)), (1, .int (nI (u)))]) S.1 S.2.1 dX3_tell_86 rfl hl (by decide) rfl (fun ls hl => ?_)
      have lp3 : ∀ (n3 i3 : Nat) (τ3 : MS), i3 + n3 = 8 → itr (fT2 u) n3 i3 τ3 = itr (fT2 u) 8 0 τ1 → ∀ (H : Heap) (locs : List Loc), va_P D vwCl (X ++ mB cy a τ3) H → va_D (va_A (X ++ mB cy a τ) sz) (X ++ mB cy a τ3) → va_S (va_A (X ++ mB cy a τ) sz) s.heap H locs → ∀ ls : Array Slot, lv_has ls 4 [(3, .int (nI (i3))), (2, .int (nI ((8 * u) + u))), (0, .ref (a 0)), (1, .int (nI (u)))] → W p l e (kRm 2 0 0) s m args below meth c H locs 0 0 (MQ below (kQv D (X ++ mB cy a τ) (X ++ mB cy a (mTell u τ)) sz) args s 0 0 (va_A (X ++ mB cy a τ) sz)) (F0 m 87 ls []) := by
        intro n3
        induction n3 with
        | zero =>
          intro i3 τ3 hi3 he3 H locs hP hD hS ls hl
          have hi3 : i3 = 8 := by omega
          have he3 : τ3 = itr (fT2 u) 8 0 τ1 := he3
          refine lv_iload_n S.1 S.2.1 dX3_tell_87 rfl (lv_at hl 0 rfl) ?_
          refine lv_bipush (v := (nI 8)) S.1 S.2.1 dX3_tell_88 (by decide) ?_
          refine lv_icmp_ge (tgt := 106) S.1 S.2.1 dX3_tell_90 (by decide) (fun _ => ?_) (fun c => absurd (nI_le (by omega) (by omega)) c)
          have e9 : mTell u τ = τ3 := by first | (simp only [mTell, mT3, mT2, mT1, ← he1, ← he3, reduceIte, Bool.false_eq_true, eq_self_iff_true, if_true, if_false]; done) | with_reducible rfl
          rw [e9]
          exact kret_v S hr hlk hP hD hS dX3_tell_106
        | succ n3 ih3 =>
          intro i3 τ3 hi3 he3 H locs hP hD hS ls hl
          have hlt3 : i3 < 8 := by omega
          refine lv_iload_n S.1 S.2.1 dX3_tell_87 rfl (lv_at hl 0 rfl) ?_
          refine lv_bipush (v := (nI 8)) S.1 S.2.1 dX3_tell_88 (by decide) ?_
          refine lv_icmp_ge (tgt := 106) S.1 S.2.1 dX3_tell_90 (by decide) (fun c => absurd c (nI_ge (by omega) (by omega))) (fun _ => ?_)
          refine lv_aload_n S.1 S.2.1 dX3_tell_93 rfl (lv_at hl 2 rfl) ?_
          refine lv_iload_n S.1 S.2.1 dX3_tell_94 rfl (lv_at hl 3 rfl) ?_
          refine lv_iload_n S.1 S.2.1 dX3_tell_95 rfl (lv_at hl 0 rfl) ?_
          refine lv_iload_n S.1 S.2.1 dX3_tell_96 rfl (lv_at hl 3 rfl) ?_
          refine call_X3_pass S hK hN hP hD hS hA (u := u) (v := i3) (o := u) (by omega) (by omega) (by omega) hl.1 (Nat.le_of_ble_eq_true rfl) ⟨Nat.le_of_ble_eq_true rfl, Nat.le_of_ble_eq_true rfl⟩ dX3_tell_97 ⟨Nat.le_refl _, Nat.le_refl _⟩ (fun H locs hP hD hS => ?_)
          refine lv_iinc (v := (nI (i3 + 1))) (lv' := [(3, .int (nI (i3 + 1))), (2, .int (nI ((8 * u) + u))), (0, .ref (a 0)), (1, .int (nI (u)))]) S.1 S.2.1 dX3_tell_100 hl (k := 0) rfl (nI_add _ 1) (by decide) rfl (fun ls hl => ?_)
          refine lv_goto (tgt := 87) S.1 S.2.1 dX3_tell_103 (by decide) ?_
          exact ih3 (i3 + 1) (mPass u i3 u τ3) (by omega) (itr_step he3 (by first | (simp only [fT2, ← he1, reduceIte, Bool.false_eq_true, eq_self_iff_true, if_true, if_false]; done) | with_reducible rfl)) _ _ hP hD hS _ (lv_sub hl [0, 1, 2, 3] rfl)
      exact lp3 8 0 τ1 (by omega) rfl _ _ hP hD hS _ (lv_sub hl [0, 1, 2, 3] rfl)
    | succ n1 ih1 =>
      intro i1 τ1 hi1 he1 H locs hP hD hS ls hl
      have hlt1 : i1 < 8 := by omega
      refine lv_iload_n S.1 S.2.1 dX3_tell_38 rfl (lv_at hl 0 rfl) ?_
      refine lv_bipush (v := (nI 8)) S.1 S.2.1 dX3_tell_39 (by decide) ?_
      refine lv_icmp_ge (tgt := 85) S.1 S.2.1 dX3_tell_41 (by decide) (fun c => absurd c (nI_ge (by omega) (by omega))) (fun _ => ?_)
      refine lv_aload_n S.1 S.2.1 dX3_tell_44 rfl (lv_at hl 2 rfl) ?_
      refine mf_tells S hK hP dX3_tell_45 ?_
      refine lv_bipush (v := (nI 8)) S.1 S.2.1 dX3_tell_48 (by decide) ?_
      refine lv_iload_n S.1 S.2.1 dX3_tell_50 rfl (lv_at hl 1 rfl) ?_
      refine lv_imul S.1 S.2.1 dX3_tell_51 ?_
      refine k_top (pk_mul _ _) ?_
      refine lv_iload_n S.1 S.2.1 dX3_tell_52 rfl (lv_at hl 0 rfl) ?_
      refine lv_iadd S.1 S.2.1 dX3_tell_53 ?_
      refine k_top (nI_add _ _) ?_
      refine lv_aload_n S.1 S.2.1 dX3_tell_54 rfl (lv_at hl 2 rfl) ?_
      refine lv_iload_n S.1 S.2.1 dX3_tell_55 rfl (lv_at hl 3 rfl) ?_
      refine lv_iload_n S.1 S.2.1 dX3_tell_56 rfl (lv_at hl 0 rfl) ?_
      refine call_X3_carries S hK hN hP hD hS hA (u := u) (v := i1) (by omega) (by omega) hl.1 (Nat.le_of_ble_eq_true rfl) ⟨Nat.le_of_ble_eq_true rfl, Nat.le_of_ble_eq_true rfl⟩ dX3_tell_57 ⟨Nat.le_refl _, Nat.le_refl _⟩ (fun H locs hP hD hS => ?_)
      refine kb_eq (tgt := 77) S dX3_tell_60 (by decide) (fun c7 => ?_) (fun c7 => ?_)
      · refine lv_iconst (v := (nI 0)) S.1 S.2.1 dX3_tell_77 (by decide) ?_
        refine ms_tells S hK hP hD hS (j := ((8 * ((8 * u) + u)) + i1)) (by omega) dX3_tell_78 (fun H locs hP hD hS => ?_)
        refine lv_iinc (v := (nI (i1 + 1))) (lv' := [(3, .int (nI (i1 + 1))), (2, .int (nI ((8 * u) + u))), (0, .ref (a 0)), (1, .int (nI (u)))]) S.1 S.2.1 dX3_tell_79 hl (k := 0) rfl (nI_add _ 1) (by decide) rfl (fun ls hl => ?_)
        refine lv_goto (tgt := 38) S.1 S.2.1 dX3_tell_82 (by decide) ?_
        exact ih1 (i1 + 1) (mS 11 ((8 * ((8 * u) + u)) + i1) (nI 0) τ1) (by omega) (itr_step he1 (by first | (simp only [fT1, c7, reduceIte, Bool.false_eq_true, eq_self_iff_true, if_true, if_false]; done) | with_reducible rfl)) _ _ hP hD hS _ (lv_sub hl [0, 1, 2, 3] rfl)
      · refine lv_aload_n S.1 S.2.1 dX3_tell_63 rfl (lv_at hl 2 rfl) ?_
        refine mf_costs S hK hP dX3_tell_64 ?_
        refine lv_bipush (v := (nI 8)) S.1 S.2.1 dX3_tell_67 (by decide) ?_
        refine lv_iload_n S.1 S.2.1 dX3_tell_69 rfl (lv_at hl 3 rfl) ?_
        refine lv_imul S.1 S.2.1 dX3_tell_70 ?_
        refine k_top (pk_mul _ _) ?_
        refine lv_iload_n S.1 S.2.1 dX3_tell_71 rfl (lv_at hl 0 rfl) ?_
        refine lv_iadd S.1 S.2.1 dX3_tell_72 ?_
        refine k_top (nI_add _ _) ?_
        refine ma_costs S hK hP (j := ((8 * u) + i1)) (by omega) dX3_tell_73 ?_
        refine lv_goto (tgt := 78) S.1 S.2.1 dX3_tell_74 (by decide) ?_
        refine ms_tells S hK hP hD hS (j := ((8 * ((8 * u) + u)) + i1)) (by omega) dX3_tell_78 (fun H locs hP hD hS => ?_)
        refine lv_iinc (v := (nI (i1 + 1))) (lv' := [(3, .int (nI (i1 + 1))), (2, .int (nI ((8 * u) + u))), (0, .ref (a 0)), (1, .int (nI (u)))]) S.1 S.2.1 dX3_tell_79 hl (k := 0) rfl (nI_add _ 1) (by decide) rfl (fun ls hl => ?_)
        refine lv_goto (tgt := 38) S.1 S.2.1 dX3_tell_82 (by decide) ?_
        exact ih1 (i1 + 1) (mS 11 ((8 * ((8 * u) + u)) + i1) (τ1 6 ((8 * u) + i1)) τ1) (by omega) (itr_step he1 (by first | (simp only [fT1, c7, reduceIte, Bool.false_eq_true, eq_self_iff_true, if_true, if_false]; done) | with_reducible rfl)) _ _ hP hD hS _ (lv_sub hl [0, 1, 2, 3] rfl)
  exact lp1 8 0 (mS 10 ((8 * u) + u) (nI 0) (mS 9 ((8 * u) + u) ((mS 3 u ((τ 3 u) + (nI 1)) τ) 3 u) (mS 3 u ((τ 3 u) + (nI 1)) τ))) (by omega) rfl _ _ hP hD hS _ (lv_sub hl [0, 1, 2, 3] rfl)
theorem call_X3_tell {p : Program} {l : Launch} {e : Env} {R : Room} {s : State} {m : MethodId} {args : Array Value} {below : List Frame} {meth : Method} {c : Code} {H : Heap} {locs : List Loc} {cells slots : Nat} {Q : State → Prop} {cc : ByteArray} {pc nL : Nat} {ls : Array Slot} {rest : List Value} {D : va_G} {A : Nat → Prop} {w0 : Cond} {X : va_W} {cy : Nat → ClassId} {a : Nat → Nat} {τ : MS} (S : CallFix p m c cc nL s args (w0 :: gw) RX3) (hK : va_K D vwCl (tyA cy) s) (hN : kN [] s) (hP : va_P D vwCl (X ++ mB cy a τ) H) (hD : va_D A (X ++ mB cy a τ)) (hS : va_S A s.heap H locs) (hA : ∀ q, s.heap.size ≤ q → A q) {u : Nat} (hu : u < 8) (hsz : ls.size = nL) (hW : (rest.map fun v => v.category).sum ≤ 8) (hR : 2 + 1 ≤ R.frames ∧ 8 + (4 + 11) + 32 * 2 ≤ R.locals) (hdg : decode cc pc = .ok (.invokevirtual 103, 3)) (hfc : cells ≤ R.cells ∧ slots ≤ R.slots)
    (kk : ∀ (H1 : Heap) (locs1 : List Loc), va_P D vwCl (X ++ mB cy a (mTell u τ)) H1 → va_D A (X ++ mB cy a (mTell u τ)) → va_S A s.heap H1 locs1 → W p l e R s m args below meth c H1 locs1 cells slots Q (F0 m (pc + 3) ls (rest))) : W p l e R s m args below meth c H locs cells slots Q (F0 m pc ls (.int (nI (u)) :: .ref (a 0) :: rest)) :=
  kgo_v (va_runV (As := [.int (nI (u))]) (rest := rest) S (c_X3_tell l D cy a X τ u hu H.size) (cwV 1 S.2.2.2.2 (gw_good_1 wm_587 (gw_good_1 wm_589 (gw_good_1 wm_33 (gw_good_1 wm_50 (gw_good_in wm_590))))) rfl rfl rfl (by decide +kernel) hR) ⟨kblind kNok.nil, mrecv hK hP, kpre kNok.nil hN hK hP hD⟩ rfl rfl hsz rfl (lv_room hW) hdg hfc) hD hS hA kk
set_option maxHeartbeats 400000 in
set_option maxRecDepth 100000 in
theorem c_X3_sendAll (l : Launch) (D : va_G) (cy : Nat → ClassId) (a : Nat → Nat) (X : va_W) (τ : MS) (u : Nat) (v : Nat) (hu : u < 8) (hv : v < 8) : MetV l yX3_sendAll cX3_sendAll 4 (kRm 2 0 0) D (tyA cy) [] [.ref (a 0), .int (nI (u)), .int (nI (v))] (X ++ mB cy a τ) (X ++ mB cy a (mSendAll u v τ)) 0 0 := by
  intro sz
  refine kmet (own := RX3) (by decide) rfl (Nat.le_of_ble_eq_true rfl) (fun p e s m args below meth c S hr hlk hK hN hP hD hsz hA hnm ls hl => ?_)
  have hS : va_S (va_A (X ++ mB cy a τ) sz) s.heap s.heap [] := va_S.rf
  have hl : lv_has ls 4 [(0, .ref (a 0)), (1, .int (nI (u))), (2, .int (nI (v)))] := hl
  refine lv_iconst (v := (nI 0)) S.1 S.2.1 dX3_sendAll_0 (by decide) ?_
  refine lv_istore_n (lv' := [(3, .int (nI 0)), (0, .ref (a 0)), (1, .int (nI (u))), (2, .int (nI (v)))]) S.1 S.2.1 dX3_sendAll_1 rfl hl (by decide) rfl (fun ls hl => ?_)
  have lp1 : ∀ (n1 i1 : Nat) (τ1 : MS), i1 + n1 = 8 → itr (mPass u v) n1 i1 τ1 = itr (mPass u v) 8 0 τ → ∀ (H : Heap) (locs : List Loc), va_P D vwCl (X ++ mB cy a τ1) H → va_D (va_A (X ++ mB cy a τ) sz) (X ++ mB cy a τ1) → va_S (va_A (X ++ mB cy a τ) sz) s.heap H locs → ∀ ls : Array Slot, lv_has ls 4 [(3, .int (nI (i1))), (0, .ref (a 0)), (1, .int (nI (u))), (2, .int (nI (v)))] → W p l e (kRm 2 0 0) s m args below meth c H locs 0 0 (MQ below (kQv D (X ++ mB cy a τ) (X ++ mB cy a (mSendAll u v τ)) sz) args s 0 0 (va_A (X ++ mB cy a τ) sz)) (F0 m 2 ls []) := by
    intro n1
    induction n1 with
    | zero =>
      intro i1 τ1 hi1 he1 H locs hP hD hS ls hl
      have hi1 : i1 = 8 := by omega
      have he1 : τ1 = itr (mPass u v) 8 0 τ := he1
      refine lv_iload_n S.1 S.2.1 dX3_sendAll_2 rfl (lv_at hl 0 rfl) ?_
      refine lv_bipush (v := (nI 8)) S.1 S.2.1 dX3_sendAll_3 (by decide) ?_
      refine lv_icmp_ge (tgt := 21) S.1 S.2.1 dX3_sendAll_5 (by decide) (fun _ => ?_) (fun c => absurd (nI_le (by omega) (by omega)) c)
      have e9 : mSendAll u v τ = τ1 := by first | (simp only [mSendAll, ← he1, reduceIte, Bool.false_eq_true, eq_self_iff_true, if_true, if_false]; done) | with_reducible rfl
      rw [e9]
      exact kret_v S hr hlk hP hD hS dX3_sendAll_21
    | succ n1 ih1 =>
      intro i1 τ1 hi1 he1 H locs hP hD hS ls hl
      have hlt1 : i1 < 8 := by omega
      refine lv_iload_n S.1 S.2.1 dX3_sendAll_2 rfl (lv_at hl 0 rfl) ?_
      refine lv_bipush (v := (nI 8)) S.1 S.2.1 dX3_sendAll_3 (by decide) ?_
      refine lv_icmp_ge (tgt := 21) S.1 S.2.1 dX3_sendAll_5 (by decide) (fun c => absurd c (nI_ge (by omega) (by omega))) (fun _ => ?_)
      refine lv_aload_n S.1 S.2.1 dX3_sendAll_8 rfl (lv_at hl 1 rfl) ?_
      refine lv_iload_n S.1 S.2.1 dX3_sendAll_9 rfl (lv_at hl 2 rfl) ?_
      refine lv_iload_n S.1 S.2.1 dX3_sendAll_10 rfl (lv_at hl 3 rfl) ?_
      refine lv_iload_n S.1 S.2.1 dX3_sendAll_11 rfl (lv_at hl 0 rfl) ?_
      refine call_X3_pass S hK hN hP hD hS hA (u := u) (v := v) (o := i1) (by omega) (by omega) (by omega) hl.1 (Nat.le_of_ble_eq_true rfl) ⟨Nat.le_of_ble_eq_true rfl, Nat.le_of_ble_eq_true rfl⟩ dX3_sendAll_12 ⟨Nat.le_refl _, Nat.le_refl _⟩ (fun H locs hP hD hS => ?_)
      refine lv_iinc (v := (nI (i1 + 1))) (lv' := [(3, .int (nI (i1 + 1))), (0, .ref (a 0)), (1, .int (nI (u))), (2, .int (nI (v)))]) S.1 S.2.1 dX3_sendAll_15 hl (k := 0) rfl (nI_add _ 1) (by decide) rfl (fun ls hl => ?_)
      refine lv_goto (tgt := 2) S.1 S.2.1 dX3_sendAll_18 (by decide) ?_
      exact ih1 (i1 + 1) (mPass u v i1 τ1) (by omega) (itr_step he1 (by first | (simp only [mPass, reduceIte, Bool.false_eq_true, eq_self_iff_true, if_true, if_false]; done) | with_reducible rfl)) _ _ hP hD hS _ (lv_sub hl [0, 1, 2, 3] rfl)
  exact lp1 8 0 τ (by omega) rfl _ _ hP hD hS _ (lv_sub hl [0, 1, 2, 3] rfl)
theorem call_X3_sendAll {p : Program} {l : Launch} {e : Env} {R : Room} {s : State} {m : MethodId} {args : Array Value} {below : List Frame} {meth : Method} {c : Code} {H : Heap} {locs : List Loc} {cells slots : Nat} {Q : State → Prop} {cc : ByteArray} {pc nL : Nat} {ls : Array Slot} {rest : List Value} {D : va_G} {A : Nat → Prop} {w0 : Cond} {X : va_W} {cy : Nat → ClassId} {a : Nat → Nat} {τ : MS} (S : CallFix p m c cc nL s args (w0 :: gw) RX3) (hK : va_K D vwCl (tyA cy) s) (hN : kN [] s) (hP : va_P D vwCl (X ++ mB cy a τ) H) (hD : va_D A (X ++ mB cy a τ)) (hS : va_S A s.heap H locs) (hA : ∀ q, s.heap.size ≤ q → A q) {u : Nat} {v : Nat} (hu : u < 8) (hv : v < 8) (hsz : ls.size = nL) (hW : (rest.map fun v => v.category).sum ≤ 8) (hR : 2 + 1 ≤ R.frames ∧ 8 + (4 + 11) + 32 * 2 ≤ R.locals) (hdg : decode cc pc = .ok (.invokevirtual 110, 3)) (hfc : cells ≤ R.cells ∧ slots ≤ R.slots)
    (kk : ∀ (H1 : Heap) (locs1 : List Loc), va_P D vwCl (X ++ mB cy a (mSendAll u v τ)) H1 → va_D A (X ++ mB cy a (mSendAll u v τ)) → va_S A s.heap H1 locs1 → W p l e R s m args below meth c H1 locs1 cells slots Q (F0 m (pc + 3) ls (rest))) : W p l e R s m args below meth c H locs cells slots Q (F0 m pc ls (.int (nI (v)) :: .int (nI (u)) :: .ref (a 0) :: rest)) :=
  kgo_v (va_runV (As := [.int (nI (u)), .int (nI (v))]) (rest := rest) S (c_X3_sendAll l D cy a X τ u v hu hv H.size) (cwV 2 S.2.2.2.2 (gw_good_1 wm_599 (gw_good_1 wm_601 (gw_good_1 wm_36 (gw_good_1 wm_50 (gw_good_in wm_602))))) rfl rfl rfl (by decide +kernel) hR) ⟨kblind kNok.nil, mrecv hK hP, kpre kNok.nil hN hK hP hD⟩ rfl rfl hsz rfl (lv_room hW) hdg hfc) hD hS hA kk
set_option maxHeartbeats 400000 in
set_option maxRecDepth 100000 in
theorem c_X3_receive (l : Launch) (D : va_G) (cy : Nat → ClassId) (a : Nat → Nat) (X : va_W) (τ : MS) (u : Nat) (v : Nat) (o : Nat) (hu : u < 8) (hv : v < 8) (ho : o < 8) : MetV l yX3_receive cX3_receive 8 (kRm 3 0 0) D (tyA cy) [] [.ref (a 0), .int (nI (u)), .int (nI (v)), .int (nI (o))] (X ++ mB cy a τ) (X ++ mB cy a (mRecv u v o τ)) 0 0 := by
  intro sz
  refine kmet (own := RX3) (by decide) rfl (Nat.le_of_ble_eq_true rfl) (fun p e s m args below meth c S hr hlk hK hN hP hD hsz hA hnm ls hl => ?_)
  have hS : va_S (va_A (X ++ mB cy a τ) sz) s.heap s.heap [] := va_S.rf
  have hl : lv_has ls 8 [(0, .ref (a 0)), (1, .int (nI (u))), (2, .int (nI (v))), (3, .int (nI (o)))] := hl
  refine lv_bipush (v := (nI 64)) S.1 S.2.1 dX3_receive_0 (by decide) ?_
  refine lv_iload_n S.1 S.2.1 dX3_receive_2 rfl (lv_at hl 1 rfl) ?_
  refine lv_imul S.1 S.2.1 dX3_receive_3 ?_
  refine k_top (pk_mul _ _) ?_
  refine lv_bipush (v := (nI 8)) S.1 S.2.1 dX3_receive_4 (by decide) ?_
  refine lv_iload_n S.1 S.2.1 dX3_receive_6 rfl (lv_at hl 2 rfl) ?_
  refine lv_imul S.1 S.2.1 dX3_receive_7 ?_
  refine k_top (pk_mul _ _) ?_
  refine lv_iadd S.1 S.2.1 dX3_receive_8 ?_
  refine k_top (nI_add _ _) ?_
  refine lv_iload_n S.1 S.2.1 dX3_receive_9 rfl (lv_at hl 3 rfl) ?_
  refine lv_iadd S.1 S.2.1 dX3_receive_10 ?_
  refine k_top (nI_add _ _) ?_
  refine lv_istore (lv' := [(4, .int (nI (((64 * u) + (8 * v)) + o))), (0, .ref (a 0)), (1, .int (nI (u))), (2, .int (nI (v))), (3, .int (nI (o)))]) S.1 S.2.1 dX3_receive_11 hl (by decide) rfl (fun ls hl => ?_)
  refine lv_bipush (v := (nI 8)) S.1 S.2.1 dX3_receive_13 (by decide) ?_
  refine lv_iload_n S.1 S.2.1 dX3_receive_15 rfl (lv_at hl 3 rfl) ?_
  refine lv_imul S.1 S.2.1 dX3_receive_16 ?_
  refine k_top (pk_mul _ _) ?_
  refine lv_iload_n S.1 S.2.1 dX3_receive_17 rfl (lv_at hl 4 rfl) ?_
  refine lv_iadd S.1 S.2.1 dX3_receive_18 ?_
  refine k_top (nI_add _ _) ?_
  refine lv_istore (lv' := [(5, .int (nI ((8 * v) + o))), (4, .int (nI (((64 * u) + (8 * v)) + o))), (0, .ref (a 0)), (1, .int (nI (u))), (2, .int (nI (v))), (3, .int (nI (o)))]) S.1 S.2.1 dX3_receive_19 hl (by decide) rfl (fun ls hl => ?_)
  refine lv_aload_n S.1 S.2.1 dX3_receive_21 rfl (lv_at hl 2 rfl) ?_
  refine mf_flightNumbers S hK hP dX3_receive_22 ?_
  refine lv_iload S.1 S.2.1 dX3_receive_25 (lv_at hl 1 rfl) ?_
  refine ma_flightNumbers S hK hP (j := (((64 * u) + (8 * v)) + o)) (by omega) dX3_receive_27 ?_
  refine lv_istore (lv' := [(6, .int (τ 12 (((64 * u) + (8 * v)) + o))), (5, .int (nI ((8 * v) + o))), (4, .int (nI (((64 * u) + (8 * v)) + o))), (0, .ref (a 0)), (1, .int (nI (u))), (2, .int (nI (v))), (3, .int (nI (o)))]) S.1 S.2.1 dX3_receive_28 hl (by decide) rfl (fun ls hl => ?_)
  refine lv_aload_n S.1 S.2.1 dX3_receive_30 rfl (lv_at hl 3 rfl) ?_
  refine mf_flightNumbers S hK hP dX3_receive_31 ?_
  refine lv_iload S.1 S.2.1 dX3_receive_34 (lv_at hl 2 rfl) ?_
  refine lv_iconst (v := (nI 0)) S.1 S.2.1 dX3_receive_36 (by decide) ?_
  refine ms_flightNumbers S hK hP hD hS (j := (((64 * u) + (8 * v)) + o)) (by omega) dX3_receive_37 (fun H locs hP hD hS => ?_)
  refine lv_iload_n S.1 S.2.1 dX3_receive_38 rfl (lv_at hl 6 rfl) ?_
  refine lv_iload_n S.1 S.2.1 dX3_receive_39 rfl (lv_at hl 5 rfl) ?_
  refine lv_icmp_ne (tgt := 70) S.1 S.2.1 dX3_receive_40 (by decide) (fun c1 => ?_) (fun c1 => ?_)
  · have c1 : ¬ o = v := fun h => c1 ((nI_eq (a := o) (b := v) (by omega) (by omega)).mpr h)
    refine lv_aload_n S.1 S.2.1 dX3_receive_70 rfl (lv_at hl 3 rfl) ?_
    refine mf_numbers S hK hP dX3_receive_71 ?_
    refine lv_iload S.1 S.2.1 dX3_receive_74 (lv_at hl 1 rfl) ?_
    refine ma_numbers S hK hP (j := ((8 * v) + o)) (by omega) dX3_receive_76 ?_
    refine lv_iload S.1 S.2.1 dX3_receive_77 (lv_at hl 0 rfl) ?_
    refine lv_icmp_ge (tgt := 180) S.1 S.2.1 dX3_receive_79 (by decide) (fun c2 => ?_) (fun c2 => ?_)
    · refine lv_aload_n S.1 S.2.1 dX3_receive_180 rfl (lv_at hl 3 rfl) ?_
      refine mf_numbers S hK hP dX3_receive_181 ?_
      refine lv_iload S.1 S.2.1 dX3_receive_184 (lv_at hl 1 rfl) ?_
      refine ma_numbers S hK hP (j := ((8 * v) + o)) (by omega) dX3_receive_186 ?_
      refine lv_iload S.1 S.2.1 dX3_receive_187 (lv_at hl 0 rfl) ?_
      refine lv_icmp_le (tgt := 199) S.1 S.2.1 dX3_receive_189 (by decide) (fun c3 => ?_) (fun c3 => ?_)
      · have e9 : mRecv u v o τ = mS 12 (((64 * u) + (8 * v)) + o) (nI 0) τ := by first | (simp only [mRecv, mR3, mR2, mR1, c1, c2, c3, reduceIte, Bool.false_eq_true, eq_self_iff_true, if_true, if_false]; done) | with_reducible rfl
        rw [e9]
        exact kret_v S hr hlk hP hD hS dX3_receive_199
      · refine lv_aload_n S.1 S.2.1 dX3_receive_192 rfl (lv_at hl 3 rfl) ?_
        refine lv_iload_n S.1 S.2.1 dX3_receive_193 rfl (lv_at hl 5 rfl) ?_
        refine lv_iload_n S.1 S.2.1 dX3_receive_194 rfl (lv_at hl 4 rfl) ?_
        refine lv_iload_n S.1 S.2.1 dX3_receive_195 rfl (lv_at hl 6 rfl) ?_
        refine call_X3_pass S hK hN hP hD hS hA (u := v) (v := u) (o := o) (by omega) (by omega) (by omega) hl.1 (Nat.le_of_ble_eq_true rfl) ⟨Nat.le_of_ble_eq_true rfl, Nat.le_of_ble_eq_true rfl⟩ dX3_receive_196 ⟨Nat.le_refl _, Nat.le_refl _⟩ (fun H locs hP hD hS => ?_)
        have e9 : mRecv u v o τ = mPass v u o (mS 12 (((64 * u) + (8 * v)) + o) (nI 0) τ) := by first | (simp only [mRecv, mR3, mR2, mR1, c1, c2, c3, reduceIte, Bool.false_eq_true, eq_self_iff_true, if_true, if_false]; done) | with_reducible rfl
        rw [e9]
        exact kret_v S hr hlk hP hD hS dX3_receive_199
    · refine lv_aload_n S.1 S.2.1 dX3_receive_82 rfl (lv_at hl 3 rfl) ?_
      refine mf_numbers S hK hP dX3_receive_83 ?_
      refine lv_iload S.1 S.2.1 dX3_receive_86 (lv_at hl 1 rfl) ?_
      refine lv_iload S.1 S.2.1 dX3_receive_88 (lv_at hl 0 rfl) ?_
      refine ms_numbers S hK hP hD hS (j := ((8 * v) + o)) (by omega) dX3_receive_90 (fun H locs hP hD hS => ?_)
      refine lv_aload_n S.1 S.2.1 dX3_receive_91 rfl (lv_at hl 3 rfl) ?_
      refine mf_ages S hK hP dX3_receive_92 ?_
      refine lv_iload S.1 S.2.1 dX3_receive_95 (lv_at hl 1 rfl) ?_
      refine lv_aload_n S.1 S.2.1 dX3_receive_97 rfl (lv_at hl 3 rfl) ?_
      refine mf_flightAges S hK hP dX3_receive_98 ?_
      refine lv_iload S.1 S.2.1 dX3_receive_101 (lv_at hl 2 rfl) ?_
      refine ma_flightAges S hK hP (j := (((64 * u) + (8 * v)) + o)) (by omega) dX3_receive_103 ?_
      refine ms_ages S hK hP hD hS (j := ((8 * v) + o)) (by omega) dX3_receive_104 (fun H locs hP hD hS => ?_)
      refine lv_iconst (v := (nI 0)) S.1 S.2.1 dX3_receive_105 (by decide) ?_
      refine lv_istore (lv' := [(7, .int (nI 0)), (6, .int (τ 12 (((64 * u) + (8 * v)) + o))), (5, .int (nI ((8 * v) + o))), (4, .int (nI (((64 * u) + (8 * v)) + o))), (0, .ref (a 0)), (1, .int (nI (u))), (2, .int (nI (v))), (3, .int (nI (o)))]) S.1 S.2.1 dX3_receive_106 hl (by decide) rfl (fun ls hl => ?_)
      have lp4 : ∀ (n4 i4 : Nat) (τ4 : MS), i4 + n4 = 8 → itr (fRc (8 * v + o) (64 * u + 8 * v + o)) n4 i4 τ4 = itr (fRc (8 * v + o) (64 * u + 8 * v + o)) 8 0 (mS 10 ((8 * v) + o) ((mS 9 ((8 * v) + o) (τ 12 (((64 * u) + (8 * v)) + o)) (mS 12 (((64 * u) + (8 * v)) + o) (nI 0) τ)) 13 (((64 * u) + (8 * v)) + o)) (mS 9 ((8 * v) + o) (τ 12 (((64 * u) + (8 * v)) + o)) (mS 12 (((64 * u) + (8 * v)) + o) (nI 0) τ))) → ∀ (H : Heap) (locs : List Loc), va_P D vwCl (X ++ mB cy a τ4) H → va_D (va_A (X ++ mB cy a τ) sz) (X ++ mB cy a τ4) → va_S (va_A (X ++ mB cy a τ) sz) s.heap H locs → ∀ ls : Array Slot, lv_has ls 8 [(7, .int (nI (i4))), (6, .int (τ 12 (((64 * u) + (8 * v)) + o))), (5, .int (nI ((8 * v) + o))), (4, .int (nI (((64 * u) + (8 * v)) + o))), (0, .ref (a 0)), (1, .int (nI (u))), (2, .int (nI (v))), (3, .int (nI (o)))] → W p l e (kRm 3 0 0) s m args below meth c H locs 0 0 (MQ below (kQv D (X ++ mB cy a τ) (X ++ mB cy a (mRecv u v o τ)) sz) args s 0 0 (va_A (X ++ mB cy a τ) sz)) (F0 m 108 ls []) := by
        intro n4
        induction n4 with
        | zero =>
          intro i4 τ4 hi4 he4 H locs hP hD hS ls hl
          have hi4 : i4 = 8 := by omega
          have he4 : τ4 = itr (fRc (8 * v + o) (64 * u + 8 * v + o)) 8 0 (mS 10 ((8 * v) + o) ((mS 9 ((8 * v) + o) (τ 12 (((64 * u) + (8 * v)) + o)) (mS 12 (((64 * u) + (8 * v)) + o) (nI 0) τ)) 13 (((64 * u) + (8 * v)) + o)) (mS 9 ((8 * v) + o) (τ 12 (((64 * u) + (8 * v)) + o)) (mS 12 (((64 * u) + (8 * v)) + o) (nI 0) τ))) := he4
          refine lv_iload S.1 S.2.1 dX3_receive_108 (lv_at hl 0 rfl) ?_
          refine lv_bipush (v := (nI 8)) S.1 S.2.1 dX3_receive_110 (by decide) ?_
          refine lv_icmp_ge (tgt := 147) S.1 S.2.1 dX3_receive_112 (by decide) (fun _ => ?_) (fun c => absurd (nI_le (by omega) (by omega)) c)
          refine lv_iconst (v := (nI 0)) S.1 S.2.1 dX3_receive_147 (by decide) ?_
          refine lv_istore (lv' := [(7, .int (nI 0)), (6, .int (τ 12 (((64 * u) + (8 * v)) + o))), (5, .int (nI ((8 * v) + o))), (4, .int (nI (((64 * u) + (8 * v)) + o))), (0, .ref (a 0)), (1, .int (nI (u))), (2, .int (nI (v))), (3, .int (nI (o)))]) S.1 S.2.1 dX3_receive_148 hl (by decide) rfl (fun ls hl => ?_)
          have lp6 : ∀ (n6 i6 : Nat) (τ6 : MS), i6 + n6 = 8 → itr (fRs u v o) n6 i6 τ6 = itr (fRs u v o) 8 0 τ4 → ∀ (H : Heap) (locs : List Loc), va_P D vwCl (X ++ mB cy a τ6) H → va_D (va_A (X ++ mB cy a τ) sz) (X ++ mB cy a τ6) → va_S (va_A (X ++ mB cy a τ) sz) s.heap H locs → ∀ ls : Array Slot, lv_has ls 8 [(7, .int (nI (i6))), (6, .int (τ 12 (((64 * u) + (8 * v)) + o))), (5, .int (nI ((8 * v) + o))), (4, .int (nI (((64 * u) + (8 * v)) + o))), (0, .ref (a 0)), (1, .int (nI (u))), (2, .int (nI (v))), (3, .int (nI (o)))] → W p l e (kRm 3 0 0) s m args below meth c H locs 0 0 (MQ below (kQv D (X ++ mB cy a τ) (X ++ mB cy a (mRecv u v o τ)) sz) args s 0 0 (va_A (X ++ mB cy a τ) sz)) (F0 m 150 ls []) := by
            intro n6
            induction n6 with
            | zero =>
              intro i6 τ6 hi6 he6 H locs hP hD hS ls hl
              have hi6 : i6 = 8 := by omega
              have he6 : τ6 = itr (fRs u v o) 8 0 τ4 := he6
              refine lv_iload S.1 S.2.1 dX3_receive_150 (lv_at hl 0 rfl) ?_
              refine lv_bipush (v := (nI 8)) S.1 S.2.1 dX3_receive_152 (by decide) ?_
              refine lv_icmp_ge (tgt := 177) S.1 S.2.1 dX3_receive_154 (by decide) (fun _ => ?_) (fun c => absurd (nI_le (by omega) (by omega)) c)
              refine lv_goto (tgt := 199) S.1 S.2.1 dX3_receive_177 (by decide) ?_
              have e9 : mRecv u v o τ = τ6 := by first | (simp only [mRecv, mR3, mR2, mR1, c1, c2, ← he4, ← he6, reduceIte, Bool.false_eq_true, eq_self_iff_true, if_true, if_false]; done) | with_reducible rfl
              rw [e9]
              exact kret_v S hr hlk hP hD hS dX3_receive_199
            | succ n6 ih6 =>
              intro i6 τ6 hi6 he6 H locs hP hD hS ls hl
              have hlt6 : i6 < 8 := by omega
              refine lv_iload S.1 S.2.1 dX3_receive_150 (lv_at hl 0 rfl) ?_
              refine lv_bipush (v := (nI 8)) S.1 S.2.1 dX3_receive_152 (by decide) ?_
              refine lv_icmp_ge (tgt := 177) S.1 S.2.1 dX3_receive_154 (by decide) (fun c => absurd c (nI_ge (by omega) (by omega))) (fun _ => ?_)
              refine lv_iload S.1 S.2.1 dX3_receive_157 (lv_at hl 0 rfl) ?_
              refine lv_iload_n S.1 S.2.1 dX3_receive_159 rfl (lv_at hl 5 rfl) ?_
              refine lv_icmp_eq (tgt := 171) S.1 S.2.1 dX3_receive_160 (by decide) (fun c9 => ?_) (fun c9 => ?_)
              · have c9 : i6 = u := (nI_eq (a := i6) (b := u) (by omega) (by omega)).mp c9
                refine lv_iinc (v := (nI (i6 + 1))) (lv' := [(7, .int (nI (i6 + 1))), (6, .int (τ 12 (((64 * u) + (8 * v)) + o))), (5, .int (nI ((8 * v) + o))), (4, .int (nI (((64 * u) + (8 * v)) + o))), (0, .ref (a 0)), (1, .int (nI (u))), (2, .int (nI (v))), (3, .int (nI (o)))]) S.1 S.2.1 dX3_receive_171 hl (k := 0) rfl (nI_add _ 1) (by decide) rfl (fun ls hl => ?_)
                refine lv_goto (tgt := 150) S.1 S.2.1 dX3_receive_174 (by decide) ?_
                exact ih6 (i6 + 1) τ6 (by omega) (itr_step he6 (by first | (simp only [fRs, c1, c2, ← he4, eq_true c9, reduceIte, Bool.false_eq_true, eq_self_iff_true, if_true, if_false]; done) | with_reducible rfl)) _ _ hP hD hS _ (lv_sub hl [0, 1, 2, 3, 4, 5, 6, 7] rfl)
              · have c9 : ¬ i6 = u := fun h => c9 ((nI_eq (a := i6) (b := u) (by omega) (by omega)).mpr h)
                refine lv_aload_n S.1 S.2.1 dX3_receive_163 rfl (lv_at hl 4 rfl) ?_
                refine lv_iload_n S.1 S.2.1 dX3_receive_164 rfl (lv_at hl 6 rfl) ?_
                refine lv_iload S.1 S.2.1 dX3_receive_165 (lv_at hl 0 rfl) ?_
                refine lv_iload_n S.1 S.2.1 dX3_receive_167 rfl (lv_at hl 7 rfl) ?_
                refine call_X3_pass S hK hN hP hD hS hA (u := v) (v := i6) (o := o) (by omega) (by omega) (by omega) hl.1 (Nat.le_of_ble_eq_true rfl) ⟨Nat.le_of_ble_eq_true rfl, Nat.le_of_ble_eq_true rfl⟩ dX3_receive_168 ⟨Nat.le_refl _, Nat.le_refl _⟩ (fun H locs hP hD hS => ?_)
                refine lv_iinc (v := (nI (i6 + 1))) (lv' := [(7, .int (nI (i6 + 1))), (6, .int (τ 12 (((64 * u) + (8 * v)) + o))), (5, .int (nI ((8 * v) + o))), (4, .int (nI (((64 * u) + (8 * v)) + o))), (0, .ref (a 0)), (1, .int (nI (u))), (2, .int (nI (v))), (3, .int (nI (o)))]) S.1 S.2.1 dX3_receive_171 hl (k := 0) rfl (nI_add _ 1) (by decide) rfl (fun ls hl => ?_)
                refine lv_goto (tgt := 150) S.1 S.2.1 dX3_receive_174 (by decide) ?_
                exact ih6 (i6 + 1) (mPass v i6 o τ6) (by omega) (itr_step he6 (by first | (simp only [fRs, c1, c2, ← he4, c9, reduceIte, Bool.false_eq_true, eq_self_iff_true, if_true, if_false]; done) | with_reducible rfl)) _ _ hP hD hS _ (lv_sub hl [0, 1, 2, 3, 4, 5, 6, 7] rfl)
          exact lp6 8 0 τ4 (by omega) rfl _ _ hP hD hS _ (lv_sub hl [0, 1, 2, 3, 4, 5, 6, 7] rfl)
        | succ n4 ih4 =>
          intro i4 τ4 hi4 he4 H locs hP hD hS ls hl
          have hlt4 : i4 < 8 := by omega
          refine lv_iload S.1 S.2.1 dX3_receive_108 (lv_at hl 0 rfl) ?_
          refine lv_bipush (v := (nI 8)) S.1 S.2.1 dX3_receive_110 (by decide) ?_
          refine lv_icmp_ge (tgt := 147) S.1 S.2.1 dX3_receive_112 (by decide) (fun c => absurd c (nI_ge (by omega) (by omega))) (fun _ => ?_)
          refine lv_aload_n S.1 S.2.1 dX3_receive_115 rfl (lv_at hl 4 rfl) ?_
          refine mf_tells S hK hP dX3_receive_116 ?_
          refine lv_bipush (v := (nI 8)) S.1 S.2.1 dX3_receive_119 (by decide) ?_
          refine lv_iload S.1 S.2.1 dX3_receive_121 (lv_at hl 2 rfl) ?_
          refine lv_imul S.1 S.2.1 dX3_receive_123 ?_
          refine k_top (pk_mul _ _) ?_
          refine lv_iload S.1 S.2.1 dX3_receive_124 (lv_at hl 0 rfl) ?_
          refine lv_iadd S.1 S.2.1 dX3_receive_126 ?_
          refine k_top (nI_add _ _) ?_
          refine lv_aload_n S.1 S.2.1 dX3_receive_127 rfl (lv_at hl 4 rfl) ?_
          refine mf_flightTells S hK hP dX3_receive_128 ?_
          refine lv_bipush (v := (nI 8)) S.1 S.2.1 dX3_receive_131 (by decide) ?_
          refine lv_iload S.1 S.2.1 dX3_receive_133 (lv_at hl 3 rfl) ?_
          refine lv_imul S.1 S.2.1 dX3_receive_135 ?_
          refine k_top (pk_mul _ _) ?_
          refine lv_iload S.1 S.2.1 dX3_receive_136 (lv_at hl 0 rfl) ?_
          refine lv_iadd S.1 S.2.1 dX3_receive_138 ?_
          refine k_top (nI_add _ _) ?_
          refine ma_flightTells S hK hP (j := ((8 * (((64 * u) + (8 * v)) + o)) + i4)) (by omega) dX3_receive_139 ?_
          refine ms_tells S hK hP hD hS (j := ((8 * ((8 * v) + o)) + i4)) (by omega) dX3_receive_140 (fun H locs hP hD hS => ?_)
          refine lv_iinc (v := (nI (i4 + 1))) (lv' := [(7, .int (nI (i4 + 1))), (6, .int (τ 12 (((64 * u) + (8 * v)) + o))), (5, .int (nI ((8 * v) + o))), (4, .int (nI (((64 * u) + (8 * v)) + o))), (0, .ref (a 0)), (1, .int (nI (u))), (2, .int (nI (v))), (3, .int (nI (o)))]) S.1 S.2.1 dX3_receive_141 hl (k := 0) rfl (nI_add _ 1) (by decide) rfl (fun ls hl => ?_)
          refine lv_goto (tgt := 108) S.1 S.2.1 dX3_receive_144 (by decide) ?_
          exact ih4 (i4 + 1) (mS 11 ((8 * ((8 * v) + o)) + i4) (τ4 15 ((8 * (((64 * u) + (8 * v)) + o)) + i4)) τ4) (by omega) (itr_step he4 (by first | (simp only [fRc, c1, c2, reduceIte, Bool.false_eq_true, eq_self_iff_true, if_true, if_false]; done) | with_reducible rfl)) _ _ hP hD hS _ (lv_sub hl [0, 1, 2, 3, 4, 5, 6, 7] rfl)
      exact lp4 8 0 (mS 10 ((8 * v) + o) ((mS 9 ((8 * v) + o) (τ 12 (((64 * u) + (8 * v)) + o)) (mS 12 (((64 * u) + (8 * v)) + o) (nI 0) τ)) 13 (((64 * u) + (8 * v)) + o)) (mS 9 ((8 * v) + o) (τ 12 (((64 * u) + (8 * v)) + o)) (mS 12 (((64 * u) + (8 * v)) + o) (nI 0) τ))) (by omega) rfl _ _ hP hD hS _ (lv_sub hl [0, 1, 2, 3, 4, 5, 6, 7] rfl)
  · have c1 : o = v := (nI_eq (a := o) (b := v) (by omega) (by omega)).mp c1
    refine lv_iload S.1 S.2.1 dX3_receive_43 (lv_at hl 0 rfl) ?_
    refine lv_aload_n S.1 S.2.1 dX3_receive_45 rfl (lv_at hl 3 rfl) ?_
    refine mf_made S hK hP dX3_receive_46 ?_
    refine lv_iload_n S.1 S.2.1 dX3_receive_49 rfl (lv_at hl 5 rfl) ?_
    refine ma_made S hK hP (j := v) (by omega) dX3_receive_50 ?_
    refine lv_icmp_le (tgt := 199) S.1 S.2.1 dX3_receive_51 (by decide) (fun c11 => ?_) (fun c11 => ?_)
    · have e9 : mRecv u v o τ = mS 12 (((64 * u) + (8 * v)) + o) (nI 0) τ := by first | (simp only [mRecv, mR3, mR2, mR1, eq_true c1, c11, reduceIte, Bool.false_eq_true, eq_self_iff_true, if_true, if_false]; done) | with_reducible rfl
      rw [e9]
      exact kret_v S hr hlk hP hD hS dX3_receive_199
    · refine lv_aload_n S.1 S.2.1 dX3_receive_54 rfl (lv_at hl 3 rfl) ?_
      refine mf_made S hK hP dX3_receive_55 ?_
      refine lv_iload_n S.1 S.2.1 dX3_receive_58 rfl (lv_at hl 5 rfl) ?_
      refine lv_iload S.1 S.2.1 dX3_receive_59 (lv_at hl 0 rfl) ?_
      refine ms_made S hK hP hD hS (j := v) (by omega) dX3_receive_61 (fun H locs hP hD hS => ?_)
      refine lv_aload_n S.1 S.2.1 dX3_receive_62 rfl (lv_at hl 3 rfl) ?_
      refine lv_iload_n S.1 S.2.1 dX3_receive_63 rfl (lv_at hl 5 rfl) ?_
      refine call_X3_tell S hK hN hP hD hS hA (u := v) (by omega) hl.1 (Nat.le_of_ble_eq_true rfl) ⟨Nat.le_of_ble_eq_true rfl, Nat.le_of_ble_eq_true rfl⟩ dX3_receive_64 ⟨Nat.le_refl _, Nat.le_refl _⟩ (fun H locs hP hD hS => ?_)
      refine lv_goto (tgt := 199) S.1 S.2.1 dX3_receive_67 (by decide) ?_
      have e9 : mRecv u v o τ = mTell v (mS 3 v (τ 12 (((64 * u) + (8 * v)) + o)) (mS 12 (((64 * u) + (8 * v)) + o) (nI 0) τ)) := by first | (simp only [mRecv, mR3, mR2, mR1, eq_true c1, c11, reduceIte, Bool.false_eq_true, eq_self_iff_true, if_true, if_false]; done) | with_reducible rfl
      rw [e9]
      exact kret_v S hr hlk hP hD hS dX3_receive_199
theorem call_X3_receive {p : Program} {l : Launch} {e : Env} {R : Room} {s : State} {m : MethodId} {args : Array Value} {below : List Frame} {meth : Method} {c : Code} {H : Heap} {locs : List Loc} {cells slots : Nat} {Q : State → Prop} {cc : ByteArray} {pc nL : Nat} {ls : Array Slot} {rest : List Value} {D : va_G} {A : Nat → Prop} {w0 : Cond} {X : va_W} {cy : Nat → ClassId} {a : Nat → Nat} {τ : MS} (S : CallFix p m c cc nL s args (w0 :: gw) RX3) (hK : va_K D vwCl (tyA cy) s) (hN : kN [] s) (hP : va_P D vwCl (X ++ mB cy a τ) H) (hD : va_D A (X ++ mB cy a τ)) (hS : va_S A s.heap H locs) (hA : ∀ q, s.heap.size ≤ q → A q) {u : Nat} {v : Nat} {o : Nat} (hu : u < 8) (hv : v < 8) (ho : o < 8) (hsz : ls.size = nL) (hW : (rest.map fun v => v.category).sum ≤ 8) (hR : 3 + 1 ≤ R.frames ∧ 8 + (8 + 11) + 32 * 3 ≤ R.locals) (hdg : decode cc pc = .ok (.invokevirtual 136, 3)) (hfc : cells ≤ R.cells ∧ slots ≤ R.slots)
    (kk : ∀ (H1 : Heap) (locs1 : List Loc), va_P D vwCl (X ++ mB cy a (mRecv u v o τ)) H1 → va_D A (X ++ mB cy a (mRecv u v o τ)) → va_S A s.heap H1 locs1 → W p l e R s m args below meth c H1 locs1 cells slots Q (F0 m (pc + 3) ls (rest))) : W p l e R s m args below meth c H locs cells slots Q (F0 m pc ls (.int (nI (o)) :: .int (nI (v)) :: .int (nI (u)) :: .ref (a 0) :: rest)) :=
  kgo_v (va_runV (As := [.int (nI (u)), .int (nI (v)), .int (nI (o))]) (rest := rest) S (c_X3_receive l D cy a X τ u v o hu hv ho H.size) (cwV 3 S.2.2.2.2 (gw_good_1 wm_643 (gw_good_1 wm_645 (gw_good_1 wm_42 (gw_good_1 wm_50 (gw_good_in wm_646))))) rfl rfl rfl (by decide +kernel) hR) ⟨kblind kNok.nil, mrecv hK hP, kpre kNok.nil hN hK hP hD⟩ rfl rfl hsz rfl (lv_room hW) hdg hfc) hD hS hA kk
set_option maxHeartbeats 400000 in
set_option maxRecDepth 100000 in
theorem c_X3_comeUp (l : Launch) (D : va_G) (cy : Nat → ClassId) (a : Nat → Nat) (X : va_W) (τ : MS) (u : Nat) (v : Nat) (hu : u < 8) (hv : v < 8) : MetV l yX3_comeUp cX3_comeUp 5 (kRm 3 0 0) D (tyA cy) [] [.ref (a 0), .int (nI (u)), .int (nI (v))] (X ++ mB cy a τ) (X ++ mB cy a (mUp u v τ)) 0 0 := by
  intro sz
  refine kmet (own := RX3) (by decide) rfl (Nat.le_of_ble_eq_true rfl) (fun p e s m args below meth c S hr hlk hK hN hP hD hsz hA hnm ls hl => ?_)
  have hS : va_S (va_A (X ++ mB cy a τ) sz) s.heap s.heap [] := va_S.rf
  have hl : lv_has ls 5 [(0, .ref (a 0)), (1, .int (nI (u))), (2, .int (nI (v)))] := hl
  refine lv_aload_n S.1 S.2.1 dX3_comeUp_0 rfl (lv_at hl 0 rfl) ?_
  refine mf_up S hK hP dX3_comeUp_1 ?_
  refine lv_bipush (v := (nI 8)) S.1 S.2.1 dX3_comeUp_4 (by decide) ?_
  refine lv_iload_n S.1 S.2.1 dX3_comeUp_6 rfl (lv_at hl 1 rfl) ?_
  refine lv_imul S.1 S.2.1 dX3_comeUp_7 ?_
  refine k_top (pk_mul _ _) ?_
  refine lv_iload_n S.1 S.2.1 dX3_comeUp_8 rfl (lv_at hl 2 rfl) ?_
  refine lv_iadd S.1 S.2.1 dX3_comeUp_9 ?_
  refine k_top (nI_add _ _) ?_
  refine lv_iconst (v := (nI 1)) S.1 S.2.1 dX3_comeUp_10 (by decide) ?_
  refine ms_up S hK hP hD hS (j := ((8 * u) + v)) (by omega) (by decide) dX3_comeUp_11 (fun H locs hP hD hS => ?_)
  refine lv_aload_n S.1 S.2.1 dX3_comeUp_12 rfl (lv_at hl 0 rfl) ?_
  refine mf_up S hK hP dX3_comeUp_13 ?_
  refine lv_bipush (v := (nI 8)) S.1 S.2.1 dX3_comeUp_16 (by decide) ?_
  refine lv_iload_n S.1 S.2.1 dX3_comeUp_18 rfl (lv_at hl 2 rfl) ?_
  refine lv_imul S.1 S.2.1 dX3_comeUp_19 ?_
  refine k_top (pk_mul _ _) ?_
  refine lv_iload_n S.1 S.2.1 dX3_comeUp_20 rfl (lv_at hl 1 rfl) ?_
  refine lv_iadd S.1 S.2.1 dX3_comeUp_21 ?_
  refine k_top (nI_add _ _) ?_
  refine lv_iconst (v := (nI 1)) S.1 S.2.1 dX3_comeUp_22 (by decide) ?_
  refine ms_up S hK hP hD hS (j := ((8 * v) + u)) (by omega) (by decide) dX3_comeUp_23 (fun H locs hP hD hS => ?_)
  refine lv_aload_n S.1 S.2.1 dX3_comeUp_24 rfl (lv_at hl 0 rfl) ?_
  refine mf_there S hK hP dX3_comeUp_25 ?_
  refine lv_iload_n S.1 S.2.1 dX3_comeUp_28 rfl (lv_at hl 1 rfl) ?_
  refine ma_there S hK hP (j := u) (by omega) dX3_comeUp_29 ?_
  refine lv_if_eq (tgt := 85) S.1 S.2.1 dX3_comeUp_30 (by decide) (fun c1 => ?_) (fun c1 => ?_)
  · have e9 : mUp u v τ = mS 8 ((8 * v) + u) (nI 1) (mS 8 ((8 * u) + v) (nI 1) τ) := by first | (simp only [mUp, mU2, mU1, eq_true c1, reduceIte, Bool.false_eq_true, eq_self_iff_true, if_true, if_false]; done) | with_reducible rfl
    rw [e9]
    exact kret_v S hr hlk hP hD hS dX3_comeUp_85
  · refine lv_aload_n S.1 S.2.1 dX3_comeUp_33 rfl (lv_at hl 0 rfl) ?_
    refine mf_there S hK hP dX3_comeUp_34 ?_
    refine lv_iload_n S.1 S.2.1 dX3_comeUp_37 rfl (lv_at hl 2 rfl) ?_
    refine ma_there S hK hP (j := v) (by omega) dX3_comeUp_38 ?_
    refine lv_if_eq (tgt := 85) S.1 S.2.1 dX3_comeUp_39 (by decide) (fun c2 => ?_) (fun c2 => ?_)
    · have e9 : mUp u v τ = mS 8 ((8 * v) + u) (nI 1) (mS 8 ((8 * u) + v) (nI 1) τ) := by first | (simp only [mUp, mU2, mU1, c1, eq_true c2, reduceIte, Bool.false_eq_true, eq_self_iff_true, if_true, if_false]; done) | with_reducible rfl
      rw [e9]
      exact kret_v S hr hlk hP hD hS dX3_comeUp_85
    · refine lv_iload_n S.1 S.2.1 dX3_comeUp_42 rfl (lv_at hl 1 rfl) ?_
      refine lv_iload_n S.1 S.2.1 dX3_comeUp_43 rfl (lv_at hl 2 rfl) ?_
      refine lv_icmp_ge (tgt := 51) S.1 S.2.1 dX3_comeUp_44 (by decide) (fun c3 => ?_) (fun c3 => ?_)
      · have c3 : v ≤ u := (nI_leI (a := v) (b := u) (by omega) (by omega)).mp c3
        refine lv_iload_n S.1 S.2.1 dX3_comeUp_51 rfl (lv_at hl 2 rfl) ?_
        refine lv_istore_n (lv' := [(3, .int (nI (v))), (0, .ref (a 0)), (1, .int (nI (u))), (2, .int (nI (v)))]) S.1 S.2.1 dX3_comeUp_52 rfl hl (by decide) rfl (fun ls hl => ?_)
        refine lv_iload_n S.1 S.2.1 dX3_comeUp_53 rfl (lv_at hl 2 rfl) ?_
        refine lv_iload_n S.1 S.2.1 dX3_comeUp_54 rfl (lv_at hl 3 rfl) ?_
        refine lv_iadd S.1 S.2.1 dX3_comeUp_55 ?_
        refine k_top (nI_add _ _) ?_
        refine lv_iload_n S.1 S.2.1 dX3_comeUp_56 rfl (lv_at hl 0 rfl) ?_
        refine lv_isub S.1 S.2.1 dX3_comeUp_57 ?_
        refine k_top (pk_sub (by omega)) ?_
        refine lv_istore (lv' := [(4, .int (nI ((u + v) - v))), (3, .int (nI (v))), (0, .ref (a 0)), (1, .int (nI (u))), (2, .int (nI (v)))]) S.1 S.2.1 dX3_comeUp_58 hl (by decide) rfl (fun ls hl => ?_)
        refine lv_aload_n S.1 S.2.1 dX3_comeUp_60 rfl (lv_at hl 2 rfl) ?_
        refine lv_iload_n S.1 S.2.1 dX3_comeUp_61 rfl (lv_at hl 1 rfl) ?_
        refine call_X3_tell S hK hN hP hD hS hA (u := v) (by omega) hl.1 (Nat.le_of_ble_eq_true rfl) ⟨Nat.le_of_ble_eq_true rfl, Nat.le_of_ble_eq_true rfl⟩ dX3_comeUp_62 ⟨Nat.le_refl _, Nat.le_refl _⟩ (fun H locs hP hD hS => ?_)
        refine lv_aload_n S.1 S.2.1 dX3_comeUp_65 rfl (lv_at hl 2 rfl) ?_
        refine lv_iload S.1 S.2.1 dX3_comeUp_66 (lv_at hl 0 rfl) ?_
        refine call_X3_tell S hK hN hP hD hS hA (u := (u + v) - v) (by omega) hl.1 (Nat.le_of_ble_eq_true rfl) ⟨Nat.le_of_ble_eq_true rfl, Nat.le_of_ble_eq_true rfl⟩ dX3_comeUp_68 ⟨Nat.le_refl _, Nat.le_refl _⟩ (fun H locs hP hD hS => ?_)
        refine lv_aload_n S.1 S.2.1 dX3_comeUp_71 rfl (lv_at hl 2 rfl) ?_
        refine lv_iload_n S.1 S.2.1 dX3_comeUp_72 rfl (lv_at hl 1 rfl) ?_
        refine lv_iload S.1 S.2.1 dX3_comeUp_73 (lv_at hl 0 rfl) ?_
        refine call_X3_sendAll S hK hN hP hD hS hA (u := v) (v := (u + v) - v) (by omega) (by omega) hl.1 (Nat.le_of_ble_eq_true rfl) ⟨Nat.le_of_ble_eq_true rfl, Nat.le_of_ble_eq_true rfl⟩ dX3_comeUp_75 ⟨Nat.le_refl _, Nat.le_refl _⟩ (fun H locs hP hD hS => ?_)
        refine lv_aload_n S.1 S.2.1 dX3_comeUp_78 rfl (lv_at hl 2 rfl) ?_
        refine lv_iload S.1 S.2.1 dX3_comeUp_79 (lv_at hl 0 rfl) ?_
        refine lv_iload_n S.1 S.2.1 dX3_comeUp_81 rfl (lv_at hl 1 rfl) ?_
        refine call_X3_sendAll S hK hN hP hD hS hA (u := (u + v) - v) (v := v) (by omega) (by omega) hl.1 (Nat.le_of_ble_eq_true rfl) ⟨Nat.le_of_ble_eq_true rfl, Nat.le_of_ble_eq_true rfl⟩ dX3_comeUp_82 ⟨Nat.le_refl _, Nat.le_refl _⟩ (fun H locs hP hD hS => ?_)
        have e9 : mUp u v τ = mSendAll ((u + v) - v) v (mSendAll v ((u + v) - v) (mTell ((u + v) - v) (mTell v (mS 8 ((8 * v) + u) (nI 1) (mS 8 ((8 * u) + v) (nI 1) τ))))) := by first | (simp only [mUp, mU2, mU1, c1, c2, c3, reduceIte, Bool.false_eq_true, eq_self_iff_true, if_true, if_false]; done) | with_reducible rfl
        rw [e9]
        exact kret_v S hr hlk hP hD hS dX3_comeUp_85
      · have c3 : ¬ v ≤ u := fun h => c3 ((nI_leI (a := v) (b := u) (by omega) (by omega)).mpr h)
        refine lv_iload_n S.1 S.2.1 dX3_comeUp_47 rfl (lv_at hl 1 rfl) ?_
        refine lv_goto (tgt := 52) S.1 S.2.1 dX3_comeUp_48 (by decide) ?_
        refine lv_istore_n (lv' := [(3, .int (nI (u))), (0, .ref (a 0)), (1, .int (nI (u))), (2, .int (nI (v)))]) S.1 S.2.1 dX3_comeUp_52 rfl hl (by decide) rfl (fun ls hl => ?_)
        refine lv_iload_n S.1 S.2.1 dX3_comeUp_53 rfl (lv_at hl 2 rfl) ?_
        refine lv_iload_n S.1 S.2.1 dX3_comeUp_54 rfl (lv_at hl 3 rfl) ?_
        refine lv_iadd S.1 S.2.1 dX3_comeUp_55 ?_
        refine k_top (nI_add _ _) ?_
        refine lv_iload_n S.1 S.2.1 dX3_comeUp_56 rfl (lv_at hl 0 rfl) ?_
        refine lv_isub S.1 S.2.1 dX3_comeUp_57 ?_
        refine k_top (pk_sub (by omega)) ?_
        refine lv_istore (lv' := [(4, .int (nI ((u + v) - u))), (3, .int (nI (u))), (0, .ref (a 0)), (1, .int (nI (u))), (2, .int (nI (v)))]) S.1 S.2.1 dX3_comeUp_58 hl (by decide) rfl (fun ls hl => ?_)
        refine lv_aload_n S.1 S.2.1 dX3_comeUp_60 rfl (lv_at hl 2 rfl) ?_
        refine lv_iload_n S.1 S.2.1 dX3_comeUp_61 rfl (lv_at hl 1 rfl) ?_
        refine call_X3_tell S hK hN hP hD hS hA (u := u) (by omega) hl.1 (Nat.le_of_ble_eq_true rfl) ⟨Nat.le_of_ble_eq_true rfl, Nat.le_of_ble_eq_true rfl⟩ dX3_comeUp_62 ⟨Nat.le_refl _, Nat.le_refl _⟩ (fun H locs hP hD hS => ?_)
        refine lv_aload_n S.1 S.2.1 dX3_comeUp_65 rfl (lv_at hl 2 rfl) ?_
        refine lv_iload S.1 S.2.1 dX3_comeUp_66 (lv_at hl 0 rfl) ?_
        refine call_X3_tell S hK hN hP hD hS hA (u := (u + v) - u) (by omega) hl.1 (Nat.le_of_ble_eq_true rfl) ⟨Nat.le_of_ble_eq_true rfl, Nat.le_of_ble_eq_true rfl⟩ dX3_comeUp_68 ⟨Nat.le_refl _, Nat.le_refl _⟩ (fun H locs hP hD hS => ?_)
        refine lv_aload_n S.1 S.2.1 dX3_comeUp_71 rfl (lv_at hl 2 rfl) ?_
        refine lv_iload_n S.1 S.2.1 dX3_comeUp_72 rfl (lv_at hl 1 rfl) ?_
        refine lv_iload S.1 S.2.1 dX3_comeUp_73 (lv_at hl 0 rfl) ?_
        refine call_X3_sendAll S hK hN hP hD hS hA (u := u) (v := (u + v) - u) (by omega) (by omega) hl.1 (Nat.le_of_ble_eq_true rfl) ⟨Nat.le_of_ble_eq_true rfl, Nat.le_of_ble_eq_true rfl⟩ dX3_comeUp_75 ⟨Nat.le_refl _, Nat.le_refl _⟩ (fun H locs hP hD hS => ?_)
        refine lv_aload_n S.1 S.2.1 dX3_comeUp_78 rfl (lv_at hl 2 rfl) ?_
        refine lv_iload S.1 S.2.1 dX3_comeUp_79 (lv_at hl 0 rfl) ?_
        refine lv_iload_n S.1 S.2.1 dX3_comeUp_81 rfl (lv_at hl 1 rfl) ?_
        refine call_X3_sendAll S hK hN hP hD hS hA (u := (u + v) - u) (v := u) (by omega) (by omega) hl.1 (Nat.le_of_ble_eq_true rfl) ⟨Nat.le_of_ble_eq_true rfl, Nat.le_of_ble_eq_true rfl⟩ dX3_comeUp_82 ⟨Nat.le_refl _, Nat.le_refl _⟩ (fun H locs hP hD hS => ?_)
        have e9 : mUp u v τ = mSendAll ((u + v) - u) u (mSendAll u ((u + v) - u) (mTell ((u + v) - u) (mTell u (mS 8 ((8 * v) + u) (nI 1) (mS 8 ((8 * u) + v) (nI 1) τ))))) := by first | (simp only [mUp, mU2, mU1, c1, c2, c3, reduceIte, Bool.false_eq_true, eq_self_iff_true, if_true, if_false]; done) | with_reducible rfl
        rw [e9]
        exact kret_v S hr hlk hP hD hS dX3_comeUp_85
theorem call_X3_comeUp {p : Program} {l : Launch} {e : Env} {R : Room} {s : State} {m : MethodId} {args : Array Value} {below : List Frame} {meth : Method} {c : Code} {H : Heap} {locs : List Loc} {cells slots : Nat} {Q : State → Prop} {cc : ByteArray} {pc nL : Nat} {ls : Array Slot} {rest : List Value} {D : va_G} {A : Nat → Prop} {w0 : Cond} {X : va_W} {cy : Nat → ClassId} {a : Nat → Nat} {τ : MS} (S : CallFix p m c cc nL s args (w0 :: gw) RX3) (hK : va_K D vwCl (tyA cy) s) (hN : kN [] s) (hP : va_P D vwCl (X ++ mB cy a τ) H) (hD : va_D A (X ++ mB cy a τ)) (hS : va_S A s.heap H locs) (hA : ∀ q, s.heap.size ≤ q → A q) {u : Nat} {v : Nat} (hu : u < 8) (hv : v < 8) (hsz : ls.size = nL) (hW : (rest.map fun v => v.category).sum ≤ 8) (hR : 3 + 1 ≤ R.frames ∧ 8 + (5 + 11) + 32 * 3 ≤ R.locals) (hdg : decode cc pc = .ok (.invokevirtual 121, 3)) (hfc : cells ≤ R.cells ∧ slots ≤ R.slots)
    (kk : ∀ (H1 : Heap) (locs1 : List Loc), va_P D vwCl (X ++ mB cy a (mUp u v τ)) H1 → va_D A (X ++ mB cy a (mUp u v τ)) → va_S A s.heap H1 locs1 → W p l e R s m args below meth c H1 locs1 cells slots Q (F0 m (pc + 3) ls (rest))) : W p l e R s m args below meth c H locs cells slots Q (F0 m pc ls (.int (nI (v)) :: .int (nI (u)) :: .ref (a 0) :: rest)) :=
  kgo_v (va_runV (As := [.int (nI (u)), .int (nI (v))]) (rest := rest) S (c_X3_comeUp l D cy a X τ u v hu hv H.size) (cwV 2 S.2.2.2.2 (gw_good_1 wm_583 (gw_good_1 wm_585 (gw_good_1 wm_32 (gw_good_1 wm_50 (gw_good_in wm_586))))) rfl rfl rfl (by decide +kernel) hR) ⟨kblind kNok.nil, mrecv hK hP, kpre kNok.nil hN hK hP hD⟩ rfl rfl hsz rfl (lv_room hW) hdg hfc) hD hS hA kk
set_option maxHeartbeats 400000 in
set_option maxRecDepth 100000 in
theorem c_X3_forget (l : Launch) (D : va_G) (cy : Nat → ClassId) (a : Nat → Nat) (X : va_W) (τ : MS) (u : Nat) (hu : u < 8) : MetV l yX3_forget cX3_forget 3 (kRm 0 0 0) D (tyA cy) [] [.ref (a 0), .int (nI (u))] (X ++ mB cy a τ) (X ++ mB cy a (mForget u τ)) 0 0 := by
  intro sz
  refine kmet (own := RX3) (by decide) rfl (Nat.le_of_ble_eq_true rfl) (fun p e s m args below meth c S hr hlk hK hN hP hD hsz hA hnm ls hl => ?_)
  have hS : va_S (va_A (X ++ mB cy a τ) sz) s.heap s.heap [] := va_S.rf
  have hl : lv_has ls 3 [(0, .ref (a 0)), (1, .int (nI (u)))] := hl
  refine lv_iconst (v := (nI 0)) S.1 S.2.1 dX3_forget_0 (by decide) ?_
  refine lv_istore_n (lv' := [(2, .int (nI 0)), (0, .ref (a 0)), (1, .int (nI (u)))]) S.1 S.2.1 dX3_forget_1 rfl hl (by decide) rfl (fun ls hl => ?_)
  have lp1 : ∀ (n1 i1 : Nat) (τ1 : MS), i1 + n1 = 8 → itr (fFg u) n1 i1 τ1 = itr (fFg u) 8 0 τ → ∀ (H : Heap) (locs : List Loc), va_P D vwCl (X ++ mB cy a τ1) H → va_D (va_A (X ++ mB cy a τ) sz) (X ++ mB cy a τ1) → va_S (va_A (X ++ mB cy a τ) sz) s.heap H locs → ∀ ls : Array Slot, lv_has ls 3 [(2, .int (nI (i1))), (0, .ref (a 0)), (1, .int (nI (u)))] → W p l e (kRm 0 0 0) s m args below meth c H locs 0 0 (MQ below (kQv D (X ++ mB cy a τ) (X ++ mB cy a (mForget u τ)) sz) args s 0 0 (va_A (X ++ mB cy a τ) sz)) (F0 m 2 ls []) := by
    intro n1
    induction n1 with
    | zero =>
      intro i1 τ1 hi1 he1 H locs hP hD hS ls hl
      have hi1 : i1 = 8 := by omega
      have he1 : τ1 = itr (fFg u) 8 0 τ := he1
      refine lv_iload_n S.1 S.2.1 dX3_forget_2 rfl (lv_at hl 0 rfl) ?_
      refine lv_bipush (v := (nI 8)) S.1 S.2.1 dX3_forget_3 (by decide) ?_
      refine lv_icmp_ge (tgt := 26) S.1 S.2.1 dX3_forget_5 (by decide) (fun _ => ?_) (fun c => absurd (nI_le (by omega) (by omega)) c)
      refine lv_aload_n S.1 S.2.1 dX3_forget_26 rfl (lv_at hl 1 rfl) ?_
      refine mf_made S hK hP dX3_forget_27 ?_
      refine lv_iload_n S.1 S.2.1 dX3_forget_30 rfl (lv_at hl 2 rfl) ?_
      refine lv_iconst (v := (nI 0)) S.1 S.2.1 dX3_forget_31 (by decide) ?_
      refine ms_made S hK hP hD hS (j := u) (by omega) dX3_forget_32 (fun H locs hP hD hS => ?_)
      have e9 : mForget u τ = mS 3 u (nI 0) τ1 := by first | (simp only [mForget, ← he1, reduceIte, Bool.false_eq_true, eq_self_iff_true, if_true, if_false]; done) | with_reducible rfl
      rw [e9]
      exact kret_v S hr hlk hP hD hS dX3_forget_33
    | succ n1 ih1 =>
      intro i1 τ1 hi1 he1 H locs hP hD hS ls hl
      have hlt1 : i1 < 8 := by omega
      refine lv_iload_n S.1 S.2.1 dX3_forget_2 rfl (lv_at hl 0 rfl) ?_
      refine lv_bipush (v := (nI 8)) S.1 S.2.1 dX3_forget_3 (by decide) ?_
      refine lv_icmp_ge (tgt := 26) S.1 S.2.1 dX3_forget_5 (by decide) (fun c => absurd c (nI_ge (by omega) (by omega))) (fun _ => ?_)
      refine lv_aload_n S.1 S.2.1 dX3_forget_8 rfl (lv_at hl 1 rfl) ?_
      refine mf_numbers S hK hP dX3_forget_9 ?_
      refine lv_bipush (v := (nI 8)) S.1 S.2.1 dX3_forget_12 (by decide) ?_
      refine lv_iload_n S.1 S.2.1 dX3_forget_14 rfl (lv_at hl 2 rfl) ?_
      refine lv_imul S.1 S.2.1 dX3_forget_15 ?_
      refine k_top (pk_mul _ _) ?_
      refine lv_iload_n S.1 S.2.1 dX3_forget_16 rfl (lv_at hl 0 rfl) ?_
      refine lv_iadd S.1 S.2.1 dX3_forget_17 ?_
      refine k_top (nI_add _ _) ?_
      refine lv_iconst (v := (nI 0)) S.1 S.2.1 dX3_forget_18 (by decide) ?_
      refine ms_numbers S hK hP hD hS (j := ((8 * u) + i1)) (by omega) dX3_forget_19 (fun H locs hP hD hS => ?_)
      refine lv_iinc (v := (nI (i1 + 1))) (lv' := [(2, .int (nI (i1 + 1))), (0, .ref (a 0)), (1, .int (nI (u)))]) S.1 S.2.1 dX3_forget_20 hl (k := 0) rfl (nI_add _ 1) (by decide) rfl (fun ls hl => ?_)
      refine lv_goto (tgt := 2) S.1 S.2.1 dX3_forget_23 (by decide) ?_
      exact ih1 (i1 + 1) (mS 9 ((8 * u) + i1) (nI 0) τ1) (by omega) (itr_step he1 (by first | (simp only [fFg, reduceIte, Bool.false_eq_true, eq_self_iff_true, if_true, if_false]; done) | with_reducible rfl)) _ _ hP hD hS _ (lv_sub hl [0, 1, 2] rfl)
  exact lp1 8 0 τ (by omega) rfl _ _ hP hD hS _ (lv_sub hl [0, 1, 2] rfl)
theorem call_X3_forget {p : Program} {l : Launch} {e : Env} {R : Room} {s : State} {m : MethodId} {args : Array Value} {below : List Frame} {meth : Method} {c : Code} {H : Heap} {locs : List Loc} {cells slots : Nat} {Q : State → Prop} {cc : ByteArray} {pc nL : Nat} {ls : Array Slot} {rest : List Value} {D : va_G} {A : Nat → Prop} {w0 : Cond} {X : va_W} {cy : Nat → ClassId} {a : Nat → Nat} {τ : MS} (S : CallFix p m c cc nL s args (w0 :: gw) RX3) (hK : va_K D vwCl (tyA cy) s) (hN : kN [] s) (hP : va_P D vwCl (X ++ mB cy a τ) H) (hD : va_D A (X ++ mB cy a τ)) (hS : va_S A s.heap H locs) (hA : ∀ q, s.heap.size ≤ q → A q) {u : Nat} (hu : u < 8) (hsz : ls.size = nL) (hW : (rest.map fun v => v.category).sum ≤ 8) (hR : 0 + 1 ≤ R.frames ∧ 8 + (3 + 11) + 32 * 0 ≤ R.locals) (hdg : decode cc pc = .ok (.invokevirtual 130, 3)) (hfc : cells ≤ R.cells ∧ slots ≤ R.slots)
    (kk : ∀ (H1 : Heap) (locs1 : List Loc), va_P D vwCl (X ++ mB cy a (mForget u τ)) H1 → va_D A (X ++ mB cy a (mForget u τ)) → va_S A s.heap H1 locs1 → W p l e R s m args below meth c H1 locs1 cells slots Q (F0 m (pc + 3) ls (rest))) : W p l e R s m args below meth c H locs cells slots Q (F0 m pc ls (.int (nI (u)) :: .ref (a 0) :: rest)) :=
  kgo_v (va_runV (As := [.int (nI (u))]) (rest := rest) S (c_X3_forget l D cy a X τ u hu H.size) (cwV 1 S.2.2.2.2 (gw_good_1 wm_623 (gw_good_1 wm_625 (gw_good_1 wm_39 (gw_good_1 wm_50 (gw_good_in wm_626))))) rfl rfl rfl (by decide +kernel) hR) ⟨kblind kNok.nil, mrecv hK hP, kpre kNok.nil hN hK hP hD⟩ rfl rfl hsz rfl (lv_room hW) hdg hfc) hD hS hA kk
set_option maxHeartbeats 400000 in
set_option maxRecDepth 100000 in
theorem c_X3_grow (l : Launch) (D : va_G) (cy : Nat → ClassId) (a : Nat → Nat) (X : va_W) (τ : MS)   : MetV l yX3_grow cX3_grow 2 (kRm 0 0 0) D (tyA cy) [] [.ref (a 0)] (X ++ mB cy a τ) (X ++ mB cy a (mGrow τ)) 0 0 := by
  intro sz
  refine kmet (own := RX3) (by decide) rfl (Nat.le_of_ble_eq_true rfl) (fun p e s m args below meth c S hr hlk hK hN hP hD hsz hA hnm ls hl => ?_)
  have hS : va_S (va_A (X ++ mB cy a τ) sz) s.heap s.heap [] := va_S.rf
  have hl : lv_has ls 2 [(0, .ref (a 0))] := hl
  refine lv_iconst (v := (nI 0)) S.1 S.2.1 dX3_grow_0 (by decide) ?_
  refine lv_istore_n (lv' := [(1, .int (nI 0)), (0, .ref (a 0))]) S.1 S.2.1 dX3_grow_1 rfl hl (by decide) rfl (fun ls hl => ?_)
  have lp1 : ∀ (n1 i1 : Nat) (τ1 : MS), i1 + n1 = 64 → itr fG1 n1 i1 τ1 = itr fG1 64 0 τ → ∀ (H : Heap) (locs : List Loc), va_P D vwCl (X ++ mB cy a τ1) H → va_D (va_A (X ++ mB cy a τ) sz) (X ++ mB cy a τ1) → va_S (va_A (X ++ mB cy a τ) sz) s.heap H locs → ∀ ls : Array Slot, lv_has ls 2 [(1, .int (nI (i1))), (0, .ref (a 0))] → W p l e (kRm 0 0 0) s m args below meth c H locs 0 0 (MQ below (kQv D (X ++ mB cy a τ) (X ++ mB cy a (mGrow τ)) sz) args s 0 0 (va_A (X ++ mB cy a τ) sz)) (F0 m 2 ls []) := by
    intro n1
    induction n1 with
    | zero =>
      intro i1 τ1 hi1 he1 H locs hP hD hS ls hl
      have hi1 : i1 = 64 := by omega
      have he1 : τ1 = itr fG1 64 0 τ := he1
      refine lv_iload_n S.1 S.2.1 dX3_grow_2 rfl (lv_at hl 0 rfl) ?_
      refine lv_bipush (v := (nI 64)) S.1 S.2.1 dX3_grow_3 (by decide) ?_
      refine lv_icmp_ge (tgt := 51) S.1 S.2.1 dX3_grow_5 (by decide) (fun _ => ?_) (fun c => absurd (nI_le (by omega) (by omega)) c)
      refine lv_iconst (v := (nI 0)) S.1 S.2.1 dX3_grow_51 (by decide) ?_
      refine lv_istore_n (lv' := [(1, .int (nI 0)), (0, .ref (a 0))]) S.1 S.2.1 dX3_grow_52 rfl hl (by decide) rfl (fun ls hl => ?_)
      have lp3 : ∀ (n3 i3 : Nat) (τ3 : MS), i3 + n3 = 512 → itr fG2 n3 i3 τ3 = itr fG2 512 0 τ1 → ∀ (H : Heap) (locs : List Loc), va_P D vwCl (X ++ mB cy a τ3) H → va_D (va_A (X ++ mB cy a τ) sz) (X ++ mB cy a τ3) → va_S (va_A (X ++ mB cy a τ) sz) s.heap H locs → ∀ ls : Array Slot, lv_has ls 2 [(1, .int (nI (i3))), (0, .ref (a 0))] → W p l e (kRm 0 0 0) s m args below meth c H locs 0 0 (MQ below (kQv D (X ++ mB cy a τ) (X ++ mB cy a (mGrow τ)) sz) args s 0 0 (va_A (X ++ mB cy a τ) sz)) (F0 m 53 ls []) := by
        intro n3
        induction n3 with
        | zero =>
          intro i3 τ3 hi3 he3 H locs hP hD hS ls hl
          have hi3 : i3 = 512 := by omega
          have he3 : τ3 = itr fG2 512 0 τ1 := he3
          refine lv_iload_n S.1 S.2.1 dX3_grow_53 rfl (lv_at hl 0 rfl) ?_
          refine lv_sipush (v := (nI 512)) S.1 S.2.1 dX3_grow_54 (by decide) ?_
          refine lv_icmp_ge (tgt := 103) S.1 S.2.1 dX3_grow_57 (by decide) (fun _ => ?_) (fun c => absurd (nI_le (by omega) (by omega)) c)
          have e9 : mGrow τ = τ3 := by first | (simp only [mGrow, ← he1, ← he3, reduceIte, Bool.false_eq_true, eq_self_iff_true, if_true, if_false]; done) | with_reducible rfl
          rw [e9]
          exact kret_v S hr hlk hP hD hS dX3_grow_103
        | succ n3 ih3 =>
          intro i3 τ3 hi3 he3 H locs hP hD hS ls hl
          have hlt3 : i3 < 512 := by omega
          refine lv_iload_n S.1 S.2.1 dX3_grow_53 rfl (lv_at hl 0 rfl) ?_
          refine lv_sipush (v := (nI 512)) S.1 S.2.1 dX3_grow_54 (by decide) ?_
          refine lv_icmp_ge (tgt := 103) S.1 S.2.1 dX3_grow_57 (by decide) (fun c => absurd c (nI_ge (by omega) (by omega))) (fun _ => ?_)
          refine lv_aload_n S.1 S.2.1 dX3_grow_60 rfl (lv_at hl 1 rfl) ?_
          refine mf_flightAges S hK hP dX3_grow_61 ?_
          refine lv_iload_n S.1 S.2.1 dX3_grow_64 rfl (lv_at hl 0 rfl) ?_
          refine lv_dup2_11 S.1 S.2.1 dX3_grow_65 rfl rfl ?_
          refine ma_flightAges S hK hP (j := i3) (by omega) dX3_grow_66 ?_
          refine lv_iconst (v := (nI 1)) S.1 S.2.1 dX3_grow_67 (by decide) ?_
          refine lv_iadd S.1 S.2.1 dX3_grow_68 ?_
          refine ms_flightAges S hK hP hD hS (j := i3) (by omega) dX3_grow_69 (fun H locs hP hD hS => ?_)
          refine lv_aload_n S.1 S.2.1 dX3_grow_70 rfl (lv_at hl 1 rfl) ?_
          refine mf_flightNumbers S hK hP dX3_grow_71 ?_
          refine lv_iload_n S.1 S.2.1 dX3_grow_74 rfl (lv_at hl 0 rfl) ?_
          refine lv_aload_n S.1 S.2.1 dX3_grow_75 rfl (lv_at hl 1 rfl) ?_
          refine mf_flightAges S hK hP dX3_grow_76 ?_
          refine lv_iload_n S.1 S.2.1 dX3_grow_79 rfl (lv_at hl 0 rfl) ?_
          refine ma_flightAges S hK hP (j := i3) (by omega) dX3_grow_80 ?_
          refine lv_bipush (v := (nI 60)) S.1 S.2.1 dX3_grow_81 (by decide) ?_
          refine lv_icmp_lt (tgt := 90) S.1 S.2.1 dX3_grow_83 (by decide) (fun c6 => ?_) (fun c6 => ?_)
          · refine lv_aload_n S.1 S.2.1 dX3_grow_90 rfl (lv_at hl 1 rfl) ?_
            refine mf_flightNumbers S hK hP dX3_grow_91 ?_
            refine lv_iload_n S.1 S.2.1 dX3_grow_94 rfl (lv_at hl 0 rfl) ?_
            refine ma_flightNumbers S hK hP (j := i3) (by omega) dX3_grow_95 ?_
            refine ms_flightNumbers S hK hP hD hS (j := i3) (by omega) dX3_grow_96 (fun H locs hP hD hS => ?_)
            refine lv_iinc (v := (nI (i3 + 1))) (lv' := [(1, .int (nI (i3 + 1))), (0, .ref (a 0))]) S.1 S.2.1 dX3_grow_97 hl (k := 0) rfl (nI_add _ 1) (by decide) rfl (fun ls hl => ?_)
            refine lv_goto (tgt := 53) S.1 S.2.1 dX3_grow_100 (by decide) ?_
            exact ih3 (i3 + 1) (mS 12 i3 ((mS 13 i3 ((τ3 13 i3) + (nI 1)) τ3) 12 i3) (mS 13 i3 ((τ3 13 i3) + (nI 1)) τ3)) (by omega) (itr_step he3 (by first | (simp only [fG2, mG0, ← he1, c6, reduceIte, Bool.false_eq_true, eq_self_iff_true, if_true, if_false]; done) | with_reducible rfl)) _ _ hP hD hS _ (lv_sub hl [0, 1] rfl)
          · refine lv_iconst (v := (nI 0)) S.1 S.2.1 dX3_grow_86 (by decide) ?_
            refine lv_goto (tgt := 96) S.1 S.2.1 dX3_grow_87 (by decide) ?_
            refine ms_flightNumbers S hK hP hD hS (j := i3) (by omega) dX3_grow_96 (fun H locs hP hD hS => ?_)
            refine lv_iinc (v := (nI (i3 + 1))) (lv' := [(1, .int (nI (i3 + 1))), (0, .ref (a 0))]) S.1 S.2.1 dX3_grow_97 hl (k := 0) rfl (nI_add _ 1) (by decide) rfl (fun ls hl => ?_)
            refine lv_goto (tgt := 53) S.1 S.2.1 dX3_grow_100 (by decide) ?_
            exact ih3 (i3 + 1) (mS 12 i3 (nI 0) (mS 13 i3 ((τ3 13 i3) + (nI 1)) τ3)) (by omega) (itr_step he3 (by first | (simp only [fG2, mG0, ← he1, c6, reduceIte, Bool.false_eq_true, eq_self_iff_true, if_true, if_false]; done) | with_reducible rfl)) _ _ hP hD hS _ (lv_sub hl [0, 1] rfl)
      exact lp3 512 0 τ1 (by omega) rfl _ _ hP hD hS _ (lv_sub hl [0, 1] rfl)
    | succ n1 ih1 =>
      intro i1 τ1 hi1 he1 H locs hP hD hS ls hl
      have hlt1 : i1 < 64 := by omega
      refine lv_iload_n S.1 S.2.1 dX3_grow_2 rfl (lv_at hl 0 rfl) ?_
      refine lv_bipush (v := (nI 64)) S.1 S.2.1 dX3_grow_3 (by decide) ?_
      refine lv_icmp_ge (tgt := 51) S.1 S.2.1 dX3_grow_5 (by decide) (fun c => absurd c (nI_ge (by omega) (by omega))) (fun _ => ?_)
      refine lv_aload_n S.1 S.2.1 dX3_grow_8 rfl (lv_at hl 1 rfl) ?_
      refine mf_ages S hK hP dX3_grow_9 ?_
      refine lv_iload_n S.1 S.2.1 dX3_grow_12 rfl (lv_at hl 0 rfl) ?_
      refine lv_dup2_11 S.1 S.2.1 dX3_grow_13 rfl rfl ?_
      refine ma_ages S hK hP (j := i1) (by omega) dX3_grow_14 ?_
      refine lv_iconst (v := (nI 1)) S.1 S.2.1 dX3_grow_15 (by decide) ?_
      refine lv_iadd S.1 S.2.1 dX3_grow_16 ?_
      refine ms_ages S hK hP hD hS (j := i1) (by omega) dX3_grow_17 (fun H locs hP hD hS => ?_)
      refine lv_aload_n S.1 S.2.1 dX3_grow_18 rfl (lv_at hl 1 rfl) ?_
      refine mf_numbers S hK hP dX3_grow_19 ?_
      refine lv_iload_n S.1 S.2.1 dX3_grow_22 rfl (lv_at hl 0 rfl) ?_
      refine lv_aload_n S.1 S.2.1 dX3_grow_23 rfl (lv_at hl 1 rfl) ?_
      refine mf_ages S hK hP dX3_grow_24 ?_
      refine lv_iload_n S.1 S.2.1 dX3_grow_27 rfl (lv_at hl 0 rfl) ?_
      refine ma_ages S hK hP (j := i1) (by omega) dX3_grow_28 ?_
      refine lv_bipush (v := (nI 60)) S.1 S.2.1 dX3_grow_29 (by decide) ?_
      refine lv_icmp_lt (tgt := 38) S.1 S.2.1 dX3_grow_31 (by decide) (fun c8 => ?_) (fun c8 => ?_)
      · refine lv_aload_n S.1 S.2.1 dX3_grow_38 rfl (lv_at hl 1 rfl) ?_
        refine mf_numbers S hK hP dX3_grow_39 ?_
        refine lv_iload_n S.1 S.2.1 dX3_grow_42 rfl (lv_at hl 0 rfl) ?_
        refine ma_numbers S hK hP (j := i1) (by omega) dX3_grow_43 ?_
        refine ms_numbers S hK hP hD hS (j := i1) (by omega) dX3_grow_44 (fun H locs hP hD hS => ?_)
        refine lv_iinc (v := (nI (i1 + 1))) (lv' := [(1, .int (nI (i1 + 1))), (0, .ref (a 0))]) S.1 S.2.1 dX3_grow_45 hl (k := 0) rfl (nI_add _ 1) (by decide) rfl (fun ls hl => ?_)
        refine lv_goto (tgt := 2) S.1 S.2.1 dX3_grow_48 (by decide) ?_
        exact ih1 (i1 + 1) (mS 9 i1 ((mS 10 i1 ((τ1 10 i1) + (nI 1)) τ1) 9 i1) (mS 10 i1 ((τ1 10 i1) + (nI 1)) τ1)) (by omega) (itr_step he1 (by first | (simp only [fG1, mG0, c8, reduceIte, Bool.false_eq_true, eq_self_iff_true, if_true, if_false]; done) | with_reducible rfl)) _ _ hP hD hS _ (lv_sub hl [0, 1] rfl)
      · refine lv_iconst (v := (nI 0)) S.1 S.2.1 dX3_grow_34 (by decide) ?_
        refine lv_goto (tgt := 44) S.1 S.2.1 dX3_grow_35 (by decide) ?_
        refine ms_numbers S hK hP hD hS (j := i1) (by omega) dX3_grow_44 (fun H locs hP hD hS => ?_)
        refine lv_iinc (v := (nI (i1 + 1))) (lv' := [(1, .int (nI (i1 + 1))), (0, .ref (a 0))]) S.1 S.2.1 dX3_grow_45 hl (k := 0) rfl (nI_add _ 1) (by decide) rfl (fun ls hl => ?_)
        refine lv_goto (tgt := 2) S.1 S.2.1 dX3_grow_48 (by decide) ?_
        exact ih1 (i1 + 1) (mS 9 i1 (nI 0) (mS 10 i1 ((τ1 10 i1) + (nI 1)) τ1)) (by omega) (itr_step he1 (by first | (simp only [fG1, mG0, c8, reduceIte, Bool.false_eq_true, eq_self_iff_true, if_true, if_false]; done) | with_reducible rfl)) _ _ hP hD hS _ (lv_sub hl [0, 1] rfl)
  exact lp1 64 0 τ (by omega) rfl _ _ hP hD hS _ (lv_sub hl [0, 1] rfl)
theorem call_X3_grow {p : Program} {l : Launch} {e : Env} {R : Room} {s : State} {m : MethodId} {args : Array Value} {below : List Frame} {meth : Method} {c : Code} {H : Heap} {locs : List Loc} {cells slots : Nat} {Q : State → Prop} {cc : ByteArray} {pc nL : Nat} {ls : Array Slot} {rest : List Value} {D : va_G} {A : Nat → Prop} {w0 : Cond} {X : va_W} {cy : Nat → ClassId} {a : Nat → Nat} {τ : MS} (S : CallFix p m c cc nL s args (w0 :: gw) RX3) (hK : va_K D vwCl (tyA cy) s) (hN : kN [] s) (hP : va_P D vwCl (X ++ mB cy a τ) H) (hD : va_D A (X ++ mB cy a τ)) (hS : va_S A s.heap H locs) (hA : ∀ q, s.heap.size ≤ q → A q)   (hsz : ls.size = nL) (hW : (rest.map fun v => v.category).sum ≤ 8) (hR : 0 + 1 ≤ R.frames ∧ 8 + (2 + 11) + 32 * 0 ≤ R.locals) (hdg : decode cc pc = .ok (.invokevirtual 133, 3)) (hfc : cells ≤ R.cells ∧ slots ≤ R.slots)
    (kk : ∀ (H1 : Heap) (locs1 : List Loc), va_P D vwCl (X ++ mB cy a (mGrow τ)) H1 → va_D A (X ++ mB cy a (mGrow τ)) → va_S A s.heap H1 locs1 → W p l e R s m args below meth c H1 locs1 cells slots Q (F0 m (pc + 3) ls (rest))) : W p l e R s m args below meth c H locs cells slots Q (F0 m pc ls (.ref (a 0) :: rest)) :=
  kgo_v (va_runV (As := []) (rest := rest) S (c_X3_grow l D cy a X τ   H.size) (cwV 0 S.2.2.2.2 (gw_good_1 wm_639 (gw_good_1 wm_641 (gw_good_1 wm_41 (gw_good_1 wm_50 (gw_good_in wm_642))))) rfl rfl rfl (by decide +kernel) hR) ⟨kblind kNok.nil, mrecv hK hP, kpre kNok.nil hN hK hP hD⟩ rfl rfl hsz rfl (lv_room hW) hdg hfc) hD hS hA kk
set_option maxHeartbeats 400000 in
set_option maxRecDepth 100000 in
theorem c_X3_step (l : Launch) (D : va_G) (cy : Nat → ClassId) (a : Nat → Nat) (X : va_W) (τ : MS) (v : Nat) (f : Nat) (t : Nat) (hv : v < 8) (hf : f < 8) (ht : t < 8) : MetI l yX3_step cX3_step 7 .int (kRm 0 0 0) D (tyA cy) [] [.ref (a 0), .int (nI (v)), .int (nI (f)), .int (nI (t))] (X ++ mB cy a τ) (X ++ mB cy a τ) (mStep τ v f t) 0 0 := by
  intro sz
  refine kmet (own := RX3) (by decide) rfl (Nat.le_of_ble_eq_true rfl) (fun p e s m args below meth c S hr hlk hK hN hP hD hsz hA hnm ls hl => ?_)
  have hS : va_S (va_A (X ++ mB cy a τ) sz) s.heap s.heap [] := va_S.rf
  have hl : lv_has ls 7 [(0, .ref (a 0)), (1, .int (nI (v))), (2, .int (nI (f))), (3, .int (nI (t)))] := hl
  refine lv_bipush (v := (nI 8)) S.1 S.2.1 dX3_step_0 (by decide) ?_
  refine lv_iload_n S.1 S.2.1 dX3_step_2 rfl (lv_at hl 1 rfl) ?_
  refine lv_imul S.1 S.2.1 dX3_step_3 ?_
  refine k_top (pk_mul _ _) ?_
  refine lv_iload_n S.1 S.2.1 dX3_step_4 rfl (lv_at hl 2 rfl) ?_
  refine lv_iadd S.1 S.2.1 dX3_step_5 ?_
  refine k_top (nI_add _ _) ?_
  refine lv_istore (lv' := [(4, .int (nI ((8 * v) + f))), (0, .ref (a 0)), (1, .int (nI (v))), (2, .int (nI (f))), (3, .int (nI (t)))]) S.1 S.2.1 dX3_step_6 hl (by decide) rfl (fun ls hl => ?_)
  refine lv_bipush (v := (nI 8)) S.1 S.2.1 dX3_step_8 (by decide) ?_
  refine lv_iload_n S.1 S.2.1 dX3_step_10 rfl (lv_at hl 2 rfl) ?_
  refine lv_imul S.1 S.2.1 dX3_step_11 ?_
  refine k_top (pk_mul _ _) ?_
  refine lv_iload_n S.1 S.2.1 dX3_step_12 rfl (lv_at hl 4 rfl) ?_
  refine lv_iadd S.1 S.2.1 dX3_step_13 ?_
  refine k_top (nI_add _ _) ?_
  refine lv_istore (lv' := [(5, .int (nI ((8 * v) + t))), (4, .int (nI ((8 * v) + f))), (0, .ref (a 0)), (1, .int (nI (v))), (2, .int (nI (f))), (3, .int (nI (t)))]) S.1 S.2.1 dX3_step_14 hl (by decide) rfl (fun ls hl => ?_)
  refine lv_aload_n S.1 S.2.1 dX3_step_16 rfl (lv_at hl 2 rfl) ?_
  refine mf_numbers S hK hP dX3_step_17 ?_
  refine lv_iload S.1 S.2.1 dX3_step_20 (lv_at hl 1 rfl) ?_
  refine ma_numbers S hK hP (j := ((8 * v) + f)) (by omega) dX3_step_22 ?_
  refine lv_if_le (tgt := 55) S.1 S.2.1 dX3_step_23 (by decide) (fun c1 => ?_) (fun c1 => ?_)
  · refine lv_iconst (v := (nI 0)) S.1 S.2.1 dX3_step_55 (by decide) ?_
    refine lv_istore (lv' := [(6, .int (nI 0)), (5, .int (nI ((8 * v) + t))), (4, .int (nI ((8 * v) + f))), (0, .ref (a 0)), (1, .int (nI (v))), (2, .int (nI (f))), (3, .int (nI (t)))]) S.1 S.2.1 dX3_step_56 hl (by decide) rfl (fun ls hl => ?_)
    refine lv_iload S.1 S.2.1 dX3_step_58 (lv_at hl 0 rfl) ?_
    refine lv_if_eq (tgt := 78) S.1 S.2.1 dX3_step_60 (by decide) (fun _ => ?_) (fun c2 => absurd (by decide) c2)
    refine lv_iconst (v := (nI 0)) S.1 S.2.1 dX3_step_78 (by decide) ?_
    exact kret_i S hr hlk hP hD hS (by first | (simp only [mStep, c1, reduceIte, Bool.false_eq_true, eq_self_iff_true, if_true, if_false]; done) | with_reducible rfl) dX3_step_79
  · refine lv_aload_n S.1 S.2.1 dX3_step_26 rfl (lv_at hl 2 rfl) ?_
    refine mf_numbers S hK hP dX3_step_27 ?_
    refine lv_iload S.1 S.2.1 dX3_step_30 (lv_at hl 0 rfl) ?_
    refine ma_numbers S hK hP (j := ((8 * v) + t)) (by omega) dX3_step_32 ?_
    refine lv_if_le (tgt := 55) S.1 S.2.1 dX3_step_33 (by decide) (fun c3 => ?_) (fun c3 => ?_)
    · refine lv_iconst (v := (nI 0)) S.1 S.2.1 dX3_step_55 (by decide) ?_
      refine lv_istore (lv' := [(6, .int (nI 0)), (5, .int (nI ((8 * v) + t))), (4, .int (nI ((8 * v) + f))), (0, .ref (a 0)), (1, .int (nI (v))), (2, .int (nI (f))), (3, .int (nI (t)))]) S.1 S.2.1 dX3_step_56 hl (by decide) rfl (fun ls hl => ?_)
      refine lv_iload S.1 S.2.1 dX3_step_58 (lv_at hl 0 rfl) ?_
      refine lv_if_eq (tgt := 78) S.1 S.2.1 dX3_step_60 (by decide) (fun _ => ?_) (fun c4 => absurd (by decide) c4)
      refine lv_iconst (v := (nI 0)) S.1 S.2.1 dX3_step_78 (by decide) ?_
      exact kret_i S hr hlk hP hD hS (by first | (simp only [mStep, c1, c3, reduceIte, Bool.false_eq_true, eq_self_iff_true, if_true, if_false]; done) | with_reducible rfl) dX3_step_79
    · refine lv_aload_n S.1 S.2.1 dX3_step_36 rfl (lv_at hl 2 rfl) ?_
      refine mf_tells S hK hP dX3_step_37 ?_
      refine lv_bipush (v := (nI 8)) S.1 S.2.1 dX3_step_40 (by decide) ?_
      refine lv_iload S.1 S.2.1 dX3_step_42 (lv_at hl 0 rfl) ?_
      refine lv_imul S.1 S.2.1 dX3_step_44 ?_
      refine k_top (pk_mul _ _) ?_
      refine lv_iload_n S.1 S.2.1 dX3_step_45 rfl (lv_at hl 4 rfl) ?_
      refine lv_iadd S.1 S.2.1 dX3_step_46 ?_
      refine k_top (nI_add _ _) ?_
      refine ma_tells S hK hP (j := ((8 * ((8 * v) + t)) + f)) (by omega) dX3_step_47 ?_
      refine lv_if_le (tgt := 55) S.1 S.2.1 dX3_step_48 (by decide) (fun c5 => ?_) (fun c5 => ?_)
      · refine lv_iconst (v := (nI 0)) S.1 S.2.1 dX3_step_55 (by decide) ?_
        refine lv_istore (lv' := [(6, .int (nI 0)), (5, .int (nI ((8 * v) + t))), (4, .int (nI ((8 * v) + f))), (0, .ref (a 0)), (1, .int (nI (v))), (2, .int (nI (f))), (3, .int (nI (t)))]) S.1 S.2.1 dX3_step_56 hl (by decide) rfl (fun ls hl => ?_)
        refine lv_iload S.1 S.2.1 dX3_step_58 (lv_at hl 0 rfl) ?_
        refine lv_if_eq (tgt := 78) S.1 S.2.1 dX3_step_60 (by decide) (fun _ => ?_) (fun c6 => absurd (by decide) c6)
        refine lv_iconst (v := (nI 0)) S.1 S.2.1 dX3_step_78 (by decide) ?_
        exact kret_i S hr hlk hP hD hS (by first | (simp only [mStep, c1, c3, c5, reduceIte, Bool.false_eq_true, eq_self_iff_true, if_true, if_false]; done) | with_reducible rfl) dX3_step_79
      · refine lv_iconst (v := (nI 1)) S.1 S.2.1 dX3_step_51 (by decide) ?_
        refine lv_goto (tgt := 56) S.1 S.2.1 dX3_step_52 (by decide) ?_
        refine lv_istore (lv' := [(6, .int (nI 1)), (5, .int (nI ((8 * v) + t))), (4, .int (nI ((8 * v) + f))), (0, .ref (a 0)), (1, .int (nI (v))), (2, .int (nI (f))), (3, .int (nI (t)))]) S.1 S.2.1 dX3_step_56 hl (by decide) rfl (fun ls hl => ?_)
        refine lv_iload S.1 S.2.1 dX3_step_58 (lv_at hl 0 rfl) ?_
        refine lv_if_eq (tgt := 78) S.1 S.2.1 dX3_step_60 (by decide) (fun c7 => absurd c7 (by decide)) (fun _ => ?_)
        refine lv_aload_n S.1 S.2.1 dX3_step_63 rfl (lv_at hl 3 rfl) ?_
        refine mf_tells S hK hP dX3_step_64 ?_
        refine lv_bipush (v := (nI 8)) S.1 S.2.1 dX3_step_67 (by decide) ?_
        refine lv_iload S.1 S.2.1 dX3_step_69 (lv_at hl 2 rfl) ?_
        refine lv_imul S.1 S.2.1 dX3_step_71 ?_
        refine k_top (pk_mul _ _) ?_
        refine lv_iload_n S.1 S.2.1 dX3_step_72 rfl (lv_at hl 6 rfl) ?_
        refine lv_iadd S.1 S.2.1 dX3_step_73 ?_
        refine k_top (nI_add _ _) ?_
        refine ma_tells S hK hP (j := ((8 * ((8 * v) + f)) + t)) (by omega) dX3_step_74 ?_
        refine lv_goto (tgt := 79) S.1 S.2.1 dX3_step_75 (by decide) ?_
        exact kret_i S hr hlk hP hD hS (by first | (simp only [mStep, c1, c3, c5, reduceIte, Bool.false_eq_true, eq_self_iff_true, if_true, if_false]; done) | with_reducible rfl) dX3_step_79
theorem call_X3_step {p : Program} {l : Launch} {e : Env} {R : Room} {s : State} {m : MethodId} {args : Array Value} {below : List Frame} {meth : Method} {c : Code} {H : Heap} {locs : List Loc} {cells slots : Nat} {Q : State → Prop} {cc : ByteArray} {pc nL : Nat} {ls : Array Slot} {rest : List Value} {D : va_G} {A : Nat → Prop} {w0 : Cond} {X : va_W} {cy : Nat → ClassId} {a : Nat → Nat} {τ : MS} (S : CallFix p m c cc nL s args (w0 :: gw) RX3) (hK : va_K D vwCl (tyA cy) s) (hN : kN [] s) (hP : va_P D vwCl (X ++ mB cy a τ) H) (hD : va_D A (X ++ mB cy a τ)) (hS : va_S A s.heap H locs) (hA : ∀ q, s.heap.size ≤ q → A q) {v : Nat} {f : Nat} {t : Nat} (hv : v < 8) (hf : f < 8) (ht : t < 8) (hsz : ls.size = nL) (hW : (rest.map fun v => v.category).sum ≤ 8) (hR : 0 + 1 ≤ R.frames ∧ 8 + (7 + 11) + 32 * 0 ≤ R.locals) (hdg : decode cc pc = .ok (.invokevirtual 145, 3)) (hfc : cells ≤ R.cells ∧ slots ≤ R.slots)
    (kk : ∀ (H1 : Heap) (locs1 : List Loc), va_P D vwCl (X ++ mB cy a τ) H1 → va_D A (X ++ mB cy a τ) → va_S A s.heap H1 locs1 → W p l e R s m args below meth c H1 locs1 cells slots Q (F0 m (pc + 3) ls (.int (mStep τ v f t) :: rest))) : W p l e R s m args below meth c H locs cells slots Q (F0 m pc ls (.int (nI (t)) :: .int (nI (f)) :: .int (nI (v)) :: .ref (a 0) :: rest)) :=
  kgo_i (va_runV (As := [.int (nI (v)), .int (nI (f)), .int (nI (t))]) (rest := rest) S (c_X3_step l D cy a X τ v f t hv hf ht H.size) (cwV 3 S.2.2.2.2 (gw_good_1 wm_659 (gw_good_1 wm_661 (gw_good_1 wm_46 (gw_good_1 wm_50 (gw_good_in wm_662))))) rfl rfl rfl (by decide +kernel) hR) ⟨kblind kNok.nil, mrecv hK hP, kpre kNok.nil hN hK hP hD⟩ rfl rfl hsz rfl (lv_room hW) hdg hfc) hD hS hA kk
set_option maxHeartbeats 400000 in
set_option maxRecDepth 100000 in
theorem c_X3_measure (l : Launch) (D : va_G) (cy : Nat → ClassId) (a : Nat → Nat) (X : va_W) (τ : MS) (v : Nat) (g : Nat) (hv : v < 8) (hg : g < 8) (hst : mStops v mFuel (mD0 g τ)) : MetV l yX3_measure cX3_measure 7 (kRm 1 0 0) D (tyA cy) [] [.ref (a 0), .int (nI (v)), .int (nI (g))] (X ++ mB cy a τ) (X ++ mB cy a (mMeas v g τ)) 0 0 := by
  intro sz
  refine kmet (own := RX3) (by decide) rfl (Nat.le_of_ble_eq_true rfl) (fun p e s m args below meth c S hr hlk hK hN hP hD hsz hA hnm ls hl => ?_)
  have hS : va_S (va_A (X ++ mB cy a τ) sz) s.heap s.heap [] := va_S.rf
  have hl : lv_has ls 7 [(0, .ref (a 0)), (1, .int (nI (v))), (2, .int (nI (g)))] := hl
  refine lv_iconst (v := (nI 0)) S.1 S.2.1 dX3_measure_0 (by decide) ?_
  refine lv_istore_n (lv' := [(3, .int (nI 0)), (0, .ref (a 0)), (1, .int (nI (v))), (2, .int (nI (g)))]) S.1 S.2.1 dX3_measure_1 rfl hl (by decide) rfl (fun ls hl => ?_)
  have lp1 : ∀ (n1 i1 : Nat) (τ1 : MS), i1 + n1 = 8 → itr (fD0 g) n1 i1 τ1 = itr (fD0 g) 8 0 τ → ∀ (H : Heap) (locs : List Loc), va_P D vwCl (X ++ mB cy a τ1) H → va_D (va_A (X ++ mB cy a τ) sz) (X ++ mB cy a τ1) → va_S (va_A (X ++ mB cy a τ) sz) s.heap H locs → ∀ ls : Array Slot, lv_has ls 7 [(3, .int (nI (i1))), (0, .ref (a 0)), (1, .int (nI (v))), (2, .int (nI (g)))] → W p l e (kRm 1 0 0) s m args below meth c H locs 0 0 (MQ below (kQv D (X ++ mB cy a τ) (X ++ mB cy a (mMeas v g τ)) sz) args s 0 0 (va_A (X ++ mB cy a τ) sz)) (F0 m 2 ls []) := by
    intro n1
    induction n1 with
    | zero =>
      intro i1 τ1 hi1 he1 H locs hP hD hS ls hl
      have hi1 : i1 = 8 := by omega
      have he1 : τ1 = itr (fD0 g) 8 0 τ := he1
      refine lv_iload_n S.1 S.2.1 dX3_measure_2 rfl (lv_at hl 0 rfl) ?_
      refine lv_bipush (v := (nI 8)) S.1 S.2.1 dX3_measure_3 (by decide) ?_
      refine lv_icmp_ge (tgt := 30) S.1 S.2.1 dX3_measure_5 (by decide) (fun _ => ?_) (fun c => absurd (nI_le (by omega) (by omega)) c)
      refine lv_iconst (v := (nI 1)) S.1 S.2.1 dX3_measure_30 (by decide) ?_
      refine lv_istore_n (lv' := [(3, .int (nI 1)), (0, .ref (a 0)), (1, .int (nI (v))), (2, .int (nI (g)))]) S.1 S.2.1 dX3_measure_31 rfl hl (by decide) rfl (fun ls hl => ?_)
      have lp3 : ∀ (n3 : Nat) (τ3 : MS) (x3 : Int32), ¬ x3 = 0 → mStops v n3 τ3 → mWhile v n3 τ3 = mWhile v mFuel τ1 → ∀ (H : Heap) (locs : List Loc), va_P D vwCl (X ++ mB cy a τ3) H → va_D (va_A (X ++ mB cy a τ) sz) (X ++ mB cy a τ3) → va_S (va_A (X ++ mB cy a τ) sz) s.heap H locs → ∀ ls : Array Slot, lv_has ls 7 [(3, .int (x3)), (0, .ref (a 0)), (1, .int (nI (v))), (2, .int (nI (g)))] → W p l e (kRm 1 0 0) s m args below meth c H locs 0 0 (MQ below (kQv D (X ++ mB cy a τ) (X ++ mB cy a (mMeas v g τ)) sz) args s 0 0 (va_A (X ++ mB cy a τ) sz)) (F0 m 32 ls []) := by
        intro n3
        induction n3 with
        | zero =>
          intro τ3 x3 hx hst; exact False.elim hst
        | succ n3 ih3 =>
          intro τ3 x3 hx3 hst3 he3 H locs hP hD hS ls hl
          refine lv_iload_n S.1 S.2.1 dX3_measure_32 rfl (lv_at hl 0 rfl) ?_
          refine lv_if_eq (tgt := 150) S.1 S.2.1 dX3_measure_33 (by decide) (fun c => absurd c hx3) (fun _ => ?_)
          refine lv_iconst (v := (nI 0)) S.1 S.2.1 dX3_measure_36 (by decide) ?_
          refine lv_istore_n (lv' := [(3, .int (nI 0)), (0, .ref (a 0)), (1, .int (nI (v))), (2, .int (nI (g)))]) S.1 S.2.1 dX3_measure_37 rfl hl (by decide) rfl (fun ls hl => ?_)
          refine lv_iconst (v := (nI 0)) S.1 S.2.1 dX3_measure_38 (by decide) ?_
          refine lv_istore (lv' := [(4, .int (nI 0)), (3, .int (nI 0)), (0, .ref (a 0)), (1, .int (nI (v))), (2, .int (nI (g)))]) S.1 S.2.1 dX3_measure_39 hl (by decide) rfl (fun ls hl => ?_)
          have lp4 : ∀ (n4 i4 : Nat) (τ4 : MS) (x4_0 : Int32), i4 + n4 = 8 → itr (fD2 v) n4 i4 (τ4, x4_0) = itr (fD2 v) 8 0 (τ3, (nI 0)) → ∀ (H : Heap) (locs : List Loc), va_P D vwCl (X ++ mB cy a τ4) H → va_D (va_A (X ++ mB cy a τ) sz) (X ++ mB cy a τ4) → va_S (va_A (X ++ mB cy a τ) sz) s.heap H locs → ∀ ls : Array Slot, lv_has ls 7 [(4, .int (nI (i4))), (3, .int (x4_0)), (0, .ref (a 0)), (1, .int (nI (v))), (2, .int (nI (g)))] → W p l e (kRm 1 0 0) s m args below meth c H locs 0 0 (MQ below (kQv D (X ++ mB cy a τ) (X ++ mB cy a (mMeas v g τ)) sz) args s 0 0 (va_A (X ++ mB cy a τ) sz)) (F0 m 41 ls []) := by
            intro n4
            induction n4 with
            | zero =>
              intro i4 τ4 x4_0 hi4 he4 H locs hP hD hS ls hl
              have hi4 : i4 = 8 := by omega
              have he4 : (τ4, x4_0) = itr (fD2 v) 8 0 (τ3, (nI 0)) := he4
              refine lv_iload S.1 S.2.1 dX3_measure_41 (lv_at hl 0 rfl) ?_
              refine lv_bipush (v := (nI 8)) S.1 S.2.1 dX3_measure_43 (by decide) ?_
              refine lv_icmp_ge (tgt := 147) S.1 S.2.1 dX3_measure_45 (by decide) (fun _ => ?_) (fun c => absurd (nI_le (by omega) (by omega)) c)
              refine lv_goto (tgt := 32) S.1 S.2.1 dX3_measure_147 (by decide) ?_
              have hr3 : mRnd v τ3 = (τ4, x4_0) := by simp only [mRnd, ← he1, ← he4]
              by_cases hz3 : x4_0 = 0
              · have hf3 : τ4 = mWhile v mFuel τ1 := mWhile_last he3 hr3 hz3
                refine lv_iload_n S.1 S.2.1 dX3_measure_32 rfl (lv_at hl 1 rfl) ?_
                refine lv_if_eq (tgt := 150) S.1 S.2.1 dX3_measure_33 (by decide) (fun _ => ?_) (fun c => absurd hz3 c)
                have e9 : mMeas v g τ = τ4 := by first | (simp only [mMeas, mD0, ← he1, ← hf3, reduceIte, Bool.false_eq_true, eq_self_iff_true, if_true, if_false]; done) | with_reducible rfl
                rw [e9]
                exact kret_v S hr hlk hP hD hS dX3_measure_150
              · exact ih3 τ4 x4_0 hz3 (mStops_next hst3 hr3 hz3) (mWhile_next he3 hr3 hz3) _ _ hP hD hS _ (lv_sub hl [1, 2, 3, 4] rfl)
            | succ n4 ih4 =>
              intro i4 τ4 x4_0 hi4 he4 H locs hP hD hS ls hl
              have hlt4 : i4 < 8 := by omega
              refine lv_iload S.1 S.2.1 dX3_measure_41 (lv_at hl 0 rfl) ?_
              refine lv_bipush (v := (nI 8)) S.1 S.2.1 dX3_measure_43 (by decide) ?_
              refine lv_icmp_ge (tgt := 147) S.1 S.2.1 dX3_measure_45 (by decide) (fun c => absurd c (nI_ge (by omega) (by omega))) (fun _ => ?_)
              refine lv_iconst (v := (nI 0)) S.1 S.2.1 dX3_measure_48 (by decide) ?_
              refine lv_istore (lv' := [(5, .int (nI 0)), (4, .int (nI (i4))), (3, .int (x4_0)), (0, .ref (a 0)), (1, .int (nI (v))), (2, .int (nI (g)))]) S.1 S.2.1 dX3_measure_49 hl (by decide) rfl (fun ls hl => ?_)
              have lp7 : ∀ (n7 i7 : Nat) (τ7 : MS) (x7_0 : Int32), i7 + n7 = 8 → itr (fD3 v i4) n7 i7 (τ7, x7_0) = itr (fD3 v i4) 8 0 (τ4, (x4_0)) → ∀ (H : Heap) (locs : List Loc), va_P D vwCl (X ++ mB cy a τ7) H → va_D (va_A (X ++ mB cy a τ) sz) (X ++ mB cy a τ7) → va_S (va_A (X ++ mB cy a τ) sz) s.heap H locs → ∀ ls : Array Slot, lv_has ls 7 [(5, .int (nI (i7))), (4, .int (nI (i4))), (3, .int (x7_0)), (0, .ref (a 0)), (1, .int (nI (v))), (2, .int (nI (g)))] → W p l e (kRm 1 0 0) s m args below meth c H locs 0 0 (MQ below (kQv D (X ++ mB cy a τ) (X ++ mB cy a (mMeas v g τ)) sz) args s 0 0 (va_A (X ++ mB cy a τ) sz)) (F0 m 51 ls []) := by
                intro n7
                induction n7 with
                | zero =>
                  intro i7 τ7 x7_0 hi7 he7 H locs hP hD hS ls hl
                  have hi7 : i7 = 8 := by omega
                  have he7 : (τ7, x7_0) = itr (fD3 v i4) 8 0 (τ4, (x4_0)) := he7
                  refine lv_iload S.1 S.2.1 dX3_measure_51 (lv_at hl 0 rfl) ?_
                  refine lv_bipush (v := (nI 8)) S.1 S.2.1 dX3_measure_53 (by decide) ?_
                  refine lv_icmp_ge (tgt := 141) S.1 S.2.1 dX3_measure_55 (by decide) (fun _ => ?_) (fun c => absurd (nI_le (by omega) (by omega)) c)
                  refine lv_iinc (v := (nI (i4 + 1))) (lv' := [(4, .int (nI (i4 + 1))), (5, .int (nI (i7))), (3, .int (x7_0)), (0, .ref (a 0)), (1, .int (nI (v))), (2, .int (nI (g)))]) S.1 S.2.1 dX3_measure_141 hl (k := 1) rfl (nI_add _ 1) (by decide) rfl (fun ls hl => ?_)
                  refine lv_goto (tgt := 41) S.1 S.2.1 dX3_measure_144 (by decide) ?_
                  exact ih4 (i4 + 1) τ7 ((x7_0)) (by omega) (itr_step he4 (by first | (simp only [fD2, ← he1, ← he7, reduceIte, Bool.false_eq_true, eq_self_iff_true, if_true, if_false]; done) | with_reducible rfl)) _ _ hP hD hS _ (lv_sub hl [0, 2, 3, 4, 5] rfl)
                | succ n7 ih7 =>
                  intro i7 τ7 x7_0 hi7 he7 H locs hP hD hS ls hl
                  have hlt7 : i7 < 8 := by omega
                  refine lv_iload S.1 S.2.1 dX3_measure_51 (lv_at hl 0 rfl) ?_
                  refine lv_bipush (v := (nI 8)) S.1 S.2.1 dX3_measure_53 (by decide) ?_
                  refine lv_icmp_ge (tgt := 141) S.1 S.2.1 dX3_measure_55 (by decide) (fun c => absurd c (nI_ge (by omega) (by omega))) (fun _ => ?_)
                  refine lv_aload_n S.1 S.2.1 dX3_measure_58 rfl (lv_at hl 3 rfl) ?_
                  refine lv_iload_n S.1 S.2.1 dX3_measure_59 rfl (lv_at hl 4 rfl) ?_
                  refine lv_iload S.1 S.2.1 dX3_measure_60 (lv_at hl 1 rfl) ?_
                  refine lv_iload S.1 S.2.1 dX3_measure_62 (lv_at hl 0 rfl) ?_
                  refine call_X3_step S hK hN hP hD hS hA (v := v) (f := i4) (t := i7) (by omega) (by omega) (by omega) hl.1 (Nat.le_of_ble_eq_true rfl) ⟨Nat.le_of_ble_eq_true rfl, Nat.le_of_ble_eq_true rfl⟩ dX3_measure_64 ⟨Nat.le_refl _, Nat.le_refl _⟩ (fun H locs hP hD hS => ?_)
                  refine lv_istore (lv' := [(6, .int (mStep τ7 v i4 i7)), (5, .int (nI (i7))), (4, .int (nI (i4))), (3, .int (x7_0)), (0, .ref (a 0)), (1, .int (nI (v))), (2, .int (nI (g)))]) S.1 S.2.1 dX3_measure_67 hl (by decide) rfl (fun ls hl => ?_)
                  refine lv_iload S.1 S.2.1 dX3_measure_69 (lv_at hl 0 rfl) ?_
                  refine lv_if_le (tgt := 135) S.1 S.2.1 dX3_measure_71 (by decide) (fun c10 => ?_) (fun c10 => ?_)
                  · refine lv_iinc (v := (nI (i7 + 1))) (lv' := [(5, .int (nI (i7 + 1))), (6, .int (mStep τ7 v i4 i7)), (4, .int (nI (i4))), (3, .int (x7_0)), (0, .ref (a 0)), (1, .int (nI (v))), (2, .int (nI (g)))]) S.1 S.2.1 dX3_measure_135 hl (k := 1) rfl (nI_add _ 1) (by decide) rfl (fun ls hl => ?_)
                    refine lv_goto (tgt := 51) S.1 S.2.1 dX3_measure_138 (by decide) ?_
                    exact ih7 (i7 + 1) τ7 ((x7_0)) (by omega) (itr_step he7 (by first | (simp only [fD3, ← he1, c10, reduceIte, Bool.false_eq_true, eq_self_iff_true, if_true, if_false]; done) | with_reducible rfl)) _ _ hP hD hS _ (lv_sub hl [0, 2, 3, 4, 5, 6] rfl)
                  · refine lv_aload_n S.1 S.2.1 dX3_measure_74 rfl (lv_at hl 4 rfl) ?_
                    refine mf_far S hK hP dX3_measure_75 ?_
                    refine lv_iload S.1 S.2.1 dX3_measure_78 (lv_at hl 1 rfl) ?_
                    refine ma_far S hK hP (j := i7) (by omega) dX3_measure_80 ?_
                    refine lv_iconst (v := (-1)) S.1 S.2.1 dX3_measure_81 (by decide) ?_
                    refine lv_icmp_eq (tgt := 135) S.1 S.2.1 dX3_measure_82 (by decide) (fun c11 => ?_) (fun c11 => ?_)
                    · refine lv_iinc (v := (nI (i7 + 1))) (lv' := [(5, .int (nI (i7 + 1))), (6, .int (mStep τ7 v i4 i7)), (4, .int (nI (i4))), (3, .int (x7_0)), (0, .ref (a 0)), (1, .int (nI (v))), (2, .int (nI (g)))]) S.1 S.2.1 dX3_measure_135 hl (k := 1) rfl (nI_add _ 1) (by decide) rfl (fun ls hl => ?_)
                      refine lv_goto (tgt := 51) S.1 S.2.1 dX3_measure_138 (by decide) ?_
                      exact ih7 (i7 + 1) τ7 ((x7_0)) (by omega) (itr_step he7 (by first | (simp only [fD3, ← he1, c10, eq_true c11, reduceIte, Bool.false_eq_true, eq_self_iff_true, if_true, if_false]; done) | with_reducible rfl)) _ _ hP hD hS _ (lv_sub hl [0, 2, 3, 4, 5, 6] rfl)
                    · refine lv_aload_n S.1 S.2.1 dX3_measure_85 rfl (lv_at hl 4 rfl) ?_
                      refine mf_far S hK hP dX3_measure_86 ?_
                      refine lv_iload S.1 S.2.1 dX3_measure_89 (lv_at hl 2 rfl) ?_
                      refine ma_far S hK hP (j := i4) (by omega) dX3_measure_91 ?_
                      refine lv_iconst (v := (-1)) S.1 S.2.1 dX3_measure_92 (by decide) ?_
                      refine lv_icmp_eq (tgt := 116) S.1 S.2.1 dX3_measure_93 (by decide) (fun c12 => ?_) (fun c12 => ?_)
                      · refine lv_aload_n S.1 S.2.1 dX3_measure_116 rfl (lv_at hl 4 rfl) ?_
                        refine mf_far S hK hP dX3_measure_117 ?_
                        refine lv_iload S.1 S.2.1 dX3_measure_120 (lv_at hl 2 rfl) ?_
                        refine lv_aload_n S.1 S.2.1 dX3_measure_122 rfl (lv_at hl 4 rfl) ?_
                        refine mf_far S hK hP dX3_measure_123 ?_
                        refine lv_iload S.1 S.2.1 dX3_measure_126 (lv_at hl 1 rfl) ?_
                        refine ma_far S hK hP (j := i7) (by omega) dX3_measure_128 ?_
                        refine lv_iload S.1 S.2.1 dX3_measure_129 (lv_at hl 0 rfl) ?_
                        refine lv_iadd S.1 S.2.1 dX3_measure_131 ?_
                        refine ms_far S hK hP hD hS (j := i4) (by omega) dX3_measure_132 (fun H locs hP hD hS => ?_)
                        refine lv_iconst (v := (nI 1)) S.1 S.2.1 dX3_measure_133 (by decide) ?_
                        refine lv_istore_n (lv' := [(3, .int (nI 1)), (6, .int (mStep τ7 v i4 i7)), (5, .int (nI (i7))), (4, .int (nI (i4))), (0, .ref (a 0)), (1, .int (nI (v))), (2, .int (nI (g)))]) S.1 S.2.1 dX3_measure_134 rfl hl (by decide) rfl (fun ls hl => ?_)
                        refine lv_iinc (v := (nI (i7 + 1))) (lv' := [(5, .int (nI (i7 + 1))), (3, .int (nI 1)), (6, .int (mStep τ7 v i4 i7)), (4, .int (nI (i4))), (0, .ref (a 0)), (1, .int (nI (v))), (2, .int (nI (g)))]) S.1 S.2.1 dX3_measure_135 hl (k := 2) rfl (nI_add _ 1) (by decide) rfl (fun ls hl => ?_)
                        refine lv_goto (tgt := 51) S.1 S.2.1 dX3_measure_138 (by decide) ?_
                        exact ih7 (i7 + 1) (mS 25 i4 ((τ7 25 i7) + (mStep τ7 v i4 i7)) τ7) ((nI 1)) (by omega) (itr_step he7 (by first | (simp only [fD3, ← he1, c10, c11, eq_true c12, reduceIte, Bool.false_eq_true, eq_self_iff_true, if_true, if_false]; done) | with_reducible rfl)) _ _ hP hD hS _ (lv_sub hl [0, 3, 1, 4, 5, 6] rfl)
                      · refine lv_aload_n S.1 S.2.1 dX3_measure_96 rfl (lv_at hl 4 rfl) ?_
                        refine mf_far S hK hP dX3_measure_97 ?_
                        refine lv_iload S.1 S.2.1 dX3_measure_100 (lv_at hl 1 rfl) ?_
                        refine ma_far S hK hP (j := i7) (by omega) dX3_measure_102 ?_
                        refine lv_iload S.1 S.2.1 dX3_measure_103 (lv_at hl 0 rfl) ?_
                        refine lv_iadd S.1 S.2.1 dX3_measure_105 ?_
                        refine lv_aload_n S.1 S.2.1 dX3_measure_106 rfl (lv_at hl 4 rfl) ?_
                        refine mf_far S hK hP dX3_measure_107 ?_
                        refine lv_iload S.1 S.2.1 dX3_measure_110 (lv_at hl 2 rfl) ?_
                        refine ma_far S hK hP (j := i4) (by omega) dX3_measure_112 ?_
                        refine lv_icmp_ge (tgt := 135) S.1 S.2.1 dX3_measure_113 (by decide) (fun c13 => ?_) (fun c13 => ?_)
                        · refine lv_iinc (v := (nI (i7 + 1))) (lv' := [(5, .int (nI (i7 + 1))), (6, .int (mStep τ7 v i4 i7)), (4, .int (nI (i4))), (3, .int (x7_0)), (0, .ref (a 0)), (1, .int (nI (v))), (2, .int (nI (g)))]) S.1 S.2.1 dX3_measure_135 hl (k := 1) rfl (nI_add _ 1) (by decide) rfl (fun ls hl => ?_)
                          refine lv_goto (tgt := 51) S.1 S.2.1 dX3_measure_138 (by decide) ?_
                          exact ih7 (i7 + 1) τ7 ((x7_0)) (by omega) (itr_step he7 (by first | (simp only [fD3, ← he1, c10, c11, c12, c13, reduceIte, Bool.false_eq_true, eq_self_iff_true, if_true, if_false]; done) | with_reducible rfl)) _ _ hP hD hS _ (lv_sub hl [0, 2, 3, 4, 5, 6] rfl)
                        · refine lv_aload_n S.1 S.2.1 dX3_measure_116 rfl (lv_at hl 4 rfl) ?_
                          refine mf_far S hK hP dX3_measure_117 ?_
                          refine lv_iload S.1 S.2.1 dX3_measure_120 (lv_at hl 2 rfl) ?_
                          refine lv_aload_n S.1 S.2.1 dX3_measure_122 rfl (lv_at hl 4 rfl) ?_
                          refine mf_far S hK hP dX3_measure_123 ?_
                          refine lv_iload S.1 S.2.1 dX3_measure_126 (lv_at hl 1 rfl) ?_
                          refine ma_far S hK hP (j := i7) (by omega) dX3_measure_128 ?_
                          refine lv_iload S.1 S.2.1 dX3_measure_129 (lv_at hl 0 rfl) ?_
                          refine lv_iadd S.1 S.2.1 dX3_measure_131 ?_
                          refine ms_far S hK hP hD hS (j := i4) (by omega) dX3_measure_132 (fun H locs hP hD hS => ?_)
                          refine lv_iconst (v := (nI 1)) S.1 S.2.1 dX3_measure_133 (by decide) ?_
                          refine lv_istore_n (lv' := [(3, .int (nI 1)), (6, .int (mStep τ7 v i4 i7)), (5, .int (nI (i7))), (4, .int (nI (i4))), (0, .ref (a 0)), (1, .int (nI (v))), (2, .int (nI (g)))]) S.1 S.2.1 dX3_measure_134 rfl hl (by decide) rfl (fun ls hl => ?_)
                          refine lv_iinc (v := (nI (i7 + 1))) (lv' := [(5, .int (nI (i7 + 1))), (3, .int (nI 1)), (6, .int (mStep τ7 v i4 i7)), (4, .int (nI (i4))), (0, .ref (a 0)), (1, .int (nI (v))), (2, .int (nI (g)))]) S.1 S.2.1 dX3_measure_135 hl (k := 2) rfl (nI_add _ 1) (by decide) rfl (fun ls hl => ?_)
                          refine lv_goto (tgt := 51) S.1 S.2.1 dX3_measure_138 (by decide) ?_
                          exact ih7 (i7 + 1) (mS 25 i4 ((τ7 25 i7) + (mStep τ7 v i4 i7)) τ7) ((nI 1)) (by omega) (itr_step he7 (by first | (simp only [fD3, ← he1, c10, c11, c12, c13, reduceIte, Bool.false_eq_true, eq_self_iff_true, if_true, if_false]; done) | with_reducible rfl)) _ _ hP hD hS _ (lv_sub hl [0, 3, 1, 4, 5, 6] rfl)
              exact lp7 8 0 τ4 ((x4_0)) (by omega) rfl _ _ hP hD hS _ (lv_sub hl [0, 1, 2, 3, 4, 5] rfl)
          exact lp4 8 0 τ3 ((nI 0)) (by omega) rfl _ _ hP hD hS _ (lv_sub hl [0, 1, 2, 3, 4] rfl)
      exact lp3 mFuel τ1 (nI 1) (by decide) (by have h9 := hst; simp only [mD0, ← he1] at h9; exact h9) rfl _ _ hP hD hS _ (lv_sub hl [0, 1, 2, 3] rfl)
    | succ n1 ih1 =>
      intro i1 τ1 hi1 he1 H locs hP hD hS ls hl
      have hlt1 : i1 < 8 := by omega
      refine lv_iload_n S.1 S.2.1 dX3_measure_2 rfl (lv_at hl 0 rfl) ?_
      refine lv_bipush (v := (nI 8)) S.1 S.2.1 dX3_measure_3 (by decide) ?_
      refine lv_icmp_ge (tgt := 30) S.1 S.2.1 dX3_measure_5 (by decide) (fun c => absurd c (nI_ge (by omega) (by omega))) (fun _ => ?_)
      refine lv_aload_n S.1 S.2.1 dX3_measure_8 rfl (lv_at hl 1 rfl) ?_
      refine mf_far S hK hP dX3_measure_9 ?_
      refine lv_iload_n S.1 S.2.1 dX3_measure_12 rfl (lv_at hl 0 rfl) ?_
      refine lv_iload_n S.1 S.2.1 dX3_measure_13 rfl (lv_at hl 0 rfl) ?_
      refine lv_iload_n S.1 S.2.1 dX3_measure_14 rfl (lv_at hl 3 rfl) ?_
      refine lv_icmp_ne (tgt := 22) S.1 S.2.1 dX3_measure_15 (by decide) (fun c15 => ?_) (fun c15 => ?_)
      · have c15 : ¬ i1 = g := fun h => c15 ((nI_eq (a := i1) (b := g) (by omega) (by omega)).mpr h)
        refine lv_iconst (v := (-1)) S.1 S.2.1 dX3_measure_22 (by decide) ?_
        refine ms_far S hK hP hD hS (j := i1) (by omega) dX3_measure_23 (fun H locs hP hD hS => ?_)
        refine lv_iinc (v := (nI (i1 + 1))) (lv' := [(3, .int (nI (i1 + 1))), (0, .ref (a 0)), (1, .int (nI (v))), (2, .int (nI (g)))]) S.1 S.2.1 dX3_measure_24 hl (k := 0) rfl (nI_add _ 1) (by decide) rfl (fun ls hl => ?_)
        refine lv_goto (tgt := 2) S.1 S.2.1 dX3_measure_27 (by decide) ?_
        exact ih1 (i1 + 1) (mS 25 i1 (-1) τ1) (by omega) (itr_step he1 (by first | (simp only [fD0, c15, reduceIte, Bool.false_eq_true, eq_self_iff_true, if_true, if_false]; done) | with_reducible rfl)) _ _ hP hD hS _ (lv_sub hl [0, 1, 2, 3] rfl)
      · have c15 : i1 = g := (nI_eq (a := i1) (b := g) (by omega) (by omega)).mp c15
        refine lv_iconst (v := (nI 0)) S.1 S.2.1 dX3_measure_18 (by decide) ?_
        refine lv_goto (tgt := 23) S.1 S.2.1 dX3_measure_19 (by decide) ?_
        refine ms_far S hK hP hD hS (j := i1) (by omega) dX3_measure_23 (fun H locs hP hD hS => ?_)
        refine lv_iinc (v := (nI (i1 + 1))) (lv' := [(3, .int (nI (i1 + 1))), (0, .ref (a 0)), (1, .int (nI (v))), (2, .int (nI (g)))]) S.1 S.2.1 dX3_measure_24 hl (k := 0) rfl (nI_add _ 1) (by decide) rfl (fun ls hl => ?_)
        refine lv_goto (tgt := 2) S.1 S.2.1 dX3_measure_27 (by decide) ?_
        exact ih1 (i1 + 1) (mS 25 i1 (nI 0) τ1) (by omega) (itr_step he1 (by first | (simp only [fD0, eq_true c15, reduceIte, Bool.false_eq_true, eq_self_iff_true, if_true, if_false]; done) | with_reducible rfl)) _ _ hP hD hS _ (lv_sub hl [0, 1, 2, 3] rfl)
  exact lp1 8 0 τ (by omega) rfl _ _ hP hD hS _ (lv_sub hl [0, 1, 2, 3] rfl)
theorem call_X3_measure {p : Program} {l : Launch} {e : Env} {R : Room} {s : State} {m : MethodId} {args : Array Value} {below : List Frame} {meth : Method} {c : Code} {H : Heap} {locs : List Loc} {cells slots : Nat} {Q : State → Prop} {cc : ByteArray} {pc nL : Nat} {ls : Array Slot} {rest : List Value} {D : va_G} {A : Nat → Prop} {w0 : Cond} {X : va_W} {cy : Nat → ClassId} {a : Nat → Nat} {τ : MS} (S : CallFix p m c cc nL s args (w0 :: gw) RX3) (hK : va_K D vwCl (tyA cy) s) (hN : kN [] s) (hP : va_P D vwCl (X ++ mB cy a τ) H) (hD : va_D A (X ++ mB cy a τ)) (hS : va_S A s.heap H locs) (hA : ∀ q, s.heap.size ≤ q → A q) {v : Nat} {g : Nat} (hv : v < 8) (hg : g < 8) (hst : mStops v mFuel (mD0 g τ)) (hsz : ls.size = nL) (hW : (rest.map fun v => v.category).sum ≤ 8) (hR : 1 + 1 ≤ R.frames ∧ 8 + (7 + 11) + 32 * 1 ≤ R.locals) (hdg : decode cc pc = .ok (.invokevirtual 149, 3)) (hfc : cells ≤ R.cells ∧ slots ≤ R.slots)
    (kk : ∀ (H1 : Heap) (locs1 : List Loc), va_P D vwCl (X ++ mB cy a (mMeas v g τ)) H1 → va_D A (X ++ mB cy a (mMeas v g τ)) → va_S A s.heap H1 locs1 → W p l e R s m args below meth c H1 locs1 cells slots Q (F0 m (pc + 3) ls (rest))) : W p l e R s m args below meth c H locs cells slots Q (F0 m pc ls (.int (nI (g)) :: .int (nI (v)) :: .ref (a 0) :: rest)) :=
  kgo_v (va_runV (As := [.int (nI (v)), .int (nI (g))]) (rest := rest) S (c_X3_measure l D cy a X τ v g hv hg hst H.size) (cwV 2 S.2.2.2.2 (gw_good_1 wm_655 (gw_good_1 wm_657 (gw_good_1 wm_45 (gw_good_1 wm_50 (gw_good_in wm_658))))) rfl rfl rfl (by decide +kernel) hR) ⟨kblind kNok.nil, mrecv hK hP, kpre kNok.nil hN hK hP hD⟩ rfl rfl hsz rfl (lv_room hW) hdg hfc) hD hS hA kk
set_option maxHeartbeats 400000 in
set_option maxRecDepth 100000 in
theorem c_X3_nextOf (l : Launch) (D : va_G) (cy : Nat → ClassId) (a : Nat → Nat) (X : va_W) (τ : MS) (v : Nat) (g : Nat) (hv : v < 8) (hg : g < 8) (hst : mStops v mFuel (mD0 g τ)) : MetI l yX3_nextOf cX3_nextOf 6 .int (kRm 2 0 0) D (tyA cy) [] [.ref (a 0), .int (nI (v)), .int (nI (g))] (X ++ mB cy a τ) (X ++ mB cy a (mMeas v g τ)) (mHop v g τ) 0 0 := by
  intro sz
  refine kmet (own := RX3) (by decide) rfl (Nat.le_of_ble_eq_true rfl) (fun p e s m args below meth c S hr hlk hK hN hP hD hsz hA hnm ls hl => ?_)
  have hS : va_S (va_A (X ++ mB cy a τ) sz) s.heap s.heap [] := va_S.rf
  have hl : lv_has ls 6 [(0, .ref (a 0)), (1, .int (nI (v))), (2, .int (nI (g)))] := hl
  refine lv_aload_n S.1 S.2.1 dX3_nextOf_0 rfl (lv_at hl 0 rfl) ?_
  refine lv_iload_n S.1 S.2.1 dX3_nextOf_1 rfl (lv_at hl 1 rfl) ?_
  refine lv_iload_n S.1 S.2.1 dX3_nextOf_2 rfl (lv_at hl 2 rfl) ?_
  refine call_X3_measure S hK hN hP hD hS hA (v := v) (g := g) (by omega) (by omega) (by first | exact hst | exact hen _ _ (by omega) (by omega)) hl.1 (Nat.le_of_ble_eq_true rfl) ⟨Nat.le_of_ble_eq_true rfl, Nat.le_of_ble_eq_true rfl⟩ dX3_nextOf_3 ⟨Nat.le_refl _, Nat.le_refl _⟩ (fun H locs hP hD hS => ?_)
  refine lv_aload_n S.1 S.2.1 dX3_nextOf_6 rfl (lv_at hl 0 rfl) ?_
  refine mf_far S hK hP dX3_nextOf_7 ?_
  refine lv_iload_n S.1 S.2.1 dX3_nextOf_10 rfl (lv_at hl 1 rfl) ?_
  refine ma_far S hK hP (j := v) (by omega) dX3_nextOf_11 ?_
  refine lv_iconst (v := (-1)) S.1 S.2.1 dX3_nextOf_12 (by decide) ?_
  refine lv_icmp_ne (tgt := 18) S.1 S.2.1 dX3_nextOf_13 (by decide) (fun c1 => ?_) (fun c1 => ?_)
  · refine lv_iconst (v := (-1)) S.1 S.2.1 dX3_nextOf_18 (by decide) ?_
    refine lv_istore_n (lv' := [(3, .int (-1)), (0, .ref (a 0)), (1, .int (nI (v))), (2, .int (nI (g)))]) S.1 S.2.1 dX3_nextOf_19 rfl hl (by decide) rfl (fun ls hl => ?_)
    refine lv_bipush (v := (nI 7)) S.1 S.2.1 dX3_nextOf_20 (by decide) ?_
    refine lv_istore (lv' := [(4, .int (nI 7)), (3, .int (-1)), (0, .ref (a 0)), (1, .int (nI (v))), (2, .int (nI (g)))]) S.1 S.2.1 dX3_nextOf_22 hl (by decide) rfl (fun ls hl => ?_)
    have lp2 : ∀ (n2 : Nat) (x2_0 : Int32), n2 ≤ 8 → dwn (fNx (mMeas v g τ) v) n2 x2_0 = dwn (fNx (mMeas v g τ) v) 8 (-1) → ∀ (H : Heap) (locs : List Loc), va_P D vwCl (X ++ mB cy a (mMeas v g τ)) H → va_D (va_A (X ++ mB cy a τ) sz) (X ++ mB cy a (mMeas v g τ)) → va_S (va_A (X ++ mB cy a τ) sz) s.heap H locs → ∀ ls : Array Slot, lv_has ls 6 [(4, .int (nI n2 - 1)), (3, .int (x2_0)), (0, .ref (a 0)), (1, .int (nI (v))), (2, .int (nI (g)))] → W p l e (kRm 2 0 0) s m args below meth c H locs 0 0 (MQ below (kQi D (X ++ mB cy a τ) (X ++ mB cy a (mMeas v g τ)) (mHop v g τ) sz) args s 0 0 (va_A (X ++ mB cy a τ) sz)) (F0 m 24 ls []) := by
      intro n2
      induction n2 with
      | zero =>
        intro x2_0 hi2 he2 H locs hP hD hS ls hl
        have hl : lv_has ls 6 [(4, .int (-1)), (3, .int (x2_0)), (0, .ref (a 0)), (1, .int (nI (v))), (2, .int (nI (g)))] := hl
        have he2 : x2_0 = dwn (fNx (mMeas v g τ) v) 8 (-1) := he2
        refine lv_iload S.1 S.2.1 dX3_nextOf_24 (lv_at hl 0 rfl) ?_
        refine lv_if_lt (tgt := 87) S.1 S.2.1 dX3_nextOf_26 (by decide) (fun _ => ?_) (fun c => absurd (by decide) c)
        refine lv_iload_n S.1 S.2.1 dX3_nextOf_87 rfl (lv_at hl 1 rfl) ?_
        exact kret_i S hr hlk hP hD hS (by first | (simp only [mHop, c1, ← he2, reduceIte, Bool.false_eq_true, eq_self_iff_true, if_true, if_false]; done) | with_reducible rfl) dX3_nextOf_88
      | succ n2 ih2 =>
        intro x2_0 hi2 he2 H locs hP hD hS ls hl
        have hl : lv_has ls 6 [(4, .int (nI (n2))), (3, .int (x2_0)), (0, .ref (a 0)), (1, .int (nI (v))), (2, .int (nI (g)))] := by rw [nI_pred] at hl; exact hl
        refine lv_iload S.1 S.2.1 dX3_nextOf_24 (lv_at hl 0 rfl) ?_
        refine lv_if_lt (tgt := 87) S.1 S.2.1 dX3_nextOf_26 (by decide) (fun c => absurd c (nI_pos (by omega))) (fun _ => ?_)
        refine lv_aload_n S.1 S.2.1 dX3_nextOf_29 rfl (lv_at hl 2 rfl) ?_
        refine lv_iload_n S.1 S.2.1 dX3_nextOf_30 rfl (lv_at hl 3 rfl) ?_
        refine lv_iload_n S.1 S.2.1 dX3_nextOf_31 rfl (lv_at hl 3 rfl) ?_
        refine lv_iload S.1 S.2.1 dX3_nextOf_32 (lv_at hl 0 rfl) ?_
        refine call_X3_step S hK hN hP hD hS hA (v := v) (f := v) (t := n2) (by omega) (by omega) (by omega) hl.1 (Nat.le_of_ble_eq_true rfl) ⟨Nat.le_of_ble_eq_true rfl, Nat.le_of_ble_eq_true rfl⟩ dX3_nextOf_34 ⟨Nat.le_refl _, Nat.le_refl _⟩ (fun H locs hP hD hS => ?_)
        refine lv_istore (lv' := [(5, .int (mStep (mMeas v g τ) v v n2)), (4, .int (nI (n2))), (3, .int (x2_0)), (0, .ref (a 0)), (1, .int (nI (v))), (2, .int (nI (g)))]) S.1 S.2.1 dX3_nextOf_37 hl (by decide) rfl (fun ls hl => ?_)
        refine lv_iload S.1 S.2.1 dX3_nextOf_39 (lv_at hl 0 rfl) ?_
        refine lv_if_le (tgt := 79) S.1 S.2.1 dX3_nextOf_41 (by decide) (fun c3 => ?_) (fun c3 => ?_)
        · refine lv_iload_n S.1 S.2.1 dX3_nextOf_79 rfl (lv_at hl 2 rfl) ?_
          refine lv_istore_n (lv' := [(3, .int (x2_0)), (5, .int (mStep (mMeas v g τ) v v n2)), (4, .int (nI (n2))), (0, .ref (a 0)), (1, .int (nI (v))), (2, .int (nI (g)))]) S.1 S.2.1 dX3_nextOf_80 rfl hl (by decide) rfl (fun ls hl => ?_)
          refine lv_iinc (v := (nI n2 - 1)) (lv' := [(4, .int (nI n2 - 1)), (3, .int (x2_0)), (5, .int (mStep (mMeas v g τ) v v n2)), (0, .ref (a 0)), (1, .int (nI (v))), (2, .int (nI (g)))]) S.1 S.2.1 dX3_nextOf_81 hl (k := 2) rfl (nI_dec _) (by decide) rfl (fun ls hl => ?_)
          refine lv_goto (tgt := 24) S.1 S.2.1 dX3_nextOf_84 (by decide) ?_
          exact ih2 (x2_0) (by omega) (dwn_step he2 (by first | (simp only [fNx, c1, c3, reduceIte, Bool.false_eq_true, eq_self_iff_true, if_true, if_false]; done) | with_reducible rfl)) _ _ hP hD hS _ (lv_sub hl [0, 1, 3, 4, 5] rfl)
        · refine lv_aload_n S.1 S.2.1 dX3_nextOf_44 rfl (lv_at hl 3 rfl) ?_
          refine mf_far S hK hP dX3_nextOf_45 ?_
          refine lv_iload S.1 S.2.1 dX3_nextOf_48 (lv_at hl 1 rfl) ?_
          refine ma_far S hK hP (j := n2) (by omega) dX3_nextOf_50 ?_
          refine lv_iconst (v := (-1)) S.1 S.2.1 dX3_nextOf_51 (by decide) ?_
          refine lv_icmp_eq (tgt := 79) S.1 S.2.1 dX3_nextOf_52 (by decide) (fun c4 => ?_) (fun c4 => ?_)
          · refine lv_iload_n S.1 S.2.1 dX3_nextOf_79 rfl (lv_at hl 2 rfl) ?_
            refine lv_istore_n (lv' := [(3, .int (x2_0)), (5, .int (mStep (mMeas v g τ) v v n2)), (4, .int (nI (n2))), (0, .ref (a 0)), (1, .int (nI (v))), (2, .int (nI (g)))]) S.1 S.2.1 dX3_nextOf_80 rfl hl (by decide) rfl (fun ls hl => ?_)
            refine lv_iinc (v := (nI n2 - 1)) (lv' := [(4, .int (nI n2 - 1)), (3, .int (x2_0)), (5, .int (mStep (mMeas v g τ) v v n2)), (0, .ref (a 0)), (1, .int (nI (v))), (2, .int (nI (g)))]) S.1 S.2.1 dX3_nextOf_81 hl (k := 2) rfl (nI_dec _) (by decide) rfl (fun ls hl => ?_)
            refine lv_goto (tgt := 24) S.1 S.2.1 dX3_nextOf_84 (by decide) ?_
            exact ih2 (x2_0) (by omega) (dwn_step he2 (by first | (simp only [fNx, c1, c3, eq_true c4, reduceIte, Bool.false_eq_true, eq_self_iff_true, if_true, if_false]; done) | with_reducible rfl)) _ _ hP hD hS _ (lv_sub hl [0, 1, 3, 4, 5] rfl)
          · refine lv_aload_n S.1 S.2.1 dX3_nextOf_55 rfl (lv_at hl 3 rfl) ?_
            refine mf_far S hK hP dX3_nextOf_56 ?_
            refine lv_iload S.1 S.2.1 dX3_nextOf_59 (lv_at hl 1 rfl) ?_
            refine ma_far S hK hP (j := n2) (by omega) dX3_nextOf_61 ?_
            refine lv_iload S.1 S.2.1 dX3_nextOf_62 (lv_at hl 0 rfl) ?_
            refine lv_iadd S.1 S.2.1 dX3_nextOf_64 ?_
            refine lv_aload_n S.1 S.2.1 dX3_nextOf_65 rfl (lv_at hl 3 rfl) ?_
            refine mf_far S hK hP dX3_nextOf_66 ?_
            refine lv_iload_n S.1 S.2.1 dX3_nextOf_69 rfl (lv_at hl 4 rfl) ?_
            refine ma_far S hK hP (j := v) (by omega) dX3_nextOf_70 ?_
            refine lv_icmp_ne (tgt := 79) S.1 S.2.1 dX3_nextOf_71 (by decide) (fun c5 => ?_) (fun c5 => ?_)
            · refine lv_iload_n S.1 S.2.1 dX3_nextOf_79 rfl (lv_at hl 2 rfl) ?_
              refine lv_istore_n (lv' := [(3, .int (x2_0)), (5, .int (mStep (mMeas v g τ) v v n2)), (4, .int (nI (n2))), (0, .ref (a 0)), (1, .int (nI (v))), (2, .int (nI (g)))]) S.1 S.2.1 dX3_nextOf_80 rfl hl (by decide) rfl (fun ls hl => ?_)
              refine lv_iinc (v := (nI n2 - 1)) (lv' := [(4, .int (nI n2 - 1)), (3, .int (x2_0)), (5, .int (mStep (mMeas v g τ) v v n2)), (0, .ref (a 0)), (1, .int (nI (v))), (2, .int (nI (g)))]) S.1 S.2.1 dX3_nextOf_81 hl (k := 2) rfl (nI_dec _) (by decide) rfl (fun ls hl => ?_)
              refine lv_goto (tgt := 24) S.1 S.2.1 dX3_nextOf_84 (by decide) ?_
              exact ih2 (x2_0) (by omega) (dwn_step he2 (by first | (simp only [fNx, c1, c3, c4, c5, reduceIte, Bool.false_eq_true, eq_self_iff_true, if_true, if_false]; done) | with_reducible rfl)) _ _ hP hD hS _ (lv_sub hl [0, 1, 3, 4, 5] rfl)
            · refine lv_iload S.1 S.2.1 dX3_nextOf_74 (lv_at hl 1 rfl) ?_
              refine lv_goto (tgt := 80) S.1 S.2.1 dX3_nextOf_76 (by decide) ?_
              refine lv_istore_n (lv' := [(3, .int (nI (n2))), (5, .int (mStep (mMeas v g τ) v v n2)), (4, .int (nI (n2))), (0, .ref (a 0)), (1, .int (nI (v))), (2, .int (nI (g)))]) S.1 S.2.1 dX3_nextOf_80 rfl hl (by decide) rfl (fun ls hl => ?_)
              refine lv_iinc (v := (nI n2 - 1)) (lv' := [(4, .int (nI n2 - 1)), (3, .int (nI (n2))), (5, .int (mStep (mMeas v g τ) v v n2)), (0, .ref (a 0)), (1, .int (nI (v))), (2, .int (nI (g)))]) S.1 S.2.1 dX3_nextOf_81 hl (k := 2) rfl (nI_dec _) (by decide) rfl (fun ls hl => ?_)
              refine lv_goto (tgt := 24) S.1 S.2.1 dX3_nextOf_84 (by decide) ?_
              exact ih2 (nI (n2)) (by omega) (dwn_step he2 (by first | (simp only [fNx, c1, c3, c4, eq_true c5, reduceIte, Bool.false_eq_true, eq_self_iff_true, if_true, if_false]; done) | with_reducible rfl)) _ _ hP hD hS _ (lv_sub hl [0, 1, 3, 4, 5] rfl)
    exact lp2 8 (-1) (by omega) rfl _ _ hP hD hS _ (lv_sub hl [0, 1, 2, 3, 4] rfl)
  · refine lv_iconst (v := (-1)) S.1 S.2.1 dX3_nextOf_16 (by decide) ?_
    exact kret_i S hr hlk hP hD hS (by first | (simp only [mHop, eq_true c1, reduceIte, Bool.false_eq_true, eq_self_iff_true, if_true, if_false]; done) | with_reducible rfl) dX3_nextOf_17
theorem call_X3_nextOf {p : Program} {l : Launch} {e : Env} {R : Room} {s : State} {m : MethodId} {args : Array Value} {below : List Frame} {meth : Method} {c : Code} {H : Heap} {locs : List Loc} {cells slots : Nat} {Q : State → Prop} {cc : ByteArray} {pc nL : Nat} {ls : Array Slot} {rest : List Value} {D : va_G} {A : Nat → Prop} {w0 : Cond} {X : va_W} {cy : Nat → ClassId} {a : Nat → Nat} {τ : MS} (S : CallFix p m c cc nL s args (w0 :: gw) RX3) (hK : va_K D vwCl (tyA cy) s) (hN : kN [] s) (hP : va_P D vwCl (X ++ mB cy a τ) H) (hD : va_D A (X ++ mB cy a τ)) (hS : va_S A s.heap H locs) (hA : ∀ q, s.heap.size ≤ q → A q) {v : Nat} {g : Nat} (hv : v < 8) (hg : g < 8) (hst : mStops v mFuel (mD0 g τ)) (hsz : ls.size = nL) (hW : (rest.map fun v => v.category).sum ≤ 8) (hR : 2 + 1 ≤ R.frames ∧ 8 + (6 + 11) + 32 * 2 ≤ R.locals) (hdg : decode cc pc = .ok (.invokevirtual 152, 3)) (hfc : cells ≤ R.cells ∧ slots ≤ R.slots)
    (kk : ∀ (H1 : Heap) (locs1 : List Loc), va_P D vwCl (X ++ mB cy a (mMeas v g τ)) H1 → va_D A (X ++ mB cy a (mMeas v g τ)) → va_S A s.heap H1 locs1 → W p l e R s m args below meth c H1 locs1 cells slots Q (F0 m (pc + 3) ls (.int (mHop v g τ) :: rest))) : W p l e R s m args below meth c H locs cells slots Q (F0 m pc ls (.int (nI (g)) :: .int (nI (v)) :: .ref (a 0) :: rest)) :=
  kgo_i (va_runV (As := [.int (nI (v)), .int (nI (g))]) (rest := rest) S (c_X3_nextOf l D cy a X τ v g hv hg hst H.size) (cwV 2 S.2.2.2.2 (gw_good_1 wm_651 (gw_good_1 wm_653 (gw_good_1 wm_44 (gw_good_1 wm_50 (gw_good_in wm_654))))) rfl rfl rfl (by decide +kernel) hR) ⟨kblind kNok.nil, mrecv hK hP, kpre kNok.nil hN hK hP hD⟩ rfl rfl hsz rfl (lv_room hW) hdg hfc) hD hS hA kk
set_option maxHeartbeats 400000 in
set_option maxRecDepth 100000 in
theorem c_X3_flying (l : Launch) (D : va_G) (cy : Nat → ClassId) (a : Nat → Nat) (X : va_W) (τ : MS)   : MetI l yX3_flying cX3_flying 3 .int (kRm 0 0 0) D (tyA cy) [] [.ref (a 0)] (X ++ mB cy a τ) (X ++ mB cy a (mT0 τ)) (mFly τ) 0 0 := by
  intro sz
  refine kmet (own := RX3) (by decide) rfl (Nat.le_of_ble_eq_true rfl) (fun p e s m args below meth c S hr hlk hK hN hP hD hsz hA hnm ls hl => ?_)
  have hS : va_S (va_A (X ++ mB cy a τ) sz) s.heap s.heap [] := va_S.rf
  have hl : lv_has ls 3 [(0, .ref (a 0))] := hl
  refine lv_aload_n S.1 S.2.1 dX3_flying_0 rfl (lv_at hl 0 rfl) ?_
  refine lv_iconst (v := (nI 0)) S.1 S.2.1 dX3_flying_1 (by decide) ?_
  refine mp_thrown S hK hP hD hS dX3_flying_2 (fun H locs hP hD hS => ?_)
  refine lv_iconst (v := (nI 0)) S.1 S.2.1 dX3_flying_5 (by decide) ?_
  refine lv_istore_n (lv' := [(1, .int (nI 0)), (0, .ref (a 0))]) S.1 S.2.1 dX3_flying_6 rfl hl (by decide) rfl (fun ls hl => ?_)
  refine lv_iconst (v := (nI 0)) S.1 S.2.1 dX3_flying_7 (by decide) ?_
  refine lv_istore_n (lv' := [(2, .int (nI 0)), (1, .int (nI 0)), (0, .ref (a 0))]) S.1 S.2.1 dX3_flying_8 rfl hl (by decide) rfl (fun ls hl => ?_)
  have lp1 : ∀ (n1 i1 : Nat)  (x1_0 : Int32), i1 + n1 = 512 → itr (fFly (mS 0 0 (nI 0) τ)) n1 i1 x1_0 = itr (fFly (mS 0 0 (nI 0) τ)) 512 0 (nI 0) → ∀ (H : Heap) (locs : List Loc), va_P D vwCl (X ++ mB cy a (mS 0 0 (nI 0) τ)) H → va_D (va_A (X ++ mB cy a τ) sz) (X ++ mB cy a (mS 0 0 (nI 0) τ)) → va_S (va_A (X ++ mB cy a τ) sz) s.heap H locs → ∀ ls : Array Slot, lv_has ls 3 [(2, .int (nI (i1))), (1, .int (x1_0)), (0, .ref (a 0))] → W p l e (kRm 0 0 0) s m args below meth c H locs 0 0 (MQ below (kQi D (X ++ mB cy a τ) (X ++ mB cy a (mT0 τ)) (mFly τ) sz) args s 0 0 (va_A (X ++ mB cy a τ) sz)) (F0 m 9 ls []) := by
    intro n1
    induction n1 with
    | zero =>
      intro i1 x1_0 hi1 he1 H locs hP hD hS ls hl
      have hi1 : i1 = 512 := by omega
      have he1 : x1_0 = itr (fFly (mS 0 0 (nI 0) τ)) 512 0 (nI 0) := he1
      refine lv_iload_n S.1 S.2.1 dX3_flying_9 rfl (lv_at hl 0 rfl) ?_
      refine lv_sipush (v := (nI 512)) S.1 S.2.1 dX3_flying_10 (by decide) ?_
      refine lv_icmp_ge (tgt := 39) S.1 S.2.1 dX3_flying_13 (by decide) (fun _ => ?_) (fun c => absurd (nI_le (by omega) (by omega)) c)
      refine lv_iload_n S.1 S.2.1 dX3_flying_39 rfl (lv_at hl 1 rfl) ?_
      have e9 : mT0 τ = mS 0 0 (nI 0) τ := by first | (simp only [mT0, ← he1, reduceIte, Bool.false_eq_true, eq_self_iff_true, if_true, if_false]; done) | with_reducible rfl
      rw [e9]
      exact kret_i S hr hlk hP hD hS (by first | (simp only [mFly, mT0, ← he1, reduceIte, Bool.false_eq_true, eq_self_iff_true, if_true, if_false]; done) | with_reducible rfl) dX3_flying_40
    | succ n1 ih1 =>
      intro i1 x1_0 hi1 he1 H locs hP hD hS ls hl
      have hlt1 : i1 < 512 := by omega
      refine lv_iload_n S.1 S.2.1 dX3_flying_9 rfl (lv_at hl 0 rfl) ?_
      refine lv_sipush (v := (nI 512)) S.1 S.2.1 dX3_flying_10 (by decide) ?_
      refine lv_icmp_ge (tgt := 39) S.1 S.2.1 dX3_flying_13 (by decide) (fun c => absurd c (nI_ge (by omega) (by omega))) (fun _ => ?_)
      refine lv_aload_n S.1 S.2.1 dX3_flying_16 rfl (lv_at hl 2 rfl) ?_
      refine mf_flightNumbers S hK hP dX3_flying_17 ?_
      refine lv_iload_n S.1 S.2.1 dX3_flying_20 rfl (lv_at hl 0 rfl) ?_
      refine ma_flightNumbers S hK hP (j := i1) (by omega) dX3_flying_21 ?_
      refine lv_if_le (tgt := 31) S.1 S.2.1 dX3_flying_22 (by decide) (fun c4 => ?_) (fun c4 => ?_)
      · refine lv_iload_n S.1 S.2.1 dX3_flying_31 rfl (lv_at hl 1 rfl) ?_
        refine lv_istore_n (lv' := [(1, .int (x1_0)), (2, .int (nI (i1))), (0, .ref (a 0))]) S.1 S.2.1 dX3_flying_32 rfl hl (by decide) rfl (fun ls hl => ?_)
        refine lv_iinc (v := (nI (i1 + 1))) (lv' := [(2, .int (nI (i1 + 1))), (1, .int (x1_0)), (0, .ref (a 0))]) S.1 S.2.1 dX3_flying_33 hl (k := 1) rfl (nI_add _ 1) (by decide) rfl (fun ls hl => ?_)
        refine lv_goto (tgt := 9) S.1 S.2.1 dX3_flying_36 (by decide) ?_
        exact ih1 (i1 + 1)  ((x1_0)) (by omega) (itr_step he1 (by first | (simp only [fFly, mT0, c4, reduceIte, Bool.false_eq_true, eq_self_iff_true, if_true, if_false]; done) | with_reducible rfl)) _ _ hP hD hS _ (lv_sub hl [0, 1, 2] rfl)
      · refine lv_iload_n S.1 S.2.1 dX3_flying_25 rfl (lv_at hl 1 rfl) ?_
        refine lv_iconst (v := (nI 1)) S.1 S.2.1 dX3_flying_26 (by decide) ?_
        refine lv_iadd S.1 S.2.1 dX3_flying_27 ?_
        refine lv_goto (tgt := 32) S.1 S.2.1 dX3_flying_28 (by decide) ?_
        refine lv_istore_n (lv' := [(1, .int ((x1_0) + (nI 1))), (2, .int (nI (i1))), (0, .ref (a 0))]) S.1 S.2.1 dX3_flying_32 rfl hl (by decide) rfl (fun ls hl => ?_)
        refine lv_iinc (v := (nI (i1 + 1))) (lv' := [(2, .int (nI (i1 + 1))), (1, .int ((x1_0) + (nI 1))), (0, .ref (a 0))]) S.1 S.2.1 dX3_flying_33 hl (k := 1) rfl (nI_add _ 1) (by decide) rfl (fun ls hl => ?_)
        refine lv_goto (tgt := 9) S.1 S.2.1 dX3_flying_36 (by decide) ?_
        exact ih1 (i1 + 1)  (((x1_0) + (nI 1))) (by omega) (itr_step he1 (by first | (simp only [fFly, mT0, c4, reduceIte, Bool.false_eq_true, eq_self_iff_true, if_true, if_false]; done) | with_reducible rfl)) _ _ hP hD hS _ (lv_sub hl [0, 1, 2] rfl)
  exact lp1 512 0  ((nI 0)) (by omega) rfl _ _ hP hD hS _ (lv_sub hl [0, 1, 2] rfl)
theorem call_X3_flying {p : Program} {l : Launch} {e : Env} {R : Room} {s : State} {m : MethodId} {args : Array Value} {below : List Frame} {meth : Method} {c : Code} {H : Heap} {locs : List Loc} {cells slots : Nat} {Q : State → Prop} {cc : ByteArray} {pc nL : Nat} {ls : Array Slot} {rest : List Value} {D : va_G} {A : Nat → Prop} {w0 : Cond} {X : va_W} {cy : Nat → ClassId} {a : Nat → Nat} {τ : MS} (S : CallFix p m c cc nL s args (w0 :: gw) RX3) (hK : va_K D vwCl (tyA cy) s) (hN : kN [] s) (hP : va_P D vwCl (X ++ mB cy a τ) H) (hD : va_D A (X ++ mB cy a τ)) (hS : va_S A s.heap H locs) (hA : ∀ q, s.heap.size ≤ q → A q)   (hsz : ls.size = nL) (hW : (rest.map fun v => v.category).sum ≤ 8) (hR : 0 + 1 ≤ R.frames ∧ 8 + (3 + 11) + 32 * 0 ≤ R.locals) (hdg : decode cc pc = .ok (.invokevirtual 156, 3)) (hfc : cells ≤ R.cells ∧ slots ≤ R.slots)
    (kk : ∀ (H1 : Heap) (locs1 : List Loc), va_P D vwCl (X ++ mB cy a (mT0 τ)) H1 → va_D A (X ++ mB cy a (mT0 τ)) → va_S A s.heap H1 locs1 → W p l e R s m args below meth c H1 locs1 cells slots Q (F0 m (pc + 3) ls (.int (mFly τ) :: rest))) : W p l e R s m args below meth c H locs cells slots Q (F0 m pc ls (.ref (a 0) :: rest)) :=
  kgo_i (va_runV (As := []) (rest := rest) S (c_X3_flying l D cy a X τ   H.size) (cwV 0 S.2.2.2.2 (gw_good_1 wm_691 (gw_good_1 wm_684 (gw_good_1 wm_685 (gw_good_1 wm_50 (gw_good_in wm_686))))) rfl rfl rfl (by decide +kernel) hR) ⟨kblind kNok.nil, mrecv hK hP, kpre kNok.nil hN hK hP hD⟩ rfl rfl hsz rfl (lv_room hW) hdg hfc) hD hS hA kk
set_option maxHeartbeats 400000 in
set_option maxRecDepth 100000 in
theorem c_X3_thrown (l : Launch) (D : va_G) (cy : Nat → ClassId) (a : Nat → Nat) (X : va_W) (τ : MS)   : MetI l yX3_thrown cX3_thrown 1 .int (kRm 0 0 0) D (tyA cy) [] [.ref (a 0)] (X ++ mB cy a τ) (X ++ mB cy a τ) (τ 0 0) 0 0 := by
  intro sz
  refine kmet (own := RX3) (by decide) rfl (Nat.le_of_ble_eq_true rfl) (fun p e s m args below meth c S hr hlk hK hN hP hD hsz hA hnm ls hl => ?_)
  have hS : va_S (va_A (X ++ mB cy a τ) sz) s.heap s.heap [] := va_S.rf
  have hl : lv_has ls 1 [(0, .ref (a 0))] := hl
  refine lv_aload_n S.1 S.2.1 dX3_thrown_0 rfl (lv_at hl 0 rfl) ?_
  refine mf_thrown S hK hP dX3_thrown_1 ?_
  exact kret_i S hr hlk hP hD hS (by rfl) dX3_thrown_4
set_option maxHeartbeats 400000 in
set_option maxRecDepth 100000 in
theorem c_X3_distance (l : Launch) (D : va_G) (cy : Nat → ClassId) (a : Nat → Nat) (X : va_W) (τ : MS) (x : Int32) (y : Int32) (hen : mEnds (mT0 τ)) : MetI l yX3_distance cX3_distance 3 .int (kRm 2 0 0) D (tyA cy) [] [.ref (a 0), .int (x), .int (y)] (X ++ mB cy a τ) (X ++ mB cy a (mDistS x y τ)) (mDist x y τ) 0 0 := by
  intro sz
  refine kmet (own := RX3) (by decide) rfl (Nat.le_of_ble_eq_true rfl) (fun p e s m args below meth c S hr hlk hK hN hP hD hsz hA hnm ls hl => ?_)
  have hS : va_S (va_A (X ++ mB cy a τ) sz) s.heap s.heap [] := va_S.rf
  have hl : lv_has ls 3 [(0, .ref (a 0)), (1, .int (x)), (2, .int (y))] := hl
  refine lv_aload_n S.1 S.2.1 dX3_distance_0 rfl (lv_at hl 0 rfl) ?_
  refine lv_iconst (v := (nI 0)) S.1 S.2.1 dX3_distance_1 (by decide) ?_
  refine mp_thrown S hK hP hD hS dX3_distance_2 (fun H locs hP hD hS => ?_)
  refine lv_iload_n S.1 S.2.1 dX3_distance_5 rfl (lv_at hl 1 rfl) ?_
  refine call_X3_isNode S hK hN hP hD hS hA (x := x)  hl.1 (Nat.le_of_ble_eq_true rfl) ⟨Nat.le_of_ble_eq_true rfl, Nat.le_of_ble_eq_true rfl⟩ dX3_distance_6 ⟨Nat.le_refl _, Nat.le_refl _⟩ (fun H locs hP hD hS => ?_)
  refine kb_eq (tgt := 28) S dX3_distance_9 (by decide) (fun c1 => ?_) (fun c1 => ?_)
  · refine lv_iconst (v := (-1)) S.1 S.2.1 dX3_distance_28 (by decide) ?_
    have e9 : mDistS x y τ = mS 0 0 (nI 0) τ := by first | (simp only [mDistS, mT0, c1, reduceIte, Bool.false_eq_true, eq_self_iff_true, if_true, if_false]; done) | with_reducible rfl
    rw [e9]
    exact kret_i S hr hlk hP hD hS (by first | (simp only [mDist, mT0, c1, reduceIte, Bool.false_eq_true, eq_self_iff_true, if_true, if_false]; done) | with_reducible rfl) dX3_distance_29
  · obtain ⟨x1, hx1, rfl⟩ := isN_of c1
    refine lv_iload_n S.1 S.2.1 dX3_distance_12 rfl (lv_at hl 2 rfl) ?_
    refine call_X3_isNode S hK hN hP hD hS hA (x := y)  hl.1 (Nat.le_of_ble_eq_true rfl) ⟨Nat.le_of_ble_eq_true rfl, Nat.le_of_ble_eq_true rfl⟩ dX3_distance_13 ⟨Nat.le_refl _, Nat.le_refl _⟩ (fun H locs hP hD hS => ?_)
    refine kb_eq (tgt := 28) S dX3_distance_16 (by decide) (fun c2 => ?_) (fun c2 => ?_)
    · refine lv_iconst (v := (-1)) S.1 S.2.1 dX3_distance_28 (by decide) ?_
      have e9 : mDistS (nI x1) y τ = mS 0 0 (nI 0) τ := by first | (simp only [mDistS, mT0, c1, cl8 hx1, c2, reduceIte, Bool.false_eq_true, eq_self_iff_true, if_true, if_false]; done) | with_reducible rfl
      rw [e9]
      exact kret_i S hr hlk hP hD hS (by first | (simp only [mDist, mT0, c1, cl8 hx1, c2, reduceIte, Bool.false_eq_true, eq_self_iff_true, if_true, if_false]; done) | with_reducible rfl) dX3_distance_29
    · obtain ⟨y1, hy1, rfl⟩ := isN_of c2
      refine lv_aload_n S.1 S.2.1 dX3_distance_19 rfl (lv_at hl 0 rfl) ?_
      refine mf_there S hK hP dX3_distance_20 ?_
      refine lv_iload_n S.1 S.2.1 dX3_distance_23 rfl (lv_at hl 1 rfl) ?_
      refine ma_there S hK hP (j := x1) (by omega) dX3_distance_24 ?_
      refine lv_if_ne (tgt := 30) S.1 S.2.1 dX3_distance_25 (by decide) (fun c3 => ?_) (fun c3 => ?_)
      · refine lv_aload_n S.1 S.2.1 dX3_distance_30 rfl (lv_at hl 0 rfl) ?_
        refine lv_iload_n S.1 S.2.1 dX3_distance_31 rfl (lv_at hl 1 rfl) ?_
        refine lv_iload_n S.1 S.2.1 dX3_distance_32 rfl (lv_at hl 2 rfl) ?_
        refine call_X3_measure S hK hN hP hD hS hA (v := x1) (g := y1) (by omega) (by omega) (by first | exact hst | exact hen _ _ (by omega) (by omega)) hl.1 (Nat.le_of_ble_eq_true rfl) ⟨Nat.le_of_ble_eq_true rfl, Nat.le_of_ble_eq_true rfl⟩ dX3_distance_33 ⟨Nat.le_refl _, Nat.le_refl _⟩ (fun H locs hP hD hS => ?_)
        refine lv_aload_n S.1 S.2.1 dX3_distance_36 rfl (lv_at hl 0 rfl) ?_
        refine mf_far S hK hP dX3_distance_37 ?_
        refine lv_iload_n S.1 S.2.1 dX3_distance_40 rfl (lv_at hl 1 rfl) ?_
        refine ma_far S hK hP (j := x1) (by omega) dX3_distance_41 ?_
        have e9 : mDistS (nI x1) (nI y1) τ = mMeas x1 y1 (mS 0 0 (nI 0) τ) := by first | (simp only [mDistS, mT0, c1, cl8 hx1, c2, cl8 hy1, c3, reduceIte, Bool.false_eq_true, eq_self_iff_true, if_true, if_false]; done) | with_reducible rfl
        rw [e9]
        exact kret_i S hr hlk hP hD hS (by first | (simp only [mDist, mT0, c1, cl8 hx1, c2, cl8 hy1, c3, reduceIte, Bool.false_eq_true, eq_self_iff_true, if_true, if_false]; done) | with_reducible rfl) dX3_distance_42
      · refine lv_iconst (v := (-1)) S.1 S.2.1 dX3_distance_28 (by decide) ?_
        have e9 : mDistS (nI x1) (nI y1) τ = mS 0 0 (nI 0) τ := by first | (simp only [mDistS, mT0, c1, cl8 hx1, c2, cl8 hy1, eq_true c3, reduceIte, Bool.false_eq_true, eq_self_iff_true, if_true, if_false]; done) | with_reducible rfl
        rw [e9]
        exact kret_i S hr hlk hP hD hS (by first | (simp only [mDist, mT0, c1, cl8 hx1, c2, cl8 hy1, eq_true c3, reduceIte, Bool.false_eq_true, eq_self_iff_true, if_true, if_false]; done) | with_reducible rfl) dX3_distance_29
set_option maxHeartbeats 400000 in
set_option maxRecDepth 100000 in
theorem c_X3_next (l : Launch) (D : va_G) (cy : Nat → ClassId) (a : Nat → Nat) (X : va_W) (τ : MS) (x : Int32) (y : Int32) (hen : mEnds (mT0 τ)) : MetI l yX3_next cX3_next 3 .int (kRm 3 0 0) D (tyA cy) [] [.ref (a 0), .int (x), .int (y)] (X ++ mB cy a τ) (X ++ mB cy a (mNextS x y τ)) (mNext x y τ) 0 0 := by
  intro sz
  refine kmet (own := RX3) (by decide) rfl (Nat.le_of_ble_eq_true rfl) (fun p e s m args below meth c S hr hlk hK hN hP hD hsz hA hnm ls hl => ?_)
  have hS : va_S (va_A (X ++ mB cy a τ) sz) s.heap s.heap [] := va_S.rf
  have hl : lv_has ls 3 [(0, .ref (a 0)), (1, .int (x)), (2, .int (y))] := hl
  refine lv_aload_n S.1 S.2.1 dX3_next_0 rfl (lv_at hl 0 rfl) ?_
  refine lv_iconst (v := (nI 0)) S.1 S.2.1 dX3_next_1 (by decide) ?_
  refine mp_thrown S hK hP hD hS dX3_next_2 (fun H locs hP hD hS => ?_)
  refine lv_iload_n S.1 S.2.1 dX3_next_5 rfl (lv_at hl 1 rfl) ?_
  refine call_X3_isNode S hK hN hP hD hS hA (x := x)  hl.1 (Nat.le_of_ble_eq_true rfl) ⟨Nat.le_of_ble_eq_true rfl, Nat.le_of_ble_eq_true rfl⟩ dX3_next_6 ⟨Nat.le_refl _, Nat.le_refl _⟩ (fun H locs hP hD hS => ?_)
  refine kb_eq (tgt := 33) S dX3_next_9 (by decide) (fun c1 => ?_) (fun c1 => ?_)
  · refine lv_iconst (v := (-1)) S.1 S.2.1 dX3_next_33 (by decide) ?_
    have e9 : mNextS x y τ = mS 0 0 (nI 0) τ := by first | (simp only [mNextS, mT0, c1, reduceIte, Bool.false_eq_true, eq_self_iff_true, if_true, if_false]; done) | with_reducible rfl
    rw [e9]
    exact kret_i S hr hlk hP hD hS (by first | (simp only [mNext, mT0, c1, reduceIte, Bool.false_eq_true, eq_self_iff_true, if_true, if_false]; done) | with_reducible rfl) dX3_next_34
  · obtain ⟨x1, hx1, rfl⟩ := isN_of c1
    refine lv_iload_n S.1 S.2.1 dX3_next_12 rfl (lv_at hl 2 rfl) ?_
    refine call_X3_isNode S hK hN hP hD hS hA (x := y)  hl.1 (Nat.le_of_ble_eq_true rfl) ⟨Nat.le_of_ble_eq_true rfl, Nat.le_of_ble_eq_true rfl⟩ dX3_next_13 ⟨Nat.le_refl _, Nat.le_refl _⟩ (fun H locs hP hD hS => ?_)
    refine kb_eq (tgt := 33) S dX3_next_16 (by decide) (fun c2 => ?_) (fun c2 => ?_)
    · refine lv_iconst (v := (-1)) S.1 S.2.1 dX3_next_33 (by decide) ?_
      have e9 : mNextS (nI x1) y τ = mS 0 0 (nI 0) τ := by first | (simp only [mNextS, mT0, c1, cl8 hx1, c2, reduceIte, Bool.false_eq_true, eq_self_iff_true, if_true, if_false]; done) | with_reducible rfl
      rw [e9]
      exact kret_i S hr hlk hP hD hS (by first | (simp only [mNext, mT0, c1, cl8 hx1, c2, reduceIte, Bool.false_eq_true, eq_self_iff_true, if_true, if_false]; done) | with_reducible rfl) dX3_next_34
    · obtain ⟨y1, hy1, rfl⟩ := isN_of c2
      refine lv_iload_n S.1 S.2.1 dX3_next_19 rfl (lv_at hl 1 rfl) ?_
      refine lv_iload_n S.1 S.2.1 dX3_next_20 rfl (lv_at hl 2 rfl) ?_
      refine lv_icmp_eq (tgt := 33) S.1 S.2.1 dX3_next_21 (by decide) (fun c3 => ?_) (fun c3 => ?_)
      · have c3 : x1 = y1 := (nI_eq (a := x1) (b := y1) (by omega) (by omega)).mp c3
        refine lv_iconst (v := (-1)) S.1 S.2.1 dX3_next_33 (by decide) ?_
        have e9 : mNextS (nI x1) (nI y1) τ = mS 0 0 (nI 0) τ := by first | (simp only [mNextS, mT0, c1, cl8 hx1, c2, cl8 hy1, eq_true c3, reduceIte, Bool.false_eq_true, eq_self_iff_true, if_true, if_false]; done) | with_reducible rfl
        rw [e9]
        exact kret_i S hr hlk hP hD hS (by first | (simp only [mNext, mT0, c1, cl8 hx1, c2, cl8 hy1, eq_true c3, reduceIte, Bool.false_eq_true, eq_self_iff_true, if_true, if_false]; done) | with_reducible rfl) dX3_next_34
      · have c3 : ¬ x1 = y1 := fun h => c3 ((nI_eq (a := x1) (b := y1) (by omega) (by omega)).mpr h)
        refine lv_aload_n S.1 S.2.1 dX3_next_24 rfl (lv_at hl 0 rfl) ?_
        refine mf_there S hK hP dX3_next_25 ?_
        refine lv_iload_n S.1 S.2.1 dX3_next_28 rfl (lv_at hl 1 rfl) ?_
        refine ma_there S hK hP (j := x1) (by omega) dX3_next_29 ?_
        refine lv_if_ne (tgt := 35) S.1 S.2.1 dX3_next_30 (by decide) (fun c4 => ?_) (fun c4 => ?_)
        · refine lv_aload_n S.1 S.2.1 dX3_next_35 rfl (lv_at hl 0 rfl) ?_
          refine lv_iload_n S.1 S.2.1 dX3_next_36 rfl (lv_at hl 1 rfl) ?_
          refine lv_iload_n S.1 S.2.1 dX3_next_37 rfl (lv_at hl 2 rfl) ?_
          refine call_X3_nextOf S hK hN hP hD hS hA (v := x1) (g := y1) (by omega) (by omega) (by first | exact hst | exact hen _ _ (by omega) (by omega)) hl.1 (Nat.le_of_ble_eq_true rfl) ⟨Nat.le_of_ble_eq_true rfl, Nat.le_of_ble_eq_true rfl⟩ dX3_next_38 ⟨Nat.le_refl _, Nat.le_refl _⟩ (fun H locs hP hD hS => ?_)
          have e9 : mNextS (nI x1) (nI y1) τ = mMeas x1 y1 (mS 0 0 (nI 0) τ) := by first | (simp only [mNextS, mT0, c1, cl8 hx1, c2, cl8 hy1, c3, c4, reduceIte, Bool.false_eq_true, eq_self_iff_true, if_true, if_false]; done) | with_reducible rfl
          rw [e9]
          exact kret_i S hr hlk hP hD hS (by first | (simp only [mNext, mT0, c1, cl8 hx1, c2, cl8 hy1, c3, c4, reduceIte, Bool.false_eq_true, eq_self_iff_true, if_true, if_false]; done) | with_reducible rfl) dX3_next_41
        · refine lv_iconst (v := (-1)) S.1 S.2.1 dX3_next_33 (by decide) ?_
          have e9 : mNextS (nI x1) (nI y1) τ = mS 0 0 (nI 0) τ := by first | (simp only [mNextS, mT0, c1, cl8 hx1, c2, cl8 hy1, c3, eq_true c4, reduceIte, Bool.false_eq_true, eq_self_iff_true, if_true, if_false]; done) | with_reducible rfl
          rw [e9]
          exact kret_i S hr hlk hP hD hS (by first | (simp only [mNext, mT0, c1, cl8 hx1, c2, cl8 hy1, c3, eq_true c4, reduceIte, Bool.false_eq_true, eq_self_iff_true, if_true, if_false]; done) | with_reducible rfl) dX3_next_34
set_option maxHeartbeats 400000 in
set_option maxRecDepth 100000 in
theorem c_X3_news (l : Launch) (D : va_G) (cy : Nat → ClassId) (a : Nat → Nat) (X : va_W) (τ : MS) (x : Int32) (y : Int32) (z : Int32)  : MetI l yX3_news cX3_news 7 .int (kRm 2 0 0) D (tyA cy) [] [.ref (a 0), .int (x), .int (y), .int (z)] (X ++ mB cy a τ) (X ++ mB cy a (mT0 τ)) (mNews x y z τ) 0 0 := by
  intro sz
  refine kmet (own := RX3) (by decide) rfl (Nat.le_of_ble_eq_true rfl) (fun p e s m args below meth c S hr hlk hK hN hP hD hsz hA hnm ls hl => ?_)
  have hS : va_S (va_A (X ++ mB cy a τ) sz) s.heap s.heap [] := va_S.rf
  have hl : lv_has ls 7 [(0, .ref (a 0)), (1, .int (x)), (2, .int (y)), (3, .int (z))] := hl
  refine lv_aload_n S.1 S.2.1 dX3_news_0 rfl (lv_at hl 0 rfl) ?_
  refine lv_iconst (v := (nI 0)) S.1 S.2.1 dX3_news_1 (by decide) ?_
  refine mp_thrown S hK hP hD hS dX3_news_2 (fun H locs hP hD hS => ?_)
  refine lv_iload_n S.1 S.2.1 dX3_news_5 rfl (lv_at hl 1 rfl) ?_
  refine call_X3_isNode S hK hN hP hD hS hA (x := x)  hl.1 (Nat.le_of_ble_eq_true rfl) ⟨Nat.le_of_ble_eq_true rfl, Nat.le_of_ble_eq_true rfl⟩ dX3_news_6 ⟨Nat.le_refl _, Nat.le_refl _⟩ (fun H locs hP hD hS => ?_)
  refine kb_eq (tgt := 33) S dX3_news_9 (by decide) (fun c1 => ?_) (fun c1 => ?_)
  · refine lv_iconst (v := (-1)) S.1 S.2.1 dX3_news_33 (by decide) ?_
    have e9 : mT0 τ = mS 0 0 (nI 0) τ := by first | (simp only [mT0, mT0, c1, reduceIte, Bool.false_eq_true, eq_self_iff_true, if_true, if_false]; done) | with_reducible rfl
    rw [e9]
    exact kret_i S hr hlk hP hD hS (by first | (simp only [mNews, mT0, mNewsB, c1, reduceIte, Bool.false_eq_true, eq_self_iff_true, if_true, if_false]; done) | with_reducible rfl) dX3_news_34
  · obtain ⟨x1, hx1, rfl⟩ := isN_of c1
    refine lv_iload_n S.1 S.2.1 dX3_news_12 rfl (lv_at hl 2 rfl) ?_
    refine call_X3_isNode S hK hN hP hD hS hA (x := y)  hl.1 (Nat.le_of_ble_eq_true rfl) ⟨Nat.le_of_ble_eq_true rfl, Nat.le_of_ble_eq_true rfl⟩ dX3_news_13 ⟨Nat.le_refl _, Nat.le_refl _⟩ (fun H locs hP hD hS => ?_)
    refine kb_eq (tgt := 33) S dX3_news_16 (by decide) (fun c2 => ?_) (fun c2 => ?_)
    · refine lv_iconst (v := (-1)) S.1 S.2.1 dX3_news_33 (by decide) ?_
      have e9 : mT0 τ = mS 0 0 (nI 0) τ := by first | (simp only [mT0, mT0, c1, cl8 hx1, c2, reduceIte, Bool.false_eq_true, eq_self_iff_true, if_true, if_false]; done) | with_reducible rfl
      rw [e9]
      exact kret_i S hr hlk hP hD hS (by first | (simp only [mNews, mT0, mNewsB, c1, cl8 hx1, c2, reduceIte, Bool.false_eq_true, eq_self_iff_true, if_true, if_false]; done) | with_reducible rfl) dX3_news_34
    · obtain ⟨y1, hy1, rfl⟩ := isN_of c2
      refine lv_aload_n S.1 S.2.1 dX3_news_19 rfl (lv_at hl 0 rfl) ?_
      refine mf_numbers S hK hP dX3_news_20 ?_
      refine lv_bipush (v := (nI 8)) S.1 S.2.1 dX3_news_23 (by decide) ?_
      refine lv_iload_n S.1 S.2.1 dX3_news_25 rfl (lv_at hl 1 rfl) ?_
      refine lv_imul S.1 S.2.1 dX3_news_26 ?_
      refine k_top (pk_mul _ _) ?_
      refine lv_iload_n S.1 S.2.1 dX3_news_27 rfl (lv_at hl 2 rfl) ?_
      refine lv_iadd S.1 S.2.1 dX3_news_28 ?_
      refine k_top (nI_add _ _) ?_
      refine ma_numbers S hK hP (j := ((8 * x1) + y1)) (by omega) dX3_news_29 ?_
      refine lv_if_ne (tgt := 35) S.1 S.2.1 dX3_news_30 (by decide) (fun c3 => ?_) (fun c3 => ?_)
      · refine lv_bipush (v := (nI 8)) S.1 S.2.1 dX3_news_35 (by decide) ?_
        refine lv_iload_n S.1 S.2.1 dX3_news_37 rfl (lv_at hl 1 rfl) ?_
        refine lv_imul S.1 S.2.1 dX3_news_38 ?_
        refine k_top (pk_mul _ _) ?_
        refine lv_iload_n S.1 S.2.1 dX3_news_39 rfl (lv_at hl 2 rfl) ?_
        refine lv_iadd S.1 S.2.1 dX3_news_40 ?_
        refine k_top (nI_add _ _) ?_
        refine lv_istore (lv' := [(4, .int (nI ((8 * x1) + y1))), (0, .ref (a 0)), (1, .int (nI (x1))), (2, .int (nI (y1))), (3, .int (z))]) S.1 S.2.1 dX3_news_41 hl (by decide) rfl (fun ls hl => ?_)
        refine lv_iload_n S.1 S.2.1 dX3_news_43 rfl (lv_at hl 4 rfl) ?_
        refine lv_bipush (v := (nI 10)) S.1 S.2.1 dX3_news_44 (by decide) ?_
        refine lv_bipush (v := (nI 17)) S.1 S.2.1 dX3_news_46 (by decide) ?_
        refine call_X3_in S hK hN hP hD hS hA (x := z) (y := nI 10) (z := nI 17)  hl.1 (Nat.le_of_ble_eq_true rfl) ⟨Nat.le_of_ble_eq_true rfl, Nat.le_of_ble_eq_true rfl⟩ dX3_news_48 ⟨Nat.le_refl _, Nat.le_refl _⟩ (fun H locs hP hD hS => ?_)
        refine kb_eq (tgt := 70) S dX3_news_51 (by decide) (fun c4 => ?_) (fun c4 => ?_)
        · refine lv_iconst (v := (nI 0)) S.1 S.2.1 dX3_news_70 (by decide) ?_
          refine lv_istore (lv' := [(5, .int (nI 0)), (4, .int (nI ((8 * x1) + y1))), (0, .ref (a 0)), (1, .int (nI (x1))), (2, .int (nI (y1))), (3, .int (z))]) S.1 S.2.1 dX3_news_71 hl (by decide) rfl (fun ls hl => ?_)
          refine lv_iconst (v := (nI 0)) S.1 S.2.1 dX3_news_73 (by decide) ?_
          refine lv_istore (lv' := [(6, .int (nI 0)), (5, .int (nI 0)), (4, .int (nI ((8 * x1) + y1))), (0, .ref (a 0)), (1, .int (nI (x1))), (2, .int (nI (y1))), (3, .int (z))]) S.1 S.2.1 dX3_news_74 hl (by decide) rfl (fun ls hl => ?_)
          have lp5 : ∀ (n5 i5 : Nat)  (x5_0 : Int32), i5 + n5 = 8 → itr (fNw (mS 0 0 (nI 0) τ) ((8 * x1) + y1)) n5 i5 x5_0 = itr (fNw (mS 0 0 (nI 0) τ) ((8 * x1) + y1)) 8 0 (nI 0) → ∀ (H : Heap) (locs : List Loc), va_P D vwCl (X ++ mB cy a (mS 0 0 (nI 0) τ)) H → va_D (va_A (X ++ mB cy a τ) sz) (X ++ mB cy a (mS 0 0 (nI 0) τ)) → va_S (va_A (X ++ mB cy a τ) sz) s.heap H locs → ∀ ls : Array Slot, lv_has ls 7 [(6, .int (nI (i5))), (5, .int (x5_0)), (4, .int (nI ((8 * x1) + y1))), (0, .ref (a 0)), (1, .int (nI (x1))), (2, .int (nI (y1))), (3, .int (z))] → W p l e (kRm 2 0 0) s m args below meth c H locs 0 0 (MQ below (kQi D (X ++ mB cy a τ) (X ++ mB cy a (mT0 τ)) (mNews (nI x1) (nI y1) z τ) sz) args s 0 0 (va_A (X ++ mB cy a τ) sz)) (F0 m 76 ls []) := by
            intro n5
            induction n5 with
            | zero =>
              intro i5 x5_0 hi5 he5 H locs hP hD hS ls hl
              have hi5 : i5 = 8 := by omega
              have he5 : x5_0 = itr (fNw (mS 0 0 (nI 0) τ) ((8 * x1) + y1)) 8 0 (nI 0) := he5
              refine lv_iload S.1 S.2.1 dX3_news_76 (lv_at hl 0 rfl) ?_
              refine lv_bipush (v := (nI 8)) S.1 S.2.1 dX3_news_78 (by decide) ?_
              refine lv_icmp_ge (tgt := 116) S.1 S.2.1 dX3_news_80 (by decide) (fun _ => ?_) (fun c => absurd (nI_le (by omega) (by omega)) c)
              refine lv_iload_n S.1 S.2.1 dX3_news_116 rfl (lv_at hl 6 rfl) ?_
              refine lv_if_ne (tgt := 130) S.1 S.2.1 dX3_news_117 (by decide) (fun c7 => ?_) (fun c7 => ?_)
              · refine lv_iload_n S.1 S.2.1 dX3_news_130 rfl (lv_at hl 6 rfl) ?_
                refine lv_iconst (v := (nI 1)) S.1 S.2.1 dX3_news_131 (by decide) ?_
                refine lv_icmp_ne (tgt := 145) S.1 S.2.1 dX3_news_132 (by decide) (fun c8 => ?_) (fun c8 => ?_)
                · refine lv_iload_n S.1 S.2.1 dX3_news_145 rfl (lv_at hl 6 rfl) ?_
                  refine lv_iconst (v := (nI 2)) S.1 S.2.1 dX3_news_146 (by decide) ?_
                  refine lv_icmp_ne (tgt := 155) S.1 S.2.1 dX3_news_147 (by decide) (fun c9 => ?_) (fun c9 => ?_)
                  · refine lv_iconst (v := (-1)) S.1 S.2.1 dX3_news_155 (by decide) ?_
                    have e9 : mT0 τ = mS 0 0 (nI 0) τ := by first | (simp only [mT0, mT0, c1, cl8 hx1, c2, cl8 hy1, c3, c4, ← he5, c7, c8, c9, reduceIte, Bool.false_eq_true, eq_self_iff_true, if_true, if_false]; done) | with_reducible rfl
                    rw [e9]
                    exact kret_i S hr hlk hP hD hS (by first | (simp only [mNews, mT0, mNewsB, c1, cl8 hx1, c2, cl8 hy1, c3, c4, ← he5, c7, c8, c9, reduceIte, Bool.false_eq_true, eq_self_iff_true, if_true, if_false]; done) | with_reducible rfl) dX3_news_156
                  · refine lv_iload S.1 S.2.1 dX3_news_150 (lv_at hl 1 rfl) ?_
                    refine lv_goto (tgt := 156) S.1 S.2.1 dX3_news_152 (by decide) ?_
                    have e9 : mT0 τ = mS 0 0 (nI 0) τ := by first | (simp only [mT0, mT0, c1, cl8 hx1, c2, cl8 hy1, c3, c4, ← he5, c7, c8, eq_true c9, reduceIte, Bool.false_eq_true, eq_self_iff_true, if_true, if_false]; done) | with_reducible rfl
                    rw [e9]
                    exact kret_i S hr hlk hP hD hS (by first | (simp only [mNews, mT0, mNewsB, c1, cl8 hx1, c2, cl8 hy1, c3, c4, ← he5, c7, c8, eq_true c9, reduceIte, Bool.false_eq_true, eq_self_iff_true, if_true, if_false]; done) | with_reducible rfl) dX3_news_156
                · refine lv_aload_n S.1 S.2.1 dX3_news_135 rfl (lv_at hl 3 rfl) ?_
                  refine mf_ages S hK hP dX3_news_136 ?_
                  refine lv_iload S.1 S.2.1 dX3_news_139 (lv_at hl 2 rfl) ?_
                  refine ma_ages S hK hP (j := ((8 * x1) + y1)) (by omega) dX3_news_141 ?_
                  refine lv_goto (tgt := 156) S.1 S.2.1 dX3_news_142 (by decide) ?_
                  have e9 : mT0 τ = mS 0 0 (nI 0) τ := by first | (simp only [mT0, mT0, c1, cl8 hx1, c2, cl8 hy1, c3, c4, ← he5, c7, eq_true c8, reduceIte, Bool.false_eq_true, eq_self_iff_true, if_true, if_false]; done) | with_reducible rfl
                  rw [e9]
                  exact kret_i S hr hlk hP hD hS (by first | (simp only [mNews, mT0, mNewsB, c1, cl8 hx1, c2, cl8 hy1, c3, c4, ← he5, c7, eq_true c8, reduceIte, Bool.false_eq_true, eq_self_iff_true, if_true, if_false]; done) | with_reducible rfl) dX3_news_156
              · refine lv_aload_n S.1 S.2.1 dX3_news_120 rfl (lv_at hl 3 rfl) ?_
                refine mf_numbers S hK hP dX3_news_121 ?_
                refine lv_iload S.1 S.2.1 dX3_news_124 (lv_at hl 2 rfl) ?_
                refine ma_numbers S hK hP (j := ((8 * x1) + y1)) (by omega) dX3_news_126 ?_
                refine lv_goto (tgt := 156) S.1 S.2.1 dX3_news_127 (by decide) ?_
                have e9 : mT0 τ = mS 0 0 (nI 0) τ := by first | (simp only [mT0, mT0, c1, cl8 hx1, c2, cl8 hy1, c3, c4, ← he5, eq_true c7, reduceIte, Bool.false_eq_true, eq_self_iff_true, if_true, if_false]; done) | with_reducible rfl
                rw [e9]
                exact kret_i S hr hlk hP hD hS (by first | (simp only [mNews, mT0, mNewsB, c1, cl8 hx1, c2, cl8 hy1, c3, c4, ← he5, eq_true c7, reduceIte, Bool.false_eq_true, eq_self_iff_true, if_true, if_false]; done) | with_reducible rfl) dX3_news_156
            | succ n5 ih5 =>
              intro i5 x5_0 hi5 he5 H locs hP hD hS ls hl
              have hlt5 : i5 < 8 := by omega
              refine lv_iload S.1 S.2.1 dX3_news_76 (lv_at hl 0 rfl) ?_
              refine lv_bipush (v := (nI 8)) S.1 S.2.1 dX3_news_78 (by decide) ?_
              refine lv_icmp_ge (tgt := 116) S.1 S.2.1 dX3_news_80 (by decide) (fun c => absurd c (nI_ge (by omega) (by omega))) (fun _ => ?_)
              refine lv_aload_n S.1 S.2.1 dX3_news_83 rfl (lv_at hl 3 rfl) ?_
              refine mf_tells S hK hP dX3_news_84 ?_
              refine lv_bipush (v := (nI 8)) S.1 S.2.1 dX3_news_87 (by decide) ?_
              refine lv_iload S.1 S.2.1 dX3_news_89 (lv_at hl 2 rfl) ?_
              refine lv_imul S.1 S.2.1 dX3_news_91 ?_
              refine k_top (pk_mul _ _) ?_
              refine lv_iload S.1 S.2.1 dX3_news_92 (lv_at hl 0 rfl) ?_
              refine lv_iadd S.1 S.2.1 dX3_news_94 ?_
              refine k_top (nI_add _ _) ?_
              refine ma_tells S hK hP (j := ((8 * ((8 * x1) + y1)) + i5)) (by omega) dX3_news_95 ?_
              refine lv_if_le (tgt := 106) S.1 S.2.1 dX3_news_96 (by decide) (fun c11 => ?_) (fun c11 => ?_)
              · refine lv_iload S.1 S.2.1 dX3_news_106 (lv_at hl 1 rfl) ?_
                refine lv_istore (lv' := [(5, .int (x5_0)), (6, .int (nI (i5))), (4, .int (nI ((8 * x1) + y1))), (0, .ref (a 0)), (1, .int (nI (x1))), (2, .int (nI (y1))), (3, .int (z))]) S.1 S.2.1 dX3_news_108 hl (by decide) rfl (fun ls hl => ?_)
                refine lv_iinc (v := (nI (i5 + 1))) (lv' := [(6, .int (nI (i5 + 1))), (5, .int (x5_0)), (4, .int (nI ((8 * x1) + y1))), (0, .ref (a 0)), (1, .int (nI (x1))), (2, .int (nI (y1))), (3, .int (z))]) S.1 S.2.1 dX3_news_110 hl (k := 1) rfl (nI_add _ 1) (by decide) rfl (fun ls hl => ?_)
                refine lv_goto (tgt := 76) S.1 S.2.1 dX3_news_113 (by decide) ?_
                exact ih5 (i5 + 1)  ((x5_0)) (by omega) (itr_step he5 (by first | (simp only [fNw, mT0, c1, cl8 hx1, c2, cl8 hy1, c3, c4, c11, reduceIte, Bool.false_eq_true, eq_self_iff_true, if_true, if_false]; done) | with_reducible rfl)) _ _ hP hD hS _ (lv_sub hl [0, 1, 2, 3, 4, 5, 6] rfl)
              · refine lv_iload S.1 S.2.1 dX3_news_99 (lv_at hl 1 rfl) ?_
                refine lv_iconst (v := (nI 1)) S.1 S.2.1 dX3_news_101 (by decide) ?_
                refine lv_iadd S.1 S.2.1 dX3_news_102 ?_
                refine lv_goto (tgt := 108) S.1 S.2.1 dX3_news_103 (by decide) ?_
                refine lv_istore (lv' := [(5, .int ((x5_0) + (nI 1))), (6, .int (nI (i5))), (4, .int (nI ((8 * x1) + y1))), (0, .ref (a 0)), (1, .int (nI (x1))), (2, .int (nI (y1))), (3, .int (z))]) S.1 S.2.1 dX3_news_108 hl (by decide) rfl (fun ls hl => ?_)
                refine lv_iinc (v := (nI (i5 + 1))) (lv' := [(6, .int (nI (i5 + 1))), (5, .int ((x5_0) + (nI 1))), (4, .int (nI ((8 * x1) + y1))), (0, .ref (a 0)), (1, .int (nI (x1))), (2, .int (nI (y1))), (3, .int (z))]) S.1 S.2.1 dX3_news_110 hl (k := 1) rfl (nI_add _ 1) (by decide) rfl (fun ls hl => ?_)
                refine lv_goto (tgt := 76) S.1 S.2.1 dX3_news_113 (by decide) ?_
                exact ih5 (i5 + 1)  (((x5_0) + (nI 1))) (by omega) (itr_step he5 (by first | (simp only [fNw, mT0, c1, cl8 hx1, c2, cl8 hy1, c3, c4, c11, reduceIte, Bool.false_eq_true, eq_self_iff_true, if_true, if_false]; done) | with_reducible rfl)) _ _ hP hD hS _ (lv_sub hl [0, 1, 2, 3, 4, 5, 6] rfl)
          exact lp5 8 0  ((nI 0)) (by omega) rfl _ _ hP hD hS _ (lv_sub hl [0, 1, 2, 3, 4, 5, 6] rfl)
        · obtain ⟨z1, hza, hzb, rfl⟩ := inR_of (by decide) (by decide) c4
          refine lv_aload_n S.1 S.2.1 dX3_news_54 rfl (lv_at hl 1 rfl) ?_
          refine mf_tells S hK hP dX3_news_55 ?_
          refine lv_bipush (v := (nI 8)) S.1 S.2.1 dX3_news_58 (by decide) ?_
          refine lv_iload S.1 S.2.1 dX3_news_60 (lv_at hl 0 rfl) ?_
          refine lv_imul S.1 S.2.1 dX3_news_62 ?_
          refine k_top (pk_mul _ _) ?_
          refine lv_iload_n S.1 S.2.1 dX3_news_63 rfl (lv_at hl 4 rfl) ?_
          refine lv_iadd S.1 S.2.1 dX3_news_64 ?_
          refine k_top (nI_add _ _) ?_
          refine lv_bipush (v := (nI 10)) S.1 S.2.1 dX3_news_65 (by decide) ?_
          refine lv_isub S.1 S.2.1 dX3_news_67 ?_
          refine k_top (pk_sub (by omega)) ?_
          refine ma_tells S hK hP (j := (((8 * ((8 * x1) + y1)) + z1) - 10)) (by omega) dX3_news_68 ?_
          have e9 : mT0 τ = mS 0 0 (nI 0) τ := by first | (simp only [mT0, mT0, c1, cl8 hx1, c2, cl8 hy1, c3, c4, nI_clamp (show z1 < 2 ^ 31 by omega), reduceIte, Bool.false_eq_true, eq_self_iff_true, if_true, if_false]; done) | with_reducible rfl
          rw [e9]
          exact kret_i S hr hlk hP hD hS (by first | (simp only [mNews, mT0, mNewsB, c1, cl8 hx1, c2, cl8 hy1, c3, c4, nI_clamp (show z1 < 2 ^ 31 by omega), reduceIte, Bool.false_eq_true, eq_self_iff_true, if_true, if_false]; done) | with_reducible rfl) dX3_news_69
      · refine lv_iconst (v := (-1)) S.1 S.2.1 dX3_news_33 (by decide) ?_
        have e9 : mT0 τ = mS 0 0 (nI 0) τ := by first | (simp only [mT0, mT0, c1, cl8 hx1, c2, cl8 hy1, eq_true c3, reduceIte, Bool.false_eq_true, eq_self_iff_true, if_true, if_false]; done) | with_reducible rfl
        rw [e9]
        exact kret_i S hr hlk hP hD hS (by first | (simp only [mNews, mT0, mNewsB, c1, cl8 hx1, c2, cl8 hy1, eq_true c3, reduceIte, Bool.false_eq_true, eq_self_iff_true, if_true, if_false]; done) | with_reducible rfl) dX3_news_34
