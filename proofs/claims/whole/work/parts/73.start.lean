/-! THE LAW'S START -/
theorem nestC_lw : ∀ w ∈ nestC, w ∈ lw_tbl := by decide +kernel
theorem lw_nest {args : Array Value} {s : State} (hts : ∀ w ∈ lw_tbl, w.before args s = true) : kN nestA s := fun w h => by
  rcases List.mem_append.mp h with h1 | h1
  · exact va_Nw.of (nestC_ok w h1).1 (hts w (nestC_lw w h1))
  · exact va_Nw.of (nestX_ok w h1).1 (hts w (nestX_lw w h1))
theorem lw_str {b : Nat} {s : State} (hts : ∀ w ∈ lw_tbl, w.before #[Value.ref b] s = true) {is : Nat} {tx : String} (h1 : Cond.stringRef "FloodingNet" is tx ∈ lw_tbl) (h2 : (Cond.exactly (.string "FloodingNet" is) "java/lang/String").before #[Value.ref b] s = true) : ∃ sa : Nat, vk_R RX2 is tx sa s := by
  obtain ⟨a, c, cA, kA, q1, -⟩ := Cond.exactly_spec (args := #[Value.ref b]) (first := s) (o := none) (s := s) (idx := []) (t := .string "FloodingNet" is) (cls := "java/lang/String") h2
  exact ⟨a, vk_R.of (hts _ h1) q1⟩
theorem lw_strs {b : Nat} {s : State} (hts : ∀ w ∈ lw_tbl, w.before #[Value.ref b] s = true) (hgv : (Jvm.Cond.and given_1 narrow_1).before #[Value.ref b] s = true) : ∀ q ∈ strL, ∃ sa : Nat, vk_R RX2 q.1 q.2 sa s := by
  have hs := flat_of_before _ hgv
  refine List.forall_mem_cons.mpr ⟨lw_str hts wn_253 (hs _ (by decide +kernel)), List.forall_mem_cons.mpr ⟨lw_str hts wn_280 (hs _ (by decide +kernel)), List.forall_mem_cons.mpr ⟨lw_str hts wn_294 (hs _ (by decide +kernel)), List.forall_mem_cons.mpr ⟨lw_str hts wn_352 (hs _ (by decide +kernel)), List.forall_mem_cons.mpr ⟨lw_str hts wn_384 (hs _ (by decide +kernel)), List.forall_mem_cons.mpr ⟨lw_str hts wn_403 (hs _ (by decide +kernel)), List.forall_mem_cons.mpr ⟨lw_str hts wn_440 (hs _ (by decide +kernel)), List.forall_mem_cons.mpr ⟨lw_str hts wn_441 (hs _ (by decide +kernel)), fun _ h => absurd h List.not_mem_nil⟩⟩⟩⟩⟩⟩⟩⟩
theorem lw_arr {args : Array Value} {s : State} {ty : FieldType} (h : (Cond.arrayClass ty).before args s = true) (hn : ∀ C, ty ≠ .object C) : ∃ cA : ClassId, ArrOfT s cA ty ∧ va_RA s cA ty := by
  obtain ⟨cA, kA, comp, hf, hk, hkd⟩ := Cond.arrayClass_spec h
  refine ⟨cA, fun n z => ⟨fun k h => (by cases h), kA, hk, comp, hkd⟩, ?_⟩
  cases ty with
  | object C => exact absurd rfl (hn C)
  | _ => exact hf
theorem lw_K {b : Nat} {s : State} (hts : ∀ w ∈ lw_tbl, w.before #[Value.ref b] s = true) : ∃ (D : va_G) (cy : Nat → ClassId), va_K D vwCl (tyA cy) s := by
  have hg : ∀ w ∈ gw, w.before #[Value.ref b] s = true := fun w hw => hts w (List.mem_filter.mp hw).1
  obtain ⟨c0, i0, k0⟩ := u_known (C := RX0) (T := TX0) (N := 8) (n := 8) hg inX0 (hg _ wm_368)
  obtain ⟨c1, i1, k1⟩ := u_known (C := RX1) (T := TX1) (N := 4) (n := 4) hg inX1 (hts (.instantiable "FloodingNet$Pieces" 4) (by decide +kernel))
  obtain ⟨c2, i2, k2⟩ := u_known (C := RX2) (T := TX2) (N := 13) (n := 13) hg inX2 (hts (.instantiable "FloodingNet" 13) (by decide +kernel))
  obtain ⟨c3, i3, k3⟩ := u_known (C := RX3) (T := TX3) (N := 27) (n := 27) hg inX3 (hts (.instantiable "FloodingNetModel" 27) (by decide +kernel))
  obtain ⟨y0, a0⟩ := lw_arr (hg _ wm_90) (fun C h => by cases h)
  obtain ⟨y1, a1⟩ := lw_arr (hg _ wm_91) (fun C h => by cases h)
  obtain ⟨y2, a2⟩ := lw_arr (hg _ wm_89) (fun C h => by cases h)
  obtain ⟨comp, y3, kA, hcomp, -, hkA, hkd, hnm⟩ := Cond.arrayOver_spec (hts _ wn_93)
  refine ⟨(fun k => if k = 0 then c0 else if k = 1 then c1 else if k = 2 then c2 else c3, fun k => if k = 0 then i0 else if k = 1 then i1 else if k = 2 then i2 else i3), fun k => if k = 0 then y0 else if k = 1 then y1 else if k = 2 then y2 else y3, ?_, ?_⟩
  · intro k q hq
    match k, hq with
    | 0, hq => cases hq; exact k0
    | 1, hq => cases hq; exact k1
    | 2, hq => cases hq; exact k2
    | 3, hq => cases hq; exact k3
    | k + 4, hq => simp [vwCl] at hq
  · intro k q hq
    match k, hq with
    | 0, hq => cases hq; exact a0
    | 1, hq => cases hq; exact a1
    | 2, hq => cases hq; exact a2
    | 3, hq => cases hq; exact ⟨fun n z => ⟨fun k h => (by cases h), kA, hkA, comp, hkd⟩, kA, comp, hkA, hkd, hcomp, hnm⟩
    | k + 4, hq => simp [tyA] at hq
set_option maxHeartbeats 400000 in
set_option maxRecDepth 100000 in
theorem whole_start {p : Program} {e : Env} {s : State} {m : MethodId} {below : List Frame} {meth : Method} {c : Code} (l : Launch) (hst9 : l.stackTraces = false) {Rr : Nat → Nat → CS → MS → Prop} (G : lrAll Rr) (G0 : Rr 0 0 (fun _ _ => 0, fun _ _ => 0) (fun _ _ => 0)) {b L : Nat} {xs : Nat → Int32} (hL : L ≤ 2560) (C0 : lw_At p s m meth c b L xs) : W p l e room_1 s m #[Value.ref b] below meth c s.heap [] 0 0 (lw_Z below #[Value.ref b] s) (entryFrame m ([Value.ref b] : List Value).toArray 7) := by
  obtain ⟨hx, hb, hr, hml, hown, hts, hX, hbl, hlk, hgv⟩ := C0
  have hnr := flat_of_before _ hgv
  obtain ⟨D, cy, hK⟩ := lw_K hts
  have S : CallFix p m c code 7 s #[Value.ref b] (Cond.initialized "FloodingNetLaw" :: gw) RL := ⟨hx, hb, hml, hown, fun w hw => hts w (by
    rcases List.mem_cons.mp hw with h | h
    · rw [h]; exact (List.mem_filter.mp wm_47).1
    · exact (List.mem_filter.mp h).1)⟩
  have hNA : kN nestA s := lw_nest hts
  have hN := nestA_C hNA
  have hAO : va_AO RX0 s := va_AO.of (hts _ wn_93)
  have hA0 : ∀ a : Nat, a < s.heap.size → ¬ lA s a := fun a h1 h2 => by have h2 : s.heap.size ≤ a := h2; omega
  have F : lFix p l m c s b L xs D cy := ⟨S, hst9, hK, hNA, ⟨vx_Zqof (hts _ (by decide +kernel)) (hts _ (by decide +kernel)) (hnr _ (by decide +kernel)) hA0, vx_Zqof (hts _ (by decide +kernel)) (hts _ (by decide +kernel)) (hnr _ (by decide +kernel)) hA0⟩, lw_strs hts hgv, va_Nc.of (hnr _ (by decide +kernel)), hX, hbl, hL⟩
  have hA : ∀ q, s.heap.size ≤ q → lA s q := fun q h => h
  have hS : va_S (lA s) s.heap s.heap [] := va_S.rf
  have hP : va_P D vwCl [] s.heap := fun k q h => by simp at h
  have hD : va_D (lA s) [] := ⟨fun i j p q h => by simp at h, fun k q h => by simp at h⟩
  have hl := lv_entry ([.ref b]) (n := 7) (Nat.le_of_ble_eq_true rfl)
  rw [lg_entry_eq]
  generalize (lg_sl ([.ref b]) ++ List.replicate (7 - (lg_sl ([.ref b])).length) Slot.unset).toArray = ls at hl ⊢
  have hl : lv_has ls 7 [(0, .ref b)] := hl
  refine va_new (ci := 2) (fs := [.null, .null, .null, .null, .null, .int 0, .null, .null, .null, .null, .int 0, .null, .int 0]) (C := RX2) (T := TX2) (N := 13) S.1 S.2.1 S.2.2.2.2 (fun w h => List.mem_cons_of_mem _ (inX2 w h)) tyX2 tyX2_ok S.2.2.2.1 (hts (.classLink "FloodingNetLaw" 8 "FloodingNet") (by decide +kernel)) (hts (.instantiable "FloodingNet" 13) (by decide +kernel)) (hts (.initialized "FloodingNet") (by decide +kernel)) hK hP hD hS hA rfl (fun j hj => by rcases (show j = 0 ∨ j = 1 ∨ j = 2 ∨ j = 3 ∨ j = 4 ∨ j = 5 ∨ j = 6 ∨ j = 7 ∨ j = 8 ∨ j = 9 ∨ j = 10 ∨ j = 11 ∨ j = 12 by omega) with rfl | rfl | rfl | rfl | rfl | rfl | rfl | rfl | rfl | rfl | rfl | rfl | rfl <;> rfl) (Nat.le_of_ble_eq_true rfl) (Nat.le_of_ble_eq_true rfl) dL_law_0 (fun q H hP hD hS => ?_)
  refine lv_dup S.1 S.2.1 dL_law_3 rfl ?_
  have hFc := kfree hD hS hA
  refine va_callv (va_runI (As := []) (rest := [.ref q]) S (c_X2_init l D cy [] rfl q _ rfl H.size) (cwI 0 S.2.2.2.2 (gw_good_in (List.mem_filter.mpr ⟨(by decide +kernel : Cond.code yX2_init cX2_init 1 none ∈ lw_tbl), rfl⟩)) rfl rfl rfl (hts (.initialized "FloodingNet") (by decide +kernel)) (hts (.methodLink "FloodingNetLaw" 39 yX2_init) (by decide +kernel)) (hts (.instanceMethod yX2_init) (by decide +kernel)) rfl (by decide +kernel) ⟨Nat.le_of_ble_eq_true rfl, Nat.le_of_ble_eq_true rfl⟩) ⟨fun a U g mk q => ⟨q.1, (kblind nestC_ok a U g mk ⟨q.1, q.2.1⟩).2, va_AO.moved (u := U) (U := U.calling g mk a) (Vm.Alike.refl U.vm) q.2.2⟩, fun U hU hW => ⟨rfl, (kpre (av := [.ref q]) nestC_ok hN hK hP hD U hU hW).2, va_AO.moved hW.alike hAO⟩⟩ rfl rfl hl.1 rfl (lv_room (Nat.le_of_ble_eq_true rfl)) dL_law_4 ⟨Nat.le_of_ble_eq_true rfl, Nat.le_of_ble_eq_true rfl⟩) hS (fun q _ h => hFc q h) hFc (fun a t H1 locs ht hvm hw hB hz1 hk1 hS => ?_)
  obtain ⟨hP, hD⟩ := hB
  rw [ht] at hP
  have hD := hD.weaken (fun k q _ h => hFc q.1 h)
  generalize H1 = H at hP hS ⊢
  rw [← hw]
  refine lv_astore_n (lv' := [(1, .ref (a 0)), (0, .ref b)]) S.1 S.2.1 dL_law_7 rfl hl (by decide) rfl (fun ls hl => ?_)
  refine va_new (ci := 3) (fs := [.int 0, .int 0, .null, .null, .int 0, .null, .null, .null, .null, .null, .null, .null, .null, .null, .null, .null, .int 0, .null, .null, .null, .null, .null, .null, .null, .null, .null, .null]) (C := RX3) (T := TX3) (N := 27) S.1 S.2.1 S.2.2.2.2 (fun w h => List.mem_cons_of_mem _ (inX3 w h)) tyX3 tyX3_ok S.2.2.2.1 (hts (.classLink "FloodingNetLaw" 40 "FloodingNetModel") (by decide +kernel)) (hts (.instantiable "FloodingNetModel" 27) (by decide +kernel)) (hts (.initialized "FloodingNetModel") (by decide +kernel)) hK hP hD hS hA rfl (fun j hj => by rcases (show j = 0 ∨ j = 1 ∨ j = 2 ∨ j = 3 ∨ j = 4 ∨ j = 5 ∨ j = 6 ∨ j = 7 ∨ j = 8 ∨ j = 9 ∨ j = 10 ∨ j = 11 ∨ j = 12 ∨ j = 13 ∨ j = 14 ∨ j = 15 ∨ j = 16 ∨ j = 17 ∨ j = 18 ∨ j = 19 ∨ j = 20 ∨ j = 21 ∨ j = 22 ∨ j = 23 ∨ j = 24 ∨ j = 25 ∨ j = 26 by omega) with rfl | rfl | rfl | rfl | rfl | rfl | rfl | rfl | rfl | rfl | rfl | rfl | rfl | rfl | rfl | rfl | rfl | rfl | rfl | rfl | rfl | rfl | rfl | rfl | rfl | rfl | rfl <;> rfl) (Nat.le_of_ble_eq_true rfl) (Nat.le_of_ble_eq_true rfl) dL_law_8 (fun q H hP hD hS => ?_)
  refine lv_dup S.1 S.2.1 dL_law_11 rfl ?_
  have hFc := kfree hD hS hA
  refine va_callv (va_runI (As := []) (rest := [.ref q]) S (c_X3_init l D cy (cW [] cy a 0 (fun _ _ => 0, fun _ _ => 0)) q _ rfl H.size) (cwI 0 S.2.2.2.2 (gw_good_in (List.mem_filter.mpr ⟨(by decide +kernel : Cond.code yX3_init cX3_init 1 none ∈ lw_tbl), rfl⟩)) rfl rfl rfl (hts (.initialized "FloodingNetModel") (by decide +kernel)) (hts (.methodLink "FloodingNetLaw" 42 yX3_init) (by decide +kernel)) (hts (.instanceMethod yX3_init) (by decide +kernel)) rfl (by decide +kernel) ⟨Nat.le_of_ble_eq_true rfl, Nat.le_of_ble_eq_true rfl⟩) ⟨kblind kNok.nil, kpre kNok.nil (kN.nil s) hK hP hD⟩ rfl rfl hl.1 rfl (lv_room (Nat.le_of_ble_eq_true rfl)) dL_law_12 ⟨Nat.le_of_ble_eq_true rfl, Nat.le_of_ble_eq_true rfl⟩) hS (fun q _ h => hFc q h) hFc (fun am t H1 locs ht hvm hw hB hz1 hk1 hS => ?_)
  obtain ⟨hP, hD⟩ := hB
  rw [ht] at hP
  have hD := hD.weaken (fun k q _ h => hFc q.1 h)
  generalize H1 = H at hP hS ⊢
  rw [← hw]
  refine lv_astore_n (lv' := [(2, .ref (am 0)), (1, .ref (a 0)), (0, .ref b)]) S.1 S.2.1 dL_law_15 rfl hl (by decide) rfl (fun ls hl => ?_)
  refine lv_iconst (v := nI 1) S.1 S.2.1 dL_law_16 (by decide) ?_
  refine k_newJ (n := 1) S (S.2.2.2.2 _ (List.mem_cons_of_mem _ wm_91)) hK hP hD hS hA (by omega) (Nat.le_of_ble_eq_true rfl) (Nat.le_of_ble_eq_true rfl) dL_law_17 (fun ao H hP hD hS => ?_)
  refine lv_astore_n (lv' := [(3, .ref ao), (2, .ref (am 0)), (1, .ref (a 0)), (0, .ref b)]) S.1 S.2.1 dL_law_19 rfl hl (by decide) rfl (fun ls hl => ?_)
  refine lv_iconst (v := nI 0) S.1 S.2.1 dL_law_20 (by decide) ?_
  refine lv_istore (lv' := [(4, .int (nI (5 * 0))), (3, .ref ao), (2, .ref (am 0)), (1, .ref (a 0)), (0, .ref b)]) S.1 S.2.1 dL_law_21 hl (by decide) rfl (fun ls hl => ?_)
  have hpm : ((cW [] cy a 0 (fun _ _ => 0, fun _ _ => 0) ++ mB cy am (fun _ _ => 0)) ++ [oE cy ao (fun _ => 0)]).Perm (wl cy am ao a 0 (fun _ _ => 0, fun _ _ => 0) (fun _ _ => 0) (fun _ => 0)) := by
    show ((([] ++ cK cy a 0 (fun _ _ => 0, fun _ _ => 0) ++ cB cy a (fun _ _ => 0, fun _ _ => 0)) ++ mB cy am (fun _ _ => 0)) ++ [oE cy ao (fun _ => 0)]).Perm (((mB cy am (fun _ _ => 0) ++ [oE cy ao (fun _ => 0)]) ++ cK cy a 0 (fun _ _ => 0, fun _ _ => 0)) ++ cB cy a (fun _ _ => 0, fun _ _ => 0))
    rw [List.nil_append, List.append_assoc (cK cy a 0 _ ++ cB cy a _), List.append_assoc (mB cy am _ ++ [oE cy ao _])]
    exact List.perm_append_comm
  exact law_loop F G hr hlk 513 0 0 _ _ a _ H _ ls _ _ (by omega) (by omega) G0 (P_perm hP hpm) (D_perm hD hpm) hS (lv_sub hl [4, 3, 2, 1, 0] rfl) (by omega) (by omega)
