/-! THE CLAIM OUT OF ONE WALK OF THE LAW'S BODY. Your part is whole_start (and what it stands on); all else here is the same for every law, but numbers. -/
def R_law : String := "FloodingNetLaw"
def lw_P (b : Addr) (xs : List Int32) (args : Array Value) (s : State) : Prop := args = #[.ref b] ∧ s.IntsAt b xs ∧ xs.length ≤ 2560 ∧ (Jvm.Cond.and given_1 narrow_1).before args s = true
def lw_Q (_ : Array Value) (s : State) (o : Outcome) (t : State) : Prop := o = .returned (some (.int 1)) ∧ Framed s o t [] 601024 7293034
def lw_Z (below : List Frame) (a : Array Value) (s : State) : State → Prop := fun t => ∃ o, t.status = .running ∧ Ended t below o ∧ lw_Q a s o t
/-- the law's own end, with 1 on the stack, nothing written that was there before, its room as the claim has it -/
theorem lw_ret {p : Program} {l : Launch} {e : Env} {s : State} {m : MethodId} {below : List Frame} {meth : Method} {c : Code} {b : Nat} (hx : p.tables.exec = Jvm.exec) (hb : c.code = code) (hr : meth.sig.returnType = ret) (hlocks : meth.locks = false) {pc : Nat} {H : Heap} {ls : Array Slot} (hdg : decode code pc = .ok (.ireturn, 1)) : W p l e room_1 s m #[Value.ref b] below meth c H [] 601024 7293034 (lw_Z below #[Value.ref b] s) (F0 m pc ls [.int 1]) := by
  intro T hT X
  obtain ⟨fs, hret, hrun, hended, hW, hframe⟩ := X.leave (v := some (.int 1)) (hlocks := hlocks) (fun h => by rw [hr] at h; cases h)
  have hmeth' : T.vm.method? m = some meth := X.method'
  refine ⟨T.setFrames fs, ?_, .returned (some (.int 1)), hrun, hended, rfl, ⟨_, rfl⟩, hW, hframe⟩
  jvm_step X.here [X.here.top, hx, hb, hdg, hmeth', hr, ret, narrow_b1]
  (try refine ⟨rfl, ?_⟩); (try refine ⟨rfl, ?_⟩)
  first | (intro acts; rw [hret _ acts rfl rfl rfl]) | rw [hret _ _ rfl rfl rfl]
  exact Steps.refl _
/-- what holds at the law's entry: the machine, the code, the tables' words (any of lw_tbl by 'hts w (by decide +kernel)'), the script of L ints xs at the cell b, what the Statement gives of the start (any of its parts by flat_of_before) -/
def lw_At (p : Program) (s : State) (m : MethodId) (meth : Method) (c : Code) (b L : Nat) (xs : Nat → Int32) : Prop :=
  p.tables.exec = Jvm.exec ∧ c.code = code ∧ meth.sig.returnType = ret ∧ c.maxLocals = 7 ∧ s.vm.findClass R_law = some m.cls ∧ (∀ w ∈ lw_tbl, w.before #[Value.ref b] s = true) ∧ va_X b L xs s s.heap ∧ b < s.heap.size ∧ meth.locks = false ∧ (Jvm.Cond.and given_1 narrow_1).before #[Value.ref b] s = true

theorem and15 (x : Int32) : ∃ j : Nat, j < 16 ∧ x &&& nI 15 = nI j := by
  refine ⟨x.toBitVec.toNat % 16, Nat.mod_lt _ (by decide), ?_⟩
  apply Int32.toBitVec_inj.mp
  apply BitVec.eq_of_toNat_eq
  rw [Int32.toBitVec_and, BitVec.toNat_and]
  have h15 : (nI 15).toBitVec.toNat = 2 ^ 4 - 1 := by decide
  rw [h15, Nat.and_two_pow_sub_one_eq_mod]
  show _ = (BitVec.ofNat 32 (x.toBitVec.toNat % 16)).toNat
  rw [BitVec.toNat_ofNat]
  have : x.toBitVec.toNat % 2 ^ 4 < 16 := Nat.mod_lt _ (by decide)
  omega
def lrAll (Rr : Nat → Nat → CS → MS → Prop) : Prop := lrI Rr ∧ lrT ∧ lrLink Rr ∧ lrFail Rr ∧ lrRest Rr ∧ lrStart Rr ∧ lrCrash Rr ∧ lrTick Rr ∧ lrSend Rr ∧ lrNews Rr ∧ lrFly Rr ∧ lrDist Rr ∧ lrNext Rr ∧ lrPkt Rr ∧ lrSet Rr ∧ lrSkip Rr
set_option maxHeartbeats 400000 in
set_option maxRecDepth 100000 in
theorem law_loop {Rr : Nat → Nat → CS → MS → Prop} {p : Program} {l : Launch} {e : Env} {s : State} {m : MethodId} {below : List Frame} {meth : Method} {c : Code} {D : va_G} {cy : Nat → ClassId} {am : Nat → Nat} {ao b L : Nat} {xs : Nat → Int32} (F : lFix p l m c s b L xs D cy) (G : lrAll Rr) (hr : meth.sig.returnType = ret) (hlk : meth.locks = false) : ∀ (n k P : Nat) (σ : CS) (τ : MS) (a : Nat → Nat) (f : Nat → Int64) (H : Heap) (locs : List Loc) (ls : Array Slot) (cells slots : Nat), L < 5 * k + 5 * n + 5 → k ≤ 512 → Rr k P σ τ → va_P D vwCl (wl cy am ao a P σ τ f) H → va_D (lA s) (wl cy am ao a P σ τ f) → va_S (lA s) s.heap H locs → lv_has ls 7 [(0, .ref b), (1, .ref (a 0)), (2, .ref (am 0)), (3, .ref ao), (4, .int (nI (5 * k)))] → cells ≤ 64 + 2 * k → slots ≤ 12000 + 39 * k → W p l e room_1 s m #[Value.ref b] below meth c H locs cells slots (lw_Z below #[Value.ref b] s) (F0 m 23 ls []) := by
  intro n
  induction n with
  | zero =>
    intro k P σ τ a f H locs ls cells slots hn hk5 hR hP hD hS hl hc hs
    obtain ⟨S, hst9, hK, hNA, -, -, -, hX, hbl, hL⟩ := F
    refine lv_iload S.1 S.2.1 dL_law_23 (lv_at hl 4 rfl) ?_
    refine lv_aload_n S.1 S.2.1 dL_law_25 rfl (lv_at hl 0 rfl) ?_
    refine va_slen (A := lA s) S.1 S.2.1 hX hbl (by show ¬ s.heap.size ≤ b; omega) hS dL_law_26 ?_
    refine lv_iconst (v := nI 5) S.1 S.2.1 dL_law_27 (by decide) ?_
    refine lv_isub S.1 S.2.1 dL_law_28 ?_
    refine lv_icmp_gt (tgt := 800) S.1 S.2.1 dL_law_29 (by decide) (fun _ => ?_) (fun h => ?_)
    · refine lv_iconst (v := 1) S.1 S.2.1 dL_law_800 (by decide) ?_
      refine va_forget hS.2.2 ?_
      refine W.widen (k := 601024) (n := 7293034) (by omega) (by omega) ?_
      exact lw_ret S.1 S.2.1 hr hlk dL_law_801
    · exfalso
      apply h
      apply Int32.lt_iff_toInt_lt.mpr
      have e1 : (Int32.ofNat L - nI 5).toInt = (L : Int) - (5 : Nat) := pk_sub_toInt (a := L) (b := 5) (by omega) (by omega)
      rw [e1, nI_toInt (by omega)]
      omega
  | succ n ih =>
    intro k P σ τ a f H locs ls cells slots hn hk5 hR hP hD hS hl hc hs
    have F9 := F
    obtain ⟨S, hst9, hK, hNA, -, -, -, hX, hbl, hL⟩ := F
    obtain ⟨g0, gT, g1, g2, g3, g4, g5, g6, g7, g8, g9, g10, g11, g12, g13, g14⟩ := G
    refine lv_iload S.1 S.2.1 dL_law_23 (lv_at hl 4 rfl) ?_
    refine lv_aload_n S.1 S.2.1 dL_law_25 rfl (lv_at hl 0 rfl) ?_
    refine va_slen (A := lA s) S.1 S.2.1 hX hbl (by show ¬ s.heap.size ≤ b; omega) hS dL_law_26 ?_
    refine lv_iconst (v := nI 5) S.1 S.2.1 dL_law_27 (by decide) ?_
    refine lv_isub S.1 S.2.1 dL_law_28 ?_
    have e1 : (Int32.ofNat L - nI 5).toInt = (L : Int) - (5 : Nat) := pk_sub_toInt (a := L) (b := 5) (by omega) (by omega)
    refine lv_icmp_gt (tgt := 800) S.1 S.2.1 dL_law_29 (by decide) (fun _ => ?_) (fun h => ?_)
    · refine lv_iconst (v := 1) S.1 S.2.1 dL_law_800 (by decide) ?_
      refine va_forget hS.2.2 ?_
      refine W.widen (k := 601024) (n := 7293034) (by omega) (by omega) ?_
      exact lw_ret S.1 S.2.1 hr hlk dL_law_801
    · have hk : 5 * k + 4 < L := by
        have h2 : ¬ (Int32.ofNat L - nI 5).toInt < (nI (5 * k)).toInt := fun q => h (Int32.lt_iff_toInt_lt.mpr q)
        rw [e1, nI_toInt (by omega)] at h2
        omega
      have nx : lNx Rr p l e s m below meth c b (lw_Z below #[Value.ref b] s) D cy am ao k := by
        intro P σ τ a f H locs ls cells slots hR hP hD hS hl hc hs
        refine lv_iinc (k := 4) (v := nI (5 * (k + 1))) (lv' := [(4, .int (nI (5 * (k + 1)))), (0, .ref b), (1, .ref (a 0)), (2, .ref (am 0)), (3, .ref ao)]) S.1 S.2.1 dL_law_794 hl rfl (by have := nI_add (5 * k) 5; rw [show 5 * (k + 1) = 5 * k + 5 by omega]; exact this) (by decide) rfl (fun ls hl => ?_)
        refine lv_goto (tgt := 23) S.1 S.2.1 dL_law_797 (by decide) ?_
        exact ih (k + 1) P σ τ a f H locs ls cells slots (by omega) (by omega) hR hP hD hS (lv_sub hl [1, 2, 3, 4, 0] rfl) hc hs
      refine lv_aload_n S.1 S.2.1 dL_law_32 rfl (lv_at hl 0 rfl) ?_
      refine lv_iload S.1 S.2.1 dL_law_33 (lv_at hl 4 rfl) ?_
      refine va_sld (A := lA s) S.1 S.2.1 hX hbl (by show ¬ s.heap.size ≤ b; omega) hS (vp_in_nI (show 5 * k < L by omega) (by omega)) dL_law_35 ?_
      refine lv_bipush (v := nI 15) S.1 S.2.1 dL_law_36 (by decide) ?_
      refine lv_iand S.1 S.2.1 dL_law_38 ?_
      obtain ⟨j, hj, ej⟩ := and15 (xs (nI (5 * k)).toNatClampNeg)
      refine k_top ej ?_
      rcases (show j = 0 ∨ j = 1 ∨ j = 2 ∨ j = 3 ∨ j = 4 ∨ j = 5 ∨ j = 6 ∨ j = 7 ∨ j = 8 ∨ j = 9 ∨ j = 10 ∨ j = 11 ∨ j = 12 ∨ j = 13 ∨ j = 14 ∨ j = 15 by omega) with rfl | rfl | rfl | rfl | rfl | rfl | rfl | rfl | rfl | rfl | rfl | rfl | rfl | rfl | rfl | rfl
      · exact lv_tableIn (off := 65) (tgt := 104) S.1 S.2.1 dL_law_39 (by decide) (by decide) (by decide) (by decide) (lc_link F9 g0 g1 hR hk hP hD hS hl hc hs nx)
      · exact lv_tableIn (off := 157) (tgt := 196) S.1 S.2.1 dL_law_39 (by decide) (by decide) (by decide) (by decide) (lc_fail F9 g0 g2 hR hk hP hD hS hl hc hs nx)
      · exact lv_tableIn (off := 232) (tgt := 271) S.1 S.2.1 dL_law_39 (by decide) (by decide) (by decide) (by decide) (lc_restore F9 g0 g3 hR hk hP hD hS hl hc hs nx)
      · exact lv_tableIn (off := 307) (tgt := 346) S.1 S.2.1 dL_law_39 (by decide) (by decide) (by decide) (by decide) (lc_start F9 g0 g4 hR hk hP hD hS hl hc hs nx)
      · exact lv_tableIn (off := 370) (tgt := 409) S.1 S.2.1 dL_law_39 (by decide) (by decide) (by decide) (by decide) (lc_crash F9 g0 g5 hR hk hP hD hS hl hc hs nx)
      · exact lv_tableIn (off := 433) (tgt := 472) S.1 S.2.1 dL_law_39 (by decide) (by decide) (by decide) (by decide) (lc_tick F9 g0 gT g6 hR hk hP hD hS hl hc hs nx)
      · exact lv_tableIn (off := 489) (tgt := 528) S.1 S.2.1 dL_law_39 (by decide) (by decide) (by decide) (by decide) (lc_news F9 g0 g8 hR hk hP hD hS hl hc hs nx)
      · exact lv_tableIn (off := 538) (tgt := 577) S.1 S.2.1 dL_law_39 (by decide) (by decide) (by decide) (by decide) (lc_flying F9 g0 g9 hR hk hP hD hS hl hc hs nx)
      · exact lv_tableIn (off := 551) (tgt := 590) S.1 S.2.1 dL_law_39 (by decide) (by decide) (by decide) (by decide) (lc_distance F9 g0 gT g10 hR hk hP hD hS hl hc hs nx)
      · exact lv_tableIn (off := 588) (tgt := 627) S.1 S.2.1 dL_law_39 (by decide) (by decide) (by decide) (by decide) (lc_next F9 g0 gT g11 hR hk hP hD hS hl hc hs nx)
      · exact lv_tableIn (off := 625) (tgt := 664) S.1 S.2.1 dL_law_39 (by decide) (by decide) (by decide) (by decide) (lc_send F9 g0 gT g7 hR hk hP hD hS hl hc hs nx)
      · exact lv_tableIn (off := 705) (tgt := 744) S.1 S.2.1 dL_law_39 (by decide) (by decide) (by decide) (by decide) (lc_packet F9 g0 g12 hR hk hP hD hS hl hc hs nx)
      · exact lv_tableIn (off := 742) (tgt := 781) S.1 S.2.1 dL_law_39 (by decide) (by decide) (by decide) (by decide) (lc_settled F9 g0 g13 hR hk hP hD hS hl hc hs nx)
      · exact lv_tableOut (tgt := 794) S.1 S.2.1 dL_law_39 (by decide) (by decide) (nx _ _ _ _ _ _ _ _ _ _ (g14 _ _ _ _ (by omega) hR) hP hD hS hl (by omega) (by omega))
      · exact lv_tableOut (tgt := 794) S.1 S.2.1 dL_law_39 (by decide) (by decide) (nx _ _ _ _ _ _ _ _ _ _ (g14 _ _ _ _ (by omega) hR) hP hD hS hl (by omega) (by omega))
      · exact lv_tableOut (tgt := 794) S.1 S.2.1 dL_law_39 (by decide) (by decide) (nx _ _ _ _ _ _ _ _ _ _ (g14 _ _ _ _ (by omega) hR) hP hD hS hl (by omega) (by omega))
