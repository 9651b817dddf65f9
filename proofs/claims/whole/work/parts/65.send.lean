/-! ORDER: a world's cells may stand in any order; SEND: a new packet -/
theorem P_of {D : va_G} {cl : List vw_C} {w1 w2 : va_W} {H : Heap} (h : va_P D cl w1 H) (hm : ∀ q ∈ w2, q ∈ w1) : va_P D cl w2 H := fun k q hk => by
  obtain ⟨i, hi⟩ := List.mem_iff_getElem?.mp (hm q (List.mem_of_getElem? hk))
  exact h i q hi
theorem D_iff {A : Nat → Prop} {w : va_W} : va_D A w ↔ (List.Pairwise (fun p q : Nat × va_E => p.1 ≠ q.1) w ∧ ∀ q ∈ w, A q.1) := by
  constructor
  · intro h
    refine ⟨List.pairwise_iff_getElem.mpr (fun i j hi hj hij he => ?_), fun q hq => ?_⟩
    · have := h.1 i j _ _ (List.getElem?_eq_getElem hi) (List.getElem?_eq_getElem hj) he
      omega
    · obtain ⟨i, hi⟩ := List.mem_iff_getElem?.mp hq
      exact h.2 i q hi
  · intro h
    refine ⟨fun i j p q hi hj he => ?_, fun k q hk => h.2 q (List.mem_of_getElem? hk)⟩
    obtain ⟨hi1, hi2⟩ := List.getElem?_eq_some_iff.mp hi
    obtain ⟨hj1, hj2⟩ := List.getElem?_eq_some_iff.mp hj
    have hp := List.pairwise_iff_getElem.mp h.1
    rcases Nat.lt_trichotomy i j with h1 | h1 | h1
    · exact absurd (by rw [hi2, hj2]; exact he) (hp i j hi1 hj1 h1)
    · exact h1
    · exact absurd (by rw [hi2, hj2]; exact he.symm) (hp j i hj1 hi1 h1)
theorem D_perm {A : Nat → Prop} {w1 w2 : va_W} (h : va_D A w1) (hp : w1.Perm w2) : va_D A w2 := by
  rw [D_iff] at h ⊢
  exact ⟨(hp.pairwise_iff (fun h => Ne.symm h)).mp h.1, fun q hq => h.2 q (hp.mem_iff.mpr hq)⟩
theorem P_perm {D : va_G} {cl : List vw_C} {w1 w2 : va_W} {H : Heap} (h : va_P D cl w1 H) (hp : w1.Perm w2) : va_P D cl w2 H := P_of h (fun q hq => hp.mem_iff.mpr hq)
theorem pm_in {α : Type} (X K B N : List α) : (((X ++ K) ++ B) ++ N).Perm (((X ++ N) ++ K) ++ B) := by
  rw [List.append_assoc X K B, List.append_assoc X (K ++ B) N, List.append_assoc X N K, List.append_assoc X (N ++ K) B, List.append_assoc N K B]
  exact List.Perm.append_left X List.perm_append_comm
theorem pm_pk {α : Type} (X O T B : List α) (A pk tr : α) : (((X ++ [pk, tr]) ++ (A :: (O ++ T))) ++ B).Perm ((X ++ (A :: ((O ++ [pk]) ++ (T ++ [tr])))) ++ B) := by
  refine List.Perm.append_right B ?_
  rw [List.append_assoc]
  refine List.Perm.append_left X ?_
  refine (List.perm_middle (l₁ := [pk, tr])).trans (List.Perm.cons A ?_)
  show (pk :: tr :: (O ++ T)).Perm _
  rw [List.append_assoc]
  refine List.Perm.trans ?_ (List.perm_middle (l₁ := O) (a := pk) (l₂ := T ++ [tr])).symm
  refine List.Perm.cons pk ?_
  rw [← List.append_assoc]
  exact (List.perm_append_singleton tr (O ++ T)).symm
def newPk (P : Nat) (x y : Int32) (σ : CS) : CS := (fun k j => if j = P ∧ 12 ≤ k ∧ k ≤ 18 then (if k = 12 then x else if k = 14 then y else 0) else if k = 19 + P then 0 else σ.1 k j, σ.2)
def aNew (a : Nat → Nat) (P q u : Nat) : Nat → Nat := fun k => if k = 17 + 2 * P then q else if k = 18 + 2 * P then u else a k
theorem aNew_o {a : Nat → Nat} {P q u k : Nat} (h : k < 17 + 2 * P) : aNew a P q u k = a k := by unfold aNew; rw [if_neg (by omega), if_neg (by omega)]
theorem newPk_lo {P k : Nat} {x y : Int32} {σ : CS} (h : k < 12) : (newPk P x y σ).1 k = σ.1 k := by
  funext j
  show (if j = P ∧ 12 ≤ k ∧ k ≤ 18 then _ else if k = 19 + P then _ else σ.1 k j) = _
  rw [if_neg (by omega), if_neg (by omega)]
theorem newPk_mid {P k p : Nat} {x y : Int32} {σ : CS} (h : k < 19) (hp : p ≠ P) : (newPk P x y σ).1 k p = σ.1 k p := by
  show (if p = P ∧ 12 ≤ k ∧ k ≤ 18 then _ else if k = 19 + P then _ else σ.1 k p) = _
  rw [if_neg (by omega), if_neg (by omega)]
theorem newPk_tr {P p : Nat} {x y : Int32} {σ : CS} (hp : p ≠ P) : (newPk P x y σ).1 (19 + p) = σ.1 (19 + p) := by
  funext j
  show (if j = P ∧ 12 ≤ 19 + p ∧ 19 + p ≤ 18 then _ else if 19 + p = 19 + P then _ else σ.1 (19 + p) j) = _
  rw [if_neg (by omega), if_neg (by omega)]
theorem newPk_t0 {P : Nat} {x y : Int32} {σ : CS} : (newPk P x y σ).1 (19 + P) = fun _ => 0 := by
  funext j
  show (if j = P ∧ 12 ≤ 19 + P ∧ 19 + P ≤ 18 then _ else if 19 + P = 19 + P then (0 : Int32) else σ.1 (19 + P) j) = _
  rw [if_neg (by omega), if_pos rfl]
theorem newPk_at {P k : Nat} {x y : Int32} {σ : CS} (h1 : 12 ≤ k) (h2 : k ≤ 18) : (newPk P x y σ).1 k P = if k = 12 then x else if k = 14 then y else 0 := by
  show (if P = P ∧ 12 ≤ k ∧ k ≤ 18 then _ else _) = _
  rw [if_pos ⟨rfl, h1, h2⟩]
abbrev pkE (q u : Nat) (x y : Int32) : Nat × va_E := (q, .inr (0, [.int x, .ref u, .int 0, .int y, .int (nI 0), .int 0, .int 0, .int 0]))
abbrev trE (cy : Nat → ClassId) (u : Nat) : Nat × va_E := (u, .inl (cy 0, 31, .inl (fun _ => 0)))
theorem cB_a {cy : Nat → ClassId} {a a' : Nat → Nat} {σ σ' : CS} (ha : ∀ k, k < 17 → a' k = a k) (hs : ∀ k, k < 12 → σ'.1 k = σ.1 k) (h2 : σ'.2 = σ.2) : cB cy a' σ' = cB cy a σ := by
  simp only [cB, ha 0 (by omega), ha 1 (by omega), ha 2 (by omega), ha 3 (by omega), ha 4 (by omega), ha 5 (by omega), ha 6 (by omega), ha 7 (by omega), ha 8 (by omega), ha 9 (by omega), ha 10 (by omega), ha 11 (by omega), ha 12 (by omega), ha 13 (by omega), ha 14 (by omega), ha 15 (by omega), ha 16 (by omega), hs 0 (by omega), hs 1 (by omega), hs 2 (by omega), hs 3 (by omega), hs 4 (by omega), hs 5 (by omega), hs 6 (by omega), hs 7 (by omega), hs 8 (by omega), hs 9 (by omega), hs 10 (by omega), hs 11 (by omega), h2]
theorem pRow_new {a : Nat → Nat} {P q u : Nat} : pRow (aNew a P q u) (P + 1) = va_up (pRow a P) P (some q) := by
  funext i
  unfold pRow va_up
  by_cases h : i = P
  · subst h; rw [if_pos (by omega), if_pos rfl]; unfold aNew; rw [if_pos rfl]
  · rw [if_neg h]
    by_cases h2 : i < P
    · rw [if_pos (by omega), aNew_o (by omega)]; exact (if_pos h2).symm
    · rw [if_neg (by omega)]; exact (if_neg h2).symm
theorem cW_new {X : va_W} {cy : Nat → ClassId} {a : Nat → Nat} {P q u : Nat} {x y : Int32} {σ : CS} : (X ++ ((a 16, .inl (cy 3, 20, .inr (.inr (.inr (.inr (va_up (pRow a P) P (some q))))))) :: (((List.range P).map (pObj a σ) ++ [pkE q u x y]) ++ ((List.range P).map (pTr cy a σ) ++ [trE cy u])))) ++ cB cy a σ = cW X cy (aNew a P q u) (P + 1) (newPk P x y σ) := by
  have e0 : nI 0 = (0 : Int32) := by decide
  have a1 : aNew a P q u (17 + 2 * P) = q := by unfold aNew; rw [if_pos rfl]
  have a2 : aNew a P q u (18 + 2 * P) = u := by unfold aNew; rw [if_neg (by omega), if_pos rfl]
  have eo : (List.range (P + 1)).map (pObj (aNew a P q u) (newPk P x y σ)) = (List.range P).map (pObj a σ) ++ [pkE q u x y] := by
    rw [List.range_succ, List.map_append]
    congr 1
    · refine List.map_congr_left (fun p hp => ?_)
      have hp : p < P := List.mem_range.mp hp
      simp only [pObj, aNew_o (show 17 + 2 * p < 17 + 2 * P by omega), aNew_o (show 18 + 2 * p < 17 + 2 * P by omega), newPk_mid (show 12 < 19 by omega) (show p ≠ P by omega), newPk_mid (show 13 < 19 by omega) (show p ≠ P by omega), newPk_mid (show 14 < 19 by omega) (show p ≠ P by omega), newPk_mid (show 15 < 19 by omega) (show p ≠ P by omega), newPk_mid (show 16 < 19 by omega) (show p ≠ P by omega), newPk_mid (show 17 < 19 by omega) (show p ≠ P by omega), newPk_mid (show 18 < 19 by omega) (show p ≠ P by omega)]
    · simp only [List.map_cons, List.map_nil, pObj, pkE, a1, a2, e0, newPk_at (show 12 ≤ 12 by omega) (show 12 ≤ 18 by omega), newPk_at (show 12 ≤ 13 by omega) (show 13 ≤ 18 by omega), newPk_at (show 12 ≤ 14 by omega) (show 14 ≤ 18 by omega), newPk_at (show 12 ≤ 15 by omega) (show 15 ≤ 18 by omega), newPk_at (show 12 ≤ 16 by omega) (show 16 ≤ 18 by omega), newPk_at (show 12 ≤ 17 by omega) (show 17 ≤ 18 by omega), newPk_at (show 12 ≤ 18 by omega) (show 18 ≤ 18 by omega), reduceIte]
      rfl
  have et : (List.range (P + 1)).map (pTr cy (aNew a P q u) (newPk P x y σ)) = (List.range P).map (pTr cy a σ) ++ [trE cy u] := by
    rw [List.range_succ, List.map_append]
    congr 1
    · refine List.map_congr_left (fun p hp => ?_)
      have hp : p < P := List.mem_range.mp hp
      simp only [pTr, aNew_o (show 18 + 2 * p < 17 + 2 * P by omega), newPk_tr (show p ≠ P by omega)]
    · simp only [List.map_cons, List.map_nil, pTr, trE, a2, newPk_t0]
  unfold cW cK
  rw [eo, et, cB_a (a := a) (σ := σ) (fun k hk => aNew_o (by omega)) (fun k hk => newPk_lo hk) rfl]
  congr 3
  show _ = (aNew a P q u 16, _)
  rw [aNew_o (show 16 < 17 + 2 * P by omega), pRow_new]
def sendC (x y z : Int32) (σ : CS) : Nat := if isN x = true then if isN y = true then if z < 0 then 1 else if z ≤ nI 30 then (if σ.1 1 x.toNatClampNeg = 0 then 2 else if σ.1 0 1 < nI 20 then 0 else 2) else 1 else 1 else 1
def send1 (P : Nat) (y z : Int32) (σ : CS) : CS := sI 0 1 (nI (P + 1)) (newPk P y z σ)
def cSend (P : Nat) (x y z : Int32) (σ : CS) : CS := cHandle P x.toNatClampNeg (send1 P y z σ)
theorem send1_I {P j : Nat} {y z : Int32} {σ : CS} (h : cI P σ) (hP : P < 20) (hj : j < 8) (hy : y = nI j) : cI (P + 1) (send1 P y z σ) := by
  obtain ⟨h1, h2, h3⟩ := h
  refine ⟨hP, rfl, fun p hp => ?_⟩
  by_cases e : p = P
  · subst e
    refine ⟨j, 0, hj, by omega, ?_, ?_, fun _ => ⟨0, by omega, ?_⟩⟩
    · show (newPk p y z σ).1 12 p = _
      rw [newPk_at (by omega) (by omega), if_pos rfl, hy]
    · show (newPk p y z σ).1 13 p = _
      rw [newPk_at (by omega) (by omega), if_neg (by omega), if_neg (by omega)]; rfl
    · show (newPk p y z σ).1 17 p = _
      rw [newPk_at (by omega) (by omega), if_neg (by omega), if_neg (by omega)]; rfl
  · obtain ⟨g, n, hg, hn, e1, e2, e3⟩ := h3 p (by omega)
    refine ⟨g, n, hg, hn, ?_, ?_, ?_⟩
    · show (newPk P y z σ).1 12 p = _
      rw [newPk_mid (by omega) e]; exact e1
    · show (newPk P y z σ).1 13 p = _
      rw [newPk_mid (by omega) e]; exact e2
    · show (newPk P y z σ).1 15 p = _ → ∃ v : Nat, v < 8 ∧ (newPk P y z σ).1 17 p = _
      rw [newPk_mid (by omega) e, newPk_mid (by omega) e]; exact e3
theorem cW_cnt {X : va_W} {cy : Nat → ClassId} {a : Nat → Nat} {P : Nat} {v : Int32} {σ : CS} : (X ++ cK cy a P σ) ++ cB cy a (sI 0 1 v σ) = cW X cy a P (sI 0 1 v σ) := by
  unfold cW
  rw [cK_eq (ρ := sI 0 1 v σ) (fun k hk => sI_k (by omega))]
abbrev kQs (D : va_G) (X : va_W) (cy : Nat → ClassId) (a : Nat → Nat) (P : Nat) (w0 : va_W) (σ' : CS) (code sz : Nat) : Array Value → State → Outcome → State → Prop := va_Qi (fun (v : Int32) (b : Nat → Nat) => (v = nI P ∧ code = 0) ∧ ∀ k, k < 17 + 2 * P → b k = a k) (fun b t => kB D w0 (cW X cy b (P + 1) σ') sz t) (va_A w0 sz)
set_option maxHeartbeats 400000 in
set_option maxRecDepth 100000 in
theorem c_X2_send (l : Launch) (hst9 : l.stackTraces = false) (D : va_G) (cy : Nat → ClassId) (a : Nat → Nat) (X : va_W) (P : Nat) (σ : CS) (x y z : Int32) (hI : cI P σ) : ∀ sz : Nat, vx_Met l yX2_send (kWs yX2_send cX2_send 5 (some .int)) (kRm 6 2 39) (va_Pc [.ref (a 0), .int x, .int y, .int z] (kPx D (tyA cy) (cW X cy a P σ) sz)) (kQs D X cy a P (cW X cy a P σ) (cSend P x y z σ) (sendC x y z σ) sz) (kXC D (cW X cy a P σ) (sendC x y z σ) sz) 2 39 (va_A (cW X cy a P σ) sz) := by
  intro sz
  refine kmetx (own := RX2) (by decide) rfl (Nat.le_of_ble_eq_true rfl) (fun p e s m args below meth c S hr hlk hK hNA hP hD hsz hA hU hstr hex ls hl => ?_)
  have hN := nestA_C hNA
  have hS : va_S (va_A (cW X cy a P σ) sz) s.heap s.heap [] := va_S.rf
  have hl : lv_has ls 5 [(0, .ref (a 0)), (1, .int (x)), (2, .int (y)), (3, .int (z))] := hl
  have cA : ∀ {H : Heap} {locs : List Loc}, sendC x y z σ = 1 → va_P D vwCl (cW X cy a P σ) H → va_D (va_A (cW X cy a P σ) sz) (cW X cy a P σ) → va_S (va_A (cW X cy a P σ) sz) s.heap H locs → W p l e (kRm 6 2 39) s m args below meth c H locs 0 0 (vx_MQ below (kQs D X cy a P (cW X cy a P σ) (cSend P x y z σ) (sendC x y z σ) sz) (kXC D (cW X cy a P σ) (sendC x y z σ) sz) args s 2 39 (va_A (cW X cy a P σ) sz)) (F0 m 24 ls []) := fun e8 hP hD hS =>
    kthrowA (is := 155) (text := "no such nodes, or life out of bounds") S hst9 hlk hNA hU hstr (by decide) hex hP hD hS e8 hl.1 (Nat.le_of_ble_eq_true rfl) (Nat.le_of_ble_eq_true rfl) (Nat.le_of_ble_eq_true rfl) (Nat.le_of_ble_eq_true rfl) (Nat.le_of_ble_eq_true rfl) (Nat.le_of_ble_eq_true rfl) dX2_send_24 dX2_send_27 dX2_send_28 dX2_send_30 dX2_send_33
  have cS : ∀ {H : Heap} {locs : List Loc}, sendC x y z σ = 2 → va_P D vwCl (cW X cy a P σ) H → va_D (va_A (cW X cy a P σ) sz) (cW X cy a P σ) → va_S (va_A (cW X cy a P σ) sz) s.heap H locs → W p l e (kRm 6 2 39) s m args below meth c H locs 0 0 (vx_MQ below (kQs D X cy a P (cW X cy a P σ) (cSend P x y z σ) (sendC x y z σ) sz) (kXC D (cW X cy a P σ) (sendC x y z σ) sz) args s 2 39 (va_A (cW X cy a P σ) sz)) (F0 m 52 ls []) := fun e8 hP hD hS =>
    kthrowS (is := 160) (text := "the node is not there, or all packets are used") S hst9 hlk hNA hU hstr (by decide) hex hP hD hS e8 hl.1 (Nat.le_of_ble_eq_true rfl) (Nat.le_of_ble_eq_true rfl) (Nat.le_of_ble_eq_true rfl) (Nat.le_of_ble_eq_true rfl) (Nat.le_of_ble_eq_true rfl) (Nat.le_of_ble_eq_true rfl) dX2_send_52 dX2_send_55 dX2_send_56 dX2_send_58 dX2_send_61
  refine lv_iload_n S.1 S.2.1 dX2_send_0 rfl (lv_at hl 1 rfl) ?_
  refine call_X2_isNode S hK hN hP hD hS hA (x := x)  hl.1 (Nat.le_of_ble_eq_true rfl) ⟨Nat.le_of_ble_eq_true rfl, Nat.le_of_ble_eq_true rfl⟩ dX2_send_1 ⟨Nat.zero_le _, Nat.zero_le _⟩ (fun H locs hP hD hS => ?_)
  refine kb_eq (tgt := 24) S dX2_send_4 (by decide) (fun c1 => ?_) (fun c1 => ?_)
  · exact cA (by simp only [sendC, c1, Bool.false_eq_true, if_false]) hP hD hS
  refine lv_iload_n S.1 S.2.1 dX2_send_7 rfl (lv_at hl 2 rfl) ?_
  refine call_X2_isNode S hK hN hP hD hS hA (x := y)  hl.1 (Nat.le_of_ble_eq_true rfl) ⟨Nat.le_of_ble_eq_true rfl, Nat.le_of_ble_eq_true rfl⟩ dX2_send_8 ⟨Nat.zero_le _, Nat.zero_le _⟩ (fun H locs hP hD hS => ?_)
  refine kb_eq (tgt := 24) S dX2_send_11 (by decide) (fun c2 => ?_) (fun c2 => ?_)
  · exact cA (by simp only [sendC, c1, c2, Bool.false_eq_true, if_false, if_true]) hP hD hS
  refine lv_iload_n S.1 S.2.1 dX2_send_14 rfl (lv_at hl 3 rfl) ?_
  refine lv_if_lt (tgt := 24) S.1 S.2.1 dX2_send_15 (by decide) (fun c3 => ?_) (fun c3 => ?_)
  · exact cA (by simp only [sendC, c1, c2, c3, if_true]) hP hD hS
  refine lv_iload_n S.1 S.2.1 dX2_send_18 rfl (lv_at hl 3 rfl) ?_
  refine lv_bipush (v := (nI 30)) S.1 S.2.1 dX2_send_19 (by decide) ?_
  refine lv_icmp_le (tgt := 34) S.1 S.2.1 dX2_send_21 (by decide) (fun c4 => ?_) (fun c4 => cA (by simp only [sendC, c1, c2, c3, c4, if_true, if_false]) hP hD hS)
  obtain ⟨x1, hx1, ex⟩ := isN_of c1
  obtain ⟨y1, hy1, ey⟩ := isN_of c2
  have hxc : x.toNatClampNeg = x1 := by rw [ex]; exact cl8 hx1
  refine lv_aload_n S.1 S.2.1 dX2_send_34 rfl (lv_at hl 0 rfl) ?_
  refine cf_net_there S hK hP dX2_send_35 ?_
  refine lv_iload_n S.1 S.2.1 dX2_send_38 rfl (lv_at hl 1 rfl) ?_
  refine k_top ex ?_
  refine ca_there S hK hP (j := x1) (by omega) dX2_send_39 ?_
  refine lv_if_eq (tgt := 52) S.1 S.2.1 dX2_send_40 (by decide) (fun c5 => ?_) (fun c5 => ?_)
  · exact cS (by simp only [sendC, c1, c2, c3, c4, hxc, c5, if_true, if_false]) hP hD hS
  refine lv_aload_n S.1 S.2.1 dX2_send_43 rfl (lv_at hl 0 rfl) ?_
  refine cf_net_packetCount S hK hP dX2_send_44 ?_
  refine lv_bipush (v := (nI 20)) S.1 S.2.1 dX2_send_47 (by decide) ?_
  refine lv_icmp_lt (tgt := 62) S.1 S.2.1 dX2_send_49 (by decide) (fun c6 => ?_) (fun c6 => cS (by simp only [sendC, c1, c2, c3, c4, hxc, c5, c6, if_true, if_false]) hP hD hS)
  have e7 : sendC x y z σ = 0 := by simp only [sendC, c1, c2, c3, c4, hxc, c5, c6, if_true, if_false]
  have hcnt : σ.1 0 1 = nI P := hI.2.1
  have hP20 : P < 20 := by
    rw [hcnt] at c6
    have := hI.1
    exact (nI_ltI (by omega) (by omega)).mp c6
  refine va_new (ci := 0) (fs := [.int 0, .null, .int 0, .int 0, .int 0, .int 0, .int 0, .int 0]) (C := RX0) (T := TX0) (N := 8) S.1 S.2.1 S.2.2.2.2 (fun w h => List.mem_cons_of_mem _ (inX0 w h)) tyX0 tyX0_ok S.2.2.2.1 (S.2.2.2.2 _ (List.mem_cons_of_mem _ wm_92)) (S.2.2.2.2 _ (List.mem_cons_of_mem _ wm_368)) (S.2.2.2.2 _ (List.mem_cons_of_mem _ wm_57)) hK hP hD hS hA rfl (fun j hj => by rcases (show j = 0 ∨ j = 1 ∨ j = 2 ∨ j = 3 ∨ j = 4 ∨ j = 5 ∨ j = 6 ∨ j = 7 by omega) with rfl | rfl | rfl | rfl | rfl | rfl | rfl | rfl <;> rfl) (Nat.le_of_ble_eq_true rfl) (Nat.le_of_ble_eq_true rfl) dX2_send_62 (fun q H hP hD hS => ?_)
  refine lv_dup S.1 S.2.1 dX2_send_65 rfl ?_
  refine lv_iload_n S.1 S.2.1 dX2_send_66 rfl (lv_at hl 2 rfl) ?_
  refine lv_iload_n S.1 S.2.1 dX2_send_67 rfl (lv_at hl 3 rfl) ?_
  have hFc := kfree hD hS hA
  refine va_callv (va_runIN (As := [.int y, .int z]) (rest := [.ref q]) S (c_X0_init l D cy (cW X cy a P σ) q y z _ rfl H.size) ⟨va_cnB 2 S.2.2.2.2 (gw_good_in wm_444) rfl rfl rfl (hN _ nc_13) (S.2.2.2.2 _ (List.mem_cons_of_mem _ wm_57)) (by decide +kernel) ⟨Nat.le_of_ble_eq_true rfl, Nat.le_of_ble_eq_true rfl⟩, rfl, (S.2.2.2.2 _ (List.mem_cons_of_mem _ wm_443))⟩ ⟨kblind nestC_ok, kpre nestC_ok hN hK hP hD⟩ rfl rfl hl.1 rfl (lv_room (Nat.le_of_ble_eq_true rfl)) dX2_send_68 ⟨Nat.le_of_ble_eq_true rfl, Nat.le_of_ble_eq_true rfl⟩) hS (fun q _ h => hFc q h) hFc (fun u t H1 locs ht hvm hw hB hz1 hk1 hS => ?_)
  obtain ⟨hP, hD⟩ := hB
  rw [ht] at hP
  have hD := hD.weaken (fun k q _ h => hFc q.1 h)
  generalize H1 = H at hP hS ⊢
  have hP := P_perm hP (pm_in X (cK cy a P σ) (cB cy a σ) [pkE q u y z, trE cy u])
  have hD := D_perm hD (pm_in X (cK cy a P σ) (cB cy a σ) [pkE q u y z, trE cy u])
  refine lv_astore (lv' := [(4, .ref q), (0, .ref (a 0)), (1, .int (x)), (2, .int (y)), (3, .int (z))]) S.1 S.2.1 dX2_send_71 hl (by decide) rfl (fun ls hl => ?_)
  refine lv_aload_n S.1 S.2.1 dX2_send_73 rfl (lv_at hl 1 rfl) ?_
  refine cf_net_packets S hK hP dX2_send_74 ?_
  refine lv_aload_n S.1 S.2.1 dX2_send_77 rfl (lv_at hl 1 rfl) ?_
  refine cf_net_packetCount S hK hP dX2_send_78 ?_
  refine k_top hcnt ?_
  refine lv_aload S.1 S.2.1 dX2_send_81 (lv_at hl 0 rfl) ?_
  have hqk : (cW (X ++ [pkE q u y z, trE cy u]) cy a P σ)[X.length]? = some (pkE q u y z) := by
    rw [List.getElem?_append_left (by rw [List.length_append, List.length_append]; simp; omega), List.getElem?_append_left (by simp), List.getElem?_append_right (Nat.le_refl _), Nat.sub_self]; rfl
  refine va_astq S.1 S.2.1 hK hP hD hS (X ++ [pkE q u y z, trE cy u]).length 3 X.length 0 (pk_wa (X := X ++ [pkE q u y z, trE cy u])) rfl hqk rfl (vp_in_nI hP20 (by decide)) dX2_send_83 (fun H locs hP hD hS => ?_)
  rw [nI_clamp (by omega)] at hP hD
  have eset : (cW (X ++ [pkE q u y z, trE cy u]) cy a P σ).set (X ++ [pkE q u y z, trE cy u]).length (a 16, .inl (cy 3, 20, .inr (.inr (.inr (.inr (va_up (pRow a P) P (some q))))))) = ((X ++ [pkE q u y z, trE cy u]) ++ ((a 16, .inl (cy 3, 20, .inr (.inr (.inr (.inr (va_up (pRow a P) P (some q))))))) :: ((List.range P).map (pObj a σ) ++ (List.range P).map (pTr cy a σ)))) ++ cB cy a σ := by
    unfold cW cK
    rw [List.set_append_left _ _ (by rw [List.length_append]; simp), List.set_append_right _ _ (Nat.le_refl _), Nat.sub_self]
    rfl
  rw [eset] at hP hD
  have hP := P_perm hP (pm_pk X _ _ _ _ _ _)
  have hD := D_perm hD (pm_pk X _ _ _ _ _ _)
  rw [cW_new (q := q) (u := u) (x := y) (y := z)] at hP hD
  have hb : ∀ k, k < 17 + 2 * P → aNew a P q u k = a k := fun k hk => aNew_o hk
  have hbq : aNew a P q u (17 + 2 * P) = q := by unfold aNew; rw [if_pos rfl]
  generalize aNew a P q u = b at hP hD hb hbq
  have hb0 : b 0 = a 0 := hb 0 (by omega)
  rw [← hb0, ← hbq] at hl
  have hcn : (newPk P y z σ).1 0 1 = nI P := by rw [newPk_lo (by decide)]; exact hcnt
  refine lv_aload_n S.1 S.2.1 dX2_send_84 rfl (lv_at hl 1 rfl) ?_
  refine lv_dup S.1 S.2.1 dX2_send_85 rfl ?_
  refine cf_net_packetCount S hK hP dX2_send_86 ?_
  refine k_top hcn ?_
  refine lv_iconst (v := (nI 1)) S.1 S.2.1 dX2_send_89 (by decide) ?_
  refine lv_iadd S.1 S.2.1 dX2_send_90 ?_
  refine k_top (nI_add P 1) ?_
  refine cp_net_packetCount S hK hP hD hS dX2_send_91 (fun H locs hP hD hS => ?_)
  rw [cW_cnt] at hP hD
  have hI1 : cI (P + 1) (send1 P y z σ) := send1_I hI hP20 hy1 ey
  refine lv_aload_n S.1 S.2.1 dX2_send_94 rfl (lv_at hl 1 rfl) ?_
  refine lv_aload S.1 S.2.1 dX2_send_95 (lv_at hl 0 rfl) ?_
  refine lv_iload_n S.1 S.2.1 dX2_send_97 rfl (lv_at hl 2 rfl) ?_
  refine k_top ex ?_
  obtain ⟨zg, zn, hzg, hzn, ez1, ez2, -⟩ := hI1.2.2 P (by omega)
  refine call_X2_handle S hK hN hP hD hS hA (r := P) (v := x1) (by omega) hx1 hI1 zg zn hzg hzn ez1 ez2 hl.1 (Nat.le_of_ble_eq_true rfl) ⟨Nat.le_of_ble_eq_true rfl, Nat.le_of_ble_eq_true rfl⟩ dX2_send_98 ⟨Nat.le_of_ble_eq_true rfl, Nat.le_of_ble_eq_true rfl⟩ (fun H locs hP hD hS => ?_)
  have eS : cSend P x y z σ = cHandle P x1 (send1 P y z σ) := by unfold cSend; rw [hxc]
  have hcl : (cHandle P x1 (send1 P y z σ)).1 0 1 = nI (P + 1) := (cHandle_I (v := x1) hI1 (by omega)).2.1
  have hP : va_P D vwCl (cW X cy b (P + 1) (cHandle P x1 (send1 P y z σ))) H := hP
  have hD : va_D (va_A (cW X cy a P σ) sz) (cW X cy b (P + 1) (cHandle P x1 (send1 P y z σ))) := hD
  refine lv_aload_n S.1 S.2.1 dX2_send_101 rfl (lv_at hl 1 rfl) ?_
  refine cf_net_packetCount S hK hP dX2_send_102 ?_
  refine k_top hcl ?_
  refine lv_iconst (v := (nI 1)) S.1 S.2.1 dX2_send_105 (by decide) ?_
  refine lv_isub S.1 S.2.1 dX2_send_106 ?_
  refine k_top (pk_sub (show 1 ≤ P + 1 by omega)) ?_
  rw [eS]
  exact W.widen (Nat.le_of_ble_eq_true rfl) (Nat.le_of_ble_eq_true rfl) (vx_ret (W.iret S.1 S.2.1 hr (fun t ht hW => ⟨⟨nI (P + 1 - 1), b, rfl, ⟨⟨rfl, e7⟩, hb⟩, by rw [ht]; exact hP, hD⟩, hS.F ht⟩) hS.2.2 dX2_send_107 hlk))
