/-! PASSING, TELLING, RECEIVING -/
theorem mP3_12 {u v o : Nat} {τ : MS} : (mP3 u v o τ) 12 = upd (τ 12) (64 * u + 8 * v + o) (τ 9 (8 * u + o)) := by
  unfold mP3 mP2 mP1; rw [mS_ne (by decide), mS_ne (by decide), mS_at]
theorem mP3_13 {u v o : Nat} {τ : MS} : (mP3 u v o τ) 13 = upd (τ 13) (64 * u + 8 * v + o) (τ 10 (8 * u + o)) := by
  unfold mP3 mP2 mP1; rw [mS_ne (by decide), mS_at, mS_ne (by decide), mS_ne (by decide)]
theorem mP3_14 {u v o : Nat} {τ : MS} : (mP3 u v o τ) 14 = upd (τ 14) (64 * u + 8 * v + o) (τ 0 1 + τ 7 (8 * u + v)) := by
  unfold mP3 mP2 mP1; rw [mS_at, mS_ne (k := 13) (i := 14) (by decide), mS_ne (k := 12) (i := 14) (by decide), mS_ne (k := 13) (i := 0) (by decide), mS_ne (k := 12) (i := 0) (by decide), mS_ne (k := 13) (i := 7) (by decide), mS_ne (k := 12) (i := 7) (by decide)]
theorem mP3_k {u v o k : Nat} {τ : MS} (h2 : k ≠ 12) (h3 : k ≠ 13) (h4 : k ≠ 14) : (mP3 u v o τ) k = τ k := by
  unfold mP3 mP2 mP1; rw [mS_ne h4, mS_ne h3, mS_ne h2]
theorem fPass_fill {k f : Nat} {τ : MS} : (∀ q, q ≠ 15 → (itr (fPass k f) 8 0 τ) q = τ q) ∧ ∀ j, (itr (fPass k f) 8 0 τ) 15 j = if 8 * f ≤ j ∧ j < 8 * f + 8 then τ 11 (8 * k + (j - 8 * f)) else τ 15 j :=
  fill (b := 15) (base := 8 * f) (v := fun i => τ 11 (8 * k + i)) (fun i τ' h => by unfold fPass; rw [h 11 (by decide)]) 8
theorem mPass_k {u v o k : Nat} {τ : MS} (h2 : k ≠ 12) (h3 : k ≠ 13) (h4 : k ≠ 14) (h5 : k ≠ 15) : (mPass u v o τ) k = τ k := by
  unfold mPass
  split
  · rfl
  · split
    · split
      · rw [fPass_fill.1 k h5, mP3_k h2 h3 h4]
      · rfl
    · rfl
theorem mPass_no {u v o : Nat} {τ : MS} (h : ¬ mCarr τ u v = true) : mPass u v o τ = τ := by
  unfold mPass
  split
  · rfl
  · rfl
theorem rel_pass {M : Int} {h f t o : Nat} {σ : CS} {τ : MS} (R : Rel M h σ τ) (hf : f < 8) (ht : t < 8) (ho : o < 8) (hc : mCarr τ f t = true) (hh : 64 * f + 8 * t + o ≠ h) : Rel M h (cSendKnown f t o σ) (mPass f t o τ) := by
  have ex1 : f * 8 + o = 8 * f + o := by omega
  have ex2 : (f * 8 + t) * 8 + o = 64 * f + 8 * t + o := by omega
  have ex3 : f * 8 + t = 8 * f + t := by omega
  have R0 := R
  obtain ⟨T, N, U, K, F, Hh, Ca, C⟩ := R
  obtain ⟨k1, k2, k3, k4, k5⟩ := K (8 * f + o) (by omega) (fun h => h)
  obtain ⟨f1, f2, f3, f4⟩ := F (64 * f + 8 * t + o) (by omega) hh
  obtain ⟨T1, T2, T3, -⟩ := T.1
  obtain ⟨-, T4, -⟩ := T.2.2.1 (8 * f + t) (by omega)
  have hW : cSendW f t o σ = pWrite 8 9 1 4 (64 * f + 8 * t + o) (σ.1 6 (8 * f + o)) (σ.1 7 (8 * f + o)) (σ.2 0 (8 * f + o)) σ := by unfold cSendW; rw [ex1, ex2]
  unfold cSendKnown mPass
  rw [hW, ex1, ex2, ex3, f1]
  by_cases hlt : τ 12 (64 * f + 8 * t + o) < τ 9 (8 * f + o)
  · have hn : 0 < (τ 9 (8 * f + o)).toInt := by have := tlt.mp hlt; omega
    have hn0 : τ 9 (8 * f + o) ≠ 0 := fun q => by rw [te0.mp q] at hn; omega
    rw [if_neg (by rw [k1]; intro q; have := tle.mp q; have := tlt.mp hlt; omega), if_neg hn0, if_pos hc, if_pos hlt]
    obtain ⟨p1, p2, p3, p4, p5, p6, p7⟩ := pW (nb := 8) (bb := 9) (cb := 1) (cn := 4) (row := 64 * f + 8 * t + o) (n := σ.1 6 (8 * f + o)) (b := σ.1 7 (8 * f + o)) (c := σ.2 0 (8 * f + o)) (σ := σ) (by omega) (by omega) (by omega)
    obtain ⟨L1, L2⟩ := fPass_fill (k := 8 * f + o) (f := 64 * f + 8 * t + o) (τ := mP3 f t o τ)
    obtain ⟨a1, a2⟩ := k4 hn0
    refine rel_flight R0 (by omega) hh (by rw [k1]; exact hn) (by rw [k1]; exact k3) ?_ (fun k q2 q3 q4 q5 => by rw [L1 k q5, mP3_k q2 q3 q4]) (fun j hj => by rw [L1 12 (by decide), mP3_12, pk_un hj]) (fun j hj => by rw [L1 13 (by decide), mP3_13, pk_un hj]) (fun j hj => by rw [L1 14 (by decide), mP3_14, pk_un hj]) (fun j w hj hw => by rw [L2, if_neg (by omega), mP3_k (by decide) (by decide) (by decide)]) (by rw [show (64 * f + 8 * t + o) / 64 = f by omega, show (64 * f + 8 * t + o) / 8 % 8 = t by omega]; exact hc)
    rw [L1 12 (by decide), L1 13 (by decide), L1 14 (by decide), mP3_12, mP3_13, mP3_14, pk_us, pk_us, pk_us]
    refine ⟨k1, by omega, k3, fun _ => ⟨a1, ?_, fun w hw => ?_⟩⟩
    · rw [p4 2 (by omega), p1 4 (by omega) (by omega) (by omega), T1, T4]
    · refine (a2 w hw).trans ?_
      dsimp only
      rw [L2, if_pos (by omega), mP3_k (by decide) (by decide) (by decide)]
      congr 1
      omega
  · rw [if_pos (by rw [k1]; apply tle.mpr; have : ¬ (τ 12 (64 * f + 8 * t + o)).toInt < (τ 9 (8 * f + o)).toInt := fun q => hlt (tlt.mpr q); omega)]
    by_cases hz : τ 9 (8 * f + o) = 0
    · rw [if_pos hz]; exact R0
    · rw [if_neg hz, if_pos hc, if_neg hlt]; exact R0
def gSp (u o : Nat) (x : Int32) (i : Nat) (τ : MS) : MS := if nI i = x then τ else mPass u i o τ
theorem rel_spread {M : Int} {h u o : Nat} {x : Int32} {σ : CS} {τ : MS} (R : Rel M h σ τ) (hu : u < 8) (ho : o < 8) (hh : ∀ i, i < 8 → 64 * u + 8 * i + o ≠ h) : Rel M h (cSpread u o x σ) (itr (gSp u o x) 8 0 τ) := by
  unfold cSpread
  refine itr_rel (fun _ s t => Rel M h s t) 0 σ τ R 8 (fun j s t hj hR => ?_)
  rw [Nat.zero_add]
  unfold fSpread gSp
  by_cases e : nI j = x
  · rw [if_pos e, if_pos e]; exact hR
  · rw [if_neg e, if_neg e, carr_eq hR.1 hu hj]
    by_cases hc : mCarr t u j = true
    · rw [if_pos hc]; exact rel_pass hR hu hj ho hc (hh j hj)
    · rw [if_neg hc, mPass_no hc]; exact hR
theorem fT1_fill {u : Nat} {τ : MS} : (∀ q, q ≠ 11 → (itr (fT1 u) 8 0 (mT3 u τ)) q = (mT3 u τ) q) ∧ ∀ j, (itr (fT1 u) 8 0 (mT3 u τ)) 11 j = if 8 * (8 * u + u) ≤ j ∧ j < 8 * (8 * u + u) + 8 then (if mCarr τ u (j - 8 * (8 * u + u)) = true then τ 6 (8 * u + (j - 8 * (8 * u + u))) else nI 0) else τ 11 j :=
  fill (b := 11) (base := 8 * (8 * u + u)) (v := fun i => if mCarr τ u i = true then τ 6 (8 * u + i) else nI 0) (τ0 := mT3 u τ) (fun i τ' h => by
    have e5 : τ' 5 = τ 5 := h 5 (by decide)
    have e8 : τ' 8 = τ 8 := h 8 (by decide)
    have e2 : τ' 2 = τ 2 := h 2 (by decide)
    have e6 : τ' 6 = τ 6 := h 6 (by decide)
    unfold fT1
    rw [mCarr_c e5 e8 e2, e6]
    by_cases hc : mCarr τ u i = true
    · rw [if_pos hc]; simp only [hc, if_true]
    · rw [if_neg hc]; simp only [hc, if_false]; rfl) 8
theorem itr_k {f : Nat → MS → MS} {k : Nat} (h : ∀ i τ, (f i τ) k = τ k) (n i : Nat) (τ : MS) : (itr f n i τ) k = τ k := itr_ind (fun _ t => t k = τ k) i τ rfl n (fun j s _ hs => (h _ _).trans hs)
theorem mTell_k {u k : Nat} {τ : MS} (h3 : k ≠ 3) (h9 : k ≠ 9) (h10 : k ≠ 10) (h11 : k ≠ 11) (h12 : k ≠ 12) (h13 : k ≠ 13) (h14 : k ≠ 14) (h15 : k ≠ 15) : (mTell u τ) k = τ k := by
  unfold mTell
  rw [itr_k (f := fT2 u) (fun i τ => mPass_k h12 h13 h14 h15), fT1_fill.1 k h11]
  unfold mT3 mT2 mT1
  rw [mS_ne h10, mS_ne h9, mS_ne h3]
theorem mSendAll_k {u v k : Nat} {τ : MS} (h12 : k ≠ 12) (h13 : k ≠ 13) (h14 : k ≠ 14) (h15 : k ≠ 15) : (mSendAll u v τ) k = τ k := itr_k (fun i τ => mPass_k h12 h13 h14 h15) 8 0 τ
theorem mT3_9 {u : Nat} {τ : MS} : (mT3 u τ) 9 = upd (τ 9) (8 * u + u) (τ 3 u + nI 1) := by
  unfold mT3 mT2 mT1; rw [mS_ne (by decide), mS_at, mS_ne (k := 3) (i := 9) (by decide), mS_at, pk_us]
theorem mT3_10 {u : Nat} {τ : MS} : (mT3 u τ) 10 = upd (τ 10) (8 * u + u) (nI 0) := by
  unfold mT3 mT2 mT1; rw [mS_at, mS_ne (by decide), mS_ne (by decide)]
theorem mT3_k {u k : Nat} {τ : MS} (h9 : k ≠ 9) (h10 : k ≠ 10) : (mT3 u τ) k = (mT1 u τ) k := by
  unfold mT3 mT2; rw [mS_ne h10, mS_ne h9]
theorem rel_tell {M : Int} {h u : Nat} {σ : CS} {τ : MS} (R : Rel M h σ τ) (hu : u < 8) (hM : M < 1073741824) (hth : τ 2 u ≠ 0) (hh : ∀ i, i < 8 → 64 * u + 8 * i + u ≠ h) : Rel (M + 1) h (cTell u σ) (mTell u τ) := by
  obtain ⟨n1, n2, n3⟩ := R.2.1 u hu hth
  have hx : (τ 3 u + nI 1).toInt = (τ 3 u).toInt + 1 := by rw [tA (by rw [tn1]; omega) (by rw [tn1]; omega), tn1]
  have R1 : Rel (M + 1) h (tell1 u σ) (mT1 u τ) := by
    unfold tell1 mT1
    rw [n1]
    exact rel_latest R (by omega) (by omega) (by omega)
  obtain ⟨L1, L2⟩ := fT1_fill (u := u) (τ := τ)
  have R2 : Rel (M + 1) h (tell2 u σ) (itr (fT1 u) 8 0 (mT3 u τ)) := by
    unfold tell2
    have eu : u * 8 + u = 8 * u + u := by omega
    rw [eu]
    have eN : (tell1 u σ).1 2 u = τ 3 u + nI 1 := by
      show upd (σ.1 2) u (σ.1 2 u + nI 1) u = _
      rw [pk_us, n1]
    rw [eN]
    refine rel_known R1 (by omega) (by omega) (by rw [show (8 * u + u) / 8 = u by omega]; exact hth) (by omega) ?_ (fun k q9 q10 q11 => by rw [L1 k q11, mT3_k q9 q10]) (fun j hj => ?_) (fun j hj => ?_) (fun j w hj hw => ?_)
    · rw [L1 9 (by decide), L1 10 (by decide), mT3_9, mT3_10, pk_us, pk_us]
      refine ⟨rfl, by omega, by omega, fun _ => ⟨?_, fun w hw => ?_⟩, fun q => ?_⟩
      · unfold aOK
        rw [nI0, t0]
        omega
      · rw [cCosts_F (fun i hi => by rw [show u * 8 + i = 8 * u + i by omega]; show r50 (σ.1 3 (8 * u + i)); rw [(R.1.2.2.1 (8 * u + i) (by omega)).1]; exact (R.1.2.2.1 (8 * u + i) (by omega)).2.2.2.2.2) hw]
        have hL : (itr (fT1 u) 8 0 (mT3 u τ)) 11 (8 * (8 * u + u) + w) = if mCarr τ u w = true then τ 6 (8 * u + w) else nI 0 := by rw [L2, if_pos (by omega), show 8 * (8 * u + u) + w - 8 * (8 * u + u) = w by omega]
        dsimp only
        rw [hL]
        rw [carr_eq R1.1 hu hw, mCarr_c (τ := τ) (τ' := mT1 u τ) rfl rfl rfl]
        by_cases hc : mCarr τ u w = true
        · rw [if_pos hc, if_pos hc, show u * 8 + w = 8 * u + w by omega]
          exact (R.1.2.2.1 (8 * u + w) (by omega)).1
        · rw [if_neg hc, if_neg hc]
      · exfalso
        have := te0.mp q
        omega
    · rw [L1 9 (by decide), mT3_9, pk_un hj]; rfl
    · rw [L1 10 (by decide), mT3_10, pk_un hj]; rfl
    · rw [L2, if_neg (by omega)]; rfl
  have eG : itr (fT2 u) 8 0 (itr (fT1 u) 8 0 (mT3 u τ)) = itr (gSp u u (-1)) 8 0 (itr (fT1 u) 8 0 (mT3 u τ)) := itr_congr 0 _ 8 (fun j s hj => by
    unfold fT2 gSp
    rw [if_neg]
    intro q
    have := congrArg Int32.toInt q
    rw [Nat.zero_add, tn (by omega), tnm] at this
    omega)
  unfold cTell mTell
  rw [eG]
  exact rel_spread R2 hu hu hh
theorem rel_sendAll {M : Int} {h f t : Nat} {σ : CS} {τ : MS} (R : Rel M h σ τ) (hf : f < 8) (ht : t < 8) (hc : mCarr τ f t = true) (hh : ∀ o, o < 8 → 64 * f + 8 * t + o ≠ h) : Rel M h (cSendAll f t σ) (mSendAll f t τ) := by
  unfold cSendAll mSendAll
  refine (itr_rel (fun _ s q => Rel M h s q ∧ mCarr q f t = true) 0 σ τ ⟨R, hc⟩ 8 (fun j s q hj hR => ?_)).1
  rw [Nat.zero_add]
  exact ⟨rel_pass hR.1 hf ht hj hR.2 (hh j hj), by rw [mCarr_c (mPass_k (by decide) (by decide) (by decide) (by decide)) (mPass_k (by decide) (by decide) (by decide) (by decide)) (mPass_k (by decide) (by decide) (by decide) (by decide))]; exact hR.2⟩
theorem fRc_fill {k f : Nat} {τ : MS} : (∀ q, q ≠ 11 → (itr (fRc k f) 8 0 τ) q = τ q) ∧ ∀ j, (itr (fRc k f) 8 0 τ) 11 j = if 8 * k ≤ j ∧ j < 8 * k + 8 then τ 15 (8 * f + (j - 8 * k)) else τ 11 j :=
  fill (b := 11) (base := 8 * k) (v := fun i => τ 15 (8 * f + i)) (fun i τ' h => by unfold fRc; rw [h 15 (by decide)]) 8
theorem mR3_9 {u v o : Nat} {τ : MS} : (mR3 u v o τ) 9 = upd (τ 9) (8 * v + o) (τ 12 (64 * u + 8 * v + o)) := by
  unfold mR3 mR2 mR1; rw [mS_ne (by decide), mS_at, mS_ne (by decide)]
theorem mR3_10 {u v o : Nat} {τ : MS} : (mR3 u v o τ) 10 = upd (τ 10) (8 * v + o) (τ 13 (64 * u + 8 * v + o)) := by
  unfold mR3 mR2 mR1; rw [mS_at, mS_ne (k := 9) (i := 10) (by decide), mS_ne (k := 12) (i := 10) (by decide), mS_ne (k := 9) (i := 13) (by decide), mS_ne (k := 12) (i := 13) (by decide)]
theorem mR3_k {u v o k : Nat} {τ : MS} (h9 : k ≠ 9) (h10 : k ≠ 10) : (mR3 u v o τ) k = (mR1 u v o τ) k := by
  unfold mR3 mR2; rw [mS_ne h10, mS_ne h9]
set_option maxHeartbeats 400000 in
theorem rel_recv {M : Int} {row : Nat} {σ : CS} {τ : MS} (R : Rel M 600 σ τ) (hrow : row < 512) (hM : M < 1073741824) (hn : 0 < (τ 12 row).toInt) : Rel (M + 1) 600 (cRecv row σ) (mRecv (row / 64) (row / 8 % 8) (row % 8) τ) := by
  have hf : row / 64 < 8 := by omega
  have ht : row / 8 % 8 < 8 := by omega
  have ho : row % 8 < 8 := by omega
  have hn0 : τ 12 row ≠ 0 := fun q => by rw [te0.mp q] at hn; omega
  have hca := R.2.2.2.2.2.2.1 row hrow hn0
  unfold cRecv
  have hsum : 64 * (row / 64) + 8 * (row / 8 % 8) + row % 8 = row := by omega
  generalize row / 64 = f at *
  generalize row / 8 % 8 = t at *
  generalize row % 8 = o at *
  have hft : f ≠ t := mCarr_ne R.1 hf hca
  refine rel_close ?_ hrow
  have RO : Rel M row σ (mR1 f t o τ) := by unfold mR1; rw [hsum]; exact rel_open R
  obtain ⟨-, -, hthf, htht⟩ := mCarr_of hca
  obtain ⟨n1, n2, n3⟩ := R.2.1 t ht htht
  obtain ⟨f1, f2, f3, f4⟩ := R.2.2.2.2.1 row hrow (by omega)
  obtain ⟨g1, g2, g3⟩ := f4 hn0
  obtain ⟨k1, k2, k3, k4, k5⟩ := R.2.2.2.1 (8 * t + o) (by omega) (fun h => h)
  unfold cRecvB mRecv
  rw [hsum, f1, show t * 8 + o = 8 * t + o by omega, k1, n1]
  have e3 : (mR1 f t o τ) 3 = τ 3 := rfl
  have e9 : (mR1 f t o τ) 9 = τ 9 := rfl
  rw [e3, e9]
  by_cases hot : o = t
  · rw [if_pos hot, if_pos hot]
    by_cases hle : τ 12 row ≤ τ 3 t
    · rw [if_pos hle, if_pos hle]
      exact RO.m (by omega)
    · rw [if_neg hle, if_neg hle]
      exact rel_tell (rel_latest RO (Int.le_refl _) f2 f3) ht hM htht (fun i hi => by omega)
  · rw [if_neg hot, if_neg hot]
    by_cases hle : τ 12 row ≤ τ 9 (8 * t + o)
    · rw [if_pos hle, if_pos hle]
      by_cases hge : τ 9 (8 * t + o) ≤ τ 12 row
      · rw [if_pos hge, if_pos hge]
        exact RO.m (by omega)
      · rw [if_neg hge, if_neg hge]
        refine Rel.m (rel_pass RO ht hf ho ?_ (by omega)) (by omega)
        rw [mCarr_c (τ := τ) (τ' := mR1 f t o τ) rfl rfl rfl, ← mCarr_sym R.1 hf ht]
        exact hca
    · rw [if_neg hle, if_neg hle]
      obtain ⟨L1, L2⟩ := fRc_fill (k := 8 * t + o) (f := row) (τ := mR3 f t o τ)
      have R2 : Rel (M + 1) row (pWrite 6 7 0 3 (8 * t + o) (τ 12 row) (σ.1 9 row) (σ.2 1 row) σ) (itr (fRc (8 * t + o) row) 8 0 (mR3 f t o τ)) := by
        refine rel_known RO (by omega) (by omega) (by rw [show (8 * t + o) / 8 = t by omega]; exact htht) hn ?_ (fun k q9 q10 q11 => by rw [L1 k q11, mR3_k q9 q10]) (fun j hj => ?_) (fun j hj => ?_) (fun j w hj hw => ?_)
        · rw [L1 9 (by decide), L1 10 (by decide), mR3_9, mR3_10, pk_us, pk_us, hsum]
          refine ⟨rfl, by omega, by omega, fun _ => ⟨g1, fun w hw => ?_⟩, fun q => absurd q hn0⟩
          refine (g3 w hw).trans ?_
          dsimp only
          rw [L2, if_pos (by omega)]
          show τ 15 _ = τ 15 _
          congr 1
          omega
        · rw [L1 9 (by decide), mR3_9, pk_un hj]; rfl
        · rw [L1 10 (by decide), mR3_10, pk_un hj]; rfl
        · rw [L2, if_neg (by omega)]; rfl
      have eG : ∀ s : MS, itr (fRs f t o) 8 0 s = itr (gSp t o (nI f)) 8 0 s := fun s => itr_congr 0 _ 8 (fun j s hj => by
        unfold fRs gSp
        rw [Nat.zero_add]
        by_cases e : j = f
        · rw [if_pos e, if_pos (by rw [e])]
        · rw [if_neg e, if_neg (fun q => e (nI_inj (by omega) (by omega) q))])
      rw [eG]
      exact rel_spread R2 ht ho (fun i hi => by omega)
