/-! THE RELATION OVER THE CALLS: questions; the relation stands -/
theorem isN_nI {u : Nat} (hu : u < 8) : isN (nI u) = true := by
  unfold isN
  rw [if_neg (fun q => by have := tlt.mp q; rw [t0, tn (by omega)] at this; omega), if_neg (fun q => by have := (nI_leI (by omega) (by omega)).mp q; omega)]
theorem news_z {z : Int32} (h1 : ¬ z < nI 10) : (inR z (nI 10) (nI 17) = true ∧ ∃ t, t < 8 ∧ z = nI (10 + t) ∧ z - nI 10 = nI t) ∨ (¬ inR z (nI 10) (nI 17) = true ∧ ¬ isN (z - nI 10) = true) := by
  have e10 : (nI 10).toInt = 10 := by decide
  have e17 : (nI 17).toInt = 17 := by decide
  have hz : ¬ z.toInt < (nI 10).toInt := fun q => h1 (tlt.mpr q)
  have hs : (z - nI 10).toInt = z.toInt - 10 := by have := tr z; rw [tS (by omega) (by omega), e10]
  by_cases h2 : nI 17 < z
  · right
    constructor
    · unfold inR; rw [if_neg h1, if_pos h2]; intro q; cases q
    · intro q
      obtain ⟨j, hj, ej⟩ := isN_of q
      have := tlt.mp h2
      rw [ej, tn (by omega)] at hs
      omega
  · left
    have h3 : ¬ (nI 17).toInt < z.toInt := fun q => h2 (tlt.mpr q)
    refine ⟨by unfold inR; rw [if_neg h1, if_neg h2], (z.toInt - 10).toNat, by omega, teq.mpr ?_, teq.mpr ?_⟩
    · rw [tn (by omega)]; omega
    · rw [hs, tn (by omega)]; omega
theorem the_news : lrNews Rr := by
  intro k P σ τ x y z hk hR
  refine ⟨?_, Rr_T0 hR⟩
  obtain ⟨I, J, G, M, hM, R⟩ := hR
  have e9 : (mT0 τ) 9 = τ 9 := rfl
  have e10 : (mT0 τ) 10 = τ 10 := rfl
  have e11 : (mT0 τ) 11 = τ 11 := rfl
  have i10 : (nI 10).toInt = 10 := by decide
  unfold cNews mNews
  by_cases hx : isN x = true
  · by_cases hy : isN y = true
    · obtain ⟨u, hu, rfl⟩ := isN_of hx
      obtain ⟨v, hv, rfl⟩ := isN_of hy
      rw [if_pos hx, if_pos hx, if_pos hy, if_pos hy, cl8 hu, cl8 hv, show u * 8 + v = 8 * u + v by omega, e9, e11]
      obtain ⟨k1, k2, k3, k4, k5⟩ := R.2.2.2.1 (8 * u + v) (by omega) (fun h => h)
      rw [k1]
      by_cases h0 : τ 9 (8 * u + v) = 0
      · rw [if_pos h0, if_pos h0]
      · rw [if_neg h0, if_neg h0]
        obtain ⟨⟨a1, a2, a3⟩, hc⟩ := k4 h0
        have hlo : ∀ n : Nat, n < 10 → z = nI n → ¬ inR z (nI 10) (nI 17) = true := fun n hn e q => by
          obtain ⟨j, hj, hj2, ej⟩ := inR_of (by decide) (by decide) q
          rw [e] at ej
          have := nI_inj (by omega) (by omega) ej
          omega
        unfold mNewsB
        rw [e9, e10]
        by_cases z0 : z = nI 0
        · rw [if_pos z0, if_neg (hlo 0 (by omega) z0), if_pos (by rw [z0]; exact nI0)]
        · rw [if_neg z0]
          by_cases z1 : z = nI 1
          · rw [if_pos z1, if_neg (hlo 1 (by omega) z1), if_neg (by rw [← nI0]; exact z0), if_pos z1]
            exact teq.mpr (by have := R.1.1; have := congrArg Int32.toInt this.1; rw [tS (by omega) (by omega)]; exact a1)
          · rw [if_neg z1]
            by_cases z2 : z = nI 2
            · rw [if_pos z2, if_neg (hlo 2 (by omega) z2), if_neg (by rw [← nI0]; exact z0), if_neg z1, if_pos z2]
              unfold cntF
              refine itr_congr 0 _ 8 (fun j s hj => ?_)
              unfold fCnt fNw
              rw [Nat.zero_add, hc j hj, e11]
              rfl
            · rw [if_neg z2]
              by_cases z3 : z < nI 10
              · have hno : ¬ inR z (nI 10) (nI 17) = true := by unfold inR; rw [if_pos z3]; intro q; cases q
                rw [if_pos z3, if_neg hno, if_neg (by rw [← nI0]; exact z0), if_neg z1, if_neg z2]
              · rw [if_neg z3]
                rcases news_z z3 with ⟨q1, t, ht, q2, q3⟩ | ⟨q1, q2⟩
                · rw [q3, if_pos (isN_nI ht), if_pos q1, cl8 ht, hc t ht, q2, nI_clamp (by omega)]
                  show τ 11 _ = τ 11 _
                  congr 1
                  omega
                · rw [if_neg q2, if_neg q1, if_neg (by rw [← nI0]; exact z0), if_neg z1, if_neg z2]
    · rw [if_pos hx, if_pos hx, if_neg hy, if_neg hy]
  · rw [if_neg hx, if_neg hx]
theorem the_fly : lrFly Rr := by
  intro k P σ τ hk hR
  refine ⟨?_, Rr_T0 hR⟩
  obtain ⟨I, J, G, M, hM, R⟩ := hR
  exact fly_eq R
theorem rel_measC {M : Int} {h v g : Nat} {σ : CS} {τ : MS} (R : Rel M h σ τ) : Rel M h (cMeas v g σ) τ :=
  rel_cong R (fun i _ => by rw [cMeas_k (by decide)]) (fun k _ hk => cMeas_k (by omega)) cMeas_2 rfl rfl (fun k _ hk => rfl)
theorem the_dist : lrDist Rr := by
  intro k P σ τ x y hk hR
  have hT := Rr_T0 hR
  obtain ⟨I, J, G, M, hM, R⟩ := hR
  have J0 : mI P (mT0 τ) := mI_0 J (by decide)
  have G0 : gP P σ (mT0 τ) := gP_keep G keep.r (mKp_S (by omega))
  have R0 : Rel M 600 σ (mT0 τ) := rel_00 R
  unfold cDist mDist cDistS mDistS
  by_cases hx : isN x = true
  · by_cases hy : isN y = true
    · obtain ⟨u, hu, rfl⟩ := isN_of hx
      obtain ⟨v, hv, rfl⟩ := isN_of hy
      rw [if_pos hx, if_pos hx, if_pos hx, if_pos hx, if_pos hy, if_pos hy, if_pos hy, if_pos hy, cl8 hu, cl8 hv, R0.1.2.1 u hu]
      by_cases h2 : (mT0 τ) 2 u = 0
      · rw [if_pos h2, if_pos h2, if_pos h2, if_pos h2]
        exact ⟨rfl, hT⟩
      · rw [if_neg h2, if_neg h2, if_neg h2, if_neg h2]
        obtain ⟨w, f, ⟨a1, a2, a3, a4⟩, ⟨b1, b2, -⟩, hw⟩ := meas_eq R0.2.2.2.1 J0.2.2.2.2.1 hu hv
        have bu := a4.b hu
        refine ⟨?_, Rr_of (cI_keep I cMeas_keep) (mMeas_I J0) (gP_keep G0 cMeas_keep mKp_meas) (rel_meas R0) (by omega)⟩
        rw [a1 u hu, b1 u hu]
        by_cases hf : f u = 1000
        · rw [if_pos hf, if_pos (by rw [hf]; exact tle.mpr (Int.le_refl _))]
        · rw [if_neg hf, if_neg (fun q => by have := (nI_leI (by omega) (by omega)).mp q; omega)]
    · rw [if_pos hx, if_pos hx, if_pos hx, if_pos hx, if_neg hy, if_neg hy, if_neg hy, if_neg hy]
      exact ⟨rfl, hT⟩
  · rw [if_neg hx, if_neg hx, if_neg hx, if_neg hx]
    exact ⟨rfl, hT⟩
theorem the_next : lrNext Rr := by
  intro k P σ τ x y hk hR
  have hT := Rr_T0 hR
  obtain ⟨I, J, G, M, hM, R⟩ := hR
  have J0 : mI P (mT0 τ) := mI_0 J (by decide)
  have G0 : gP P σ (mT0 τ) := gP_keep G keep.r (mKp_S (by omega))
  have R0 : Rel M 600 σ (mT0 τ) := rel_00 R
  unfold cNext mNext cDistS mNextS
  by_cases hx : isN x = true
  · by_cases hy : isN y = true
    · obtain ⟨u, hu, rfl⟩ := isN_of hx
      obtain ⟨v, hv, rfl⟩ := isN_of hy
      rw [if_pos hx, if_pos hx, if_pos hx, if_pos hx, if_pos hy, if_pos hy, if_pos hy, if_pos hy, cl8 hu, cl8 hv, R0.1.2.1 u hu]
      by_cases huv : u = v
      · rw [if_pos huv, if_pos huv]
        have e : cHop u v σ = -1 := by unfold cHop; rw [if_pos huv]
        rw [e]
        by_cases h2 : (mT0 τ) 2 u = 0
        · rw [if_pos h2, if_pos h2]; exact ⟨rfl, hT⟩
        · rw [if_neg h2, if_neg h2]
          exact ⟨rfl, Rr_of (cI_keep I cMeas_keep) J0 (gP_keep G0 cMeas_keep mKp.r) (rel_measC R0) (by omega)⟩
      · rw [if_neg huv, if_neg huv]
        by_cases h2 : (mT0 τ) 2 u = 0
        · rw [if_pos h2, if_pos h2, if_pos h2, if_pos h2]
          exact ⟨rfl, hT⟩
        · rw [if_neg h2, if_neg h2, if_neg h2, if_neg h2]
          exact ⟨hop_eq R0.2.2.2.1 J0.2.2.2.2.1 hu hv huv, Rr_of (cI_keep I cMeas_keep) (mMeas_I J0) (gP_keep G0 cMeas_keep mKp_meas) (rel_meas R0) (by omega)⟩
    · rw [if_pos hx, if_pos hx, if_pos hx, if_pos hx, if_neg hy, if_neg hy, if_neg hy, if_neg hy]
      exact ⟨rfl, hT⟩
  · rw [if_neg hx, if_neg hx, if_neg hx, if_neg hx]
    exact ⟨rfl, hT⟩
theorem the_pkt : lrPkt Rr := by
  intro k P σ τ x z hk hR
  refine ⟨?_, Rr_T0 hR⟩
  obtain ⟨I, J, G, M, hM, R⟩ := hR
  have hP := I.1
  have e16 : (mT0 τ) 0 16 = nI P := J.2.1
  have ek : ∀ k, k ≠ 0 → (mT0 τ) k = τ k := fun k h => mS_ne h
  unfold cPkt mPkt
  rw [e16]
  by_cases h : inR x (nI 0) (nI P - nI 1) = true
  · rw [if_pos h]
    obtain ⟨j, hj, rfl⟩ := inP_of hP rfl h
    rw [if_neg (by intro q; have := tlt.mp q; rw [tn (by omega), t0] at this; omega), if_pos (nI_lt hj (by omega)), nI_clamp (by omega)]
    obtain ⟨g1, g2, g3, g4, g5, g6⟩ := G j hj
    obtain ⟨g, n, hg, hn, m1, m2, -⟩ := J.2.2.1.1 j hj
    have i10 : (nI 10).toInt = 10 := by decide
    have low : ∀ m : Nat, m < 10 → z = nI m → z < nI 10 := fun m hm e => by rw [e]; exact nI_lt hm (by omega)
    unfold cPktB mPktB
    rw [ek 19 (by omega), ek 18 (by omega), ek 23 (by omega), ek 24 (by omega), g3, g2, g4]
    by_cases z0 : z = nI 0
    · rw [if_pos z0, if_pos (low 0 (by omega) z0), if_pos (by rw [z0]; exact nI0)]
    · have z0' : ¬ z = 0 := by rw [← nI0]; exact z0
      rw [if_neg z0]
      by_cases z1 : z = nI 1
      · rw [if_pos z1, if_pos (low 1 (by omega) z1), if_neg z0', if_pos z1]
      · rw [if_neg z1]
        by_cases z2 : z = nI 2
        · rw [if_pos z2, if_pos (low 2 (by omega) z2), if_neg z0', if_neg z1, if_pos z2]
        · rw [if_neg z2]
          by_cases z3 : z < nI 10
          · rw [if_pos z3, if_pos z3, if_neg z0', if_neg z1, if_neg z2]
          · rw [if_neg z3, if_neg z3]
            by_cases z4 : τ 23 j ≤ z - nI 10
            · rw [if_pos z4, if_pos z4]
            · rw [if_neg z4, if_neg z4]
              obtain ⟨t, ht, ez⟩ := pk_z (show n < 40 by omega) m2 z3 z4
              rw [ez, nI_clamp (by omega), show 10 + t - 10 = t by omega, show 40 * j + (10 + t) - 10 = 40 * j + t by omega]
              exact g5 t (by rw [m2, nI_clamp (by omega)]; exact ht)
  · rw [if_neg h]
    by_cases h1 : x < 0
    · rw [if_pos h1]
    · rw [if_neg h1]
      by_cases h2 : x < nI P
      · exfalso
        apply h
        obtain ⟨j, hj, rfl⟩ := px_of hP h1 h2
        unfold inR
        rw [nI0, if_neg h1, pk_sub (by omega), if_neg (nI_nlt (by omega) (by omega))]
      · rw [if_neg h2]
theorem tog_k {k : Nat} {τ : MS} (h : k ≠ 26) : (mTog τ) k = (mT0 τ) k := by
  unfold mTog
  rw [itr_k (f := fS3) (fun i t => by
    unfold fS3
    exact itr_k (fun j t => by obtain ⟨x, e, -⟩ := fS4_eq (i := i) (j := j) (τ := t); rw [e, mS_ne h]) 64 0 t), itr_k (f := fS1) (fun i t => by
    unfold fS1
    exact itr_k (fun j t => by obtain ⟨x, e, -⟩ := fS2_eq (i := i) (j := j) (τ := t); rw [e, mS_ne h]) 8 0 t)]
theorem mI_c {P : Nat} {τ τ' : MS} (h : mI P τ) (e : ∀ k, k ≠ 26 → τ' k = τ k) : mI P τ' := by
  unfold mI mWF mUn at *
  rw [e 0 (by omega), e 6 (by omega), e 11 (by omega), e 15 (by omega), e 17 (by omega), e 18 (by omega), e 19 (by omega), e 21 (by omega), e 23 (by omega)]
  exact h
theorem the_set : lrSet Rr := by
  intro k P σ τ hk hR
  have hT := Rr_T0 hR
  obtain ⟨I, J, G, M, hM, R⟩ := hR
  refine ⟨settled_eq R, ?_⟩
  unfold mSetS
  by_cases h : mFly τ ≤ 0
  · rw [if_pos h]
    have J0 : mI P (mT0 τ) := mI_0 J (by decide)
    have G0 : gP P σ (mT0 τ) := gP_keep G keep.r (mKp_S (by omega))
    have R0 : Rel M 600 σ (mT0 τ) := rel_00 R
    exact Rr_of I (mI_c J0 (fun k hk => tog_k hk)) (gP_keep G0 keep.r (fun k a b => tog_k (by omega))) (rel_cong R0 (fun _ _ => rfl) (fun _ _ _ => rfl) rfl (by rw [tog_k (by omega)]) (by rw [tog_k (by omega)]) (fun k a b => tog_k (by omega))) (by omega)
  · rw [if_neg h]; exact hT
theorem cnt0 : ∀ n, cntN (fun _ => (0 : Int32)) n = 0 := by
  intro n
  induction n with
  | zero => rfl
  | succ n ih => show cntN (fun _ => (0 : Int32)) n + _ = 0; rw [ih, if_pos rfl]
theorem rel_0 : Rel 0 600 (fun _ _ => 0, fun _ _ => 0) (fun _ _ => 0) := by
  have z : (0 : Int32).toInt = 0 := t0
  refine ⟨⟨⟨rfl, by show 0 ≤ (0 : Int32).toInt; omega, by show (0 : Int32).toInt ≤ 0; omega, rfl⟩, fun _ _ => rfl, fun j _ => ⟨rfl, rfl, rfl, Iff.rfl, fun _ => rfl, by show r50 0; exact ⟨by omega, by omega⟩⟩, fun _ _ _ _ => ⟨rfl, rfl⟩, fun _ _ => rfl⟩, fun u _ h => absurd rfl h, fun _ _ _ _ _ => rfl, fun j _ _ => ⟨rfl, by show 0 ≤ (0 : Int32).toInt; omega, by show (0 : Int32).toInt ≤ 0; omega, fun h => absurd rfl h, fun _ => rfl⟩, fun j _ _ => ⟨rfl, by show 0 ≤ (0 : Int32).toInt; omega, by show (0 : Int32).toInt ≤ 0; omega, fun h => absurd rfl h⟩, fun _ => rfl, fun j _ h => absurd rfl h, fun j _ => ?_, fun j _ => ?_, ?_, ?_⟩
  · show 0 ≤ (0 : Int32).toInt; omega
  · show 0 ≤ (0 : Int32).toInt; omega
  · show (0 : Int32) = nI (cntN (fun _ => (0 : Int32)) 64)
    rw [cnt0, nI0]
  · show (0 : Int32) = nI (cntN (fun _ => (0 : Int32)) 512)
    rw [cnt0, nI0]
theorem Rr_0 : Rr 0 0 (fun _ _ => 0, fun _ _ => 0) (fun _ _ => 0) := by
  have r0 : r50 0 := by have := t0; exact ⟨by omega, by omega⟩
  exact ⟨⟨by omega, nI0.symm, fun p hp => by omega⟩, ⟨by omega, nI0.symm, ⟨fun p hp => by omega, fun p _ => ⟨rfl, nI0.symm⟩⟩, fun _ => r0, fun _ => r0, fun _ => r0⟩, fun p hp => by omega, 0, by omega, rel_0⟩
theorem the_rel : ∃ Rr : Nat → Nat → CS → MS → Prop, lrAll Rr ∧ Rr 0 0 (fun _ _ => 0, fun _ _ => 0) (fun _ _ => 0) :=
  ⟨Rr, ⟨fun _ _ _ _ h => ⟨h.1, h.2.1⟩, the_T, the_link, the_fail, the_rest, the_start, the_crash, the_tick, the_send, the_news, the_fly, the_dist, the_next, the_pkt, the_set, fun k P σ τ _ h => by
    obtain ⟨I, J, G, M, hM, R⟩ := h
    exact Rr_of I J G R (by omega)⟩, Rr_0⟩
