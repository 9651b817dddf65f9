/-! THE RELATION OVER THE CALLS: tick, send, questions -/
theorem isAt_lo {p v k : Nat} {τ : MS} (hk : k < 16) : (mIsAt p v τ) k = τ k := by
  have a2 : (mA2 p v τ) k = τ k := by unfold mA2 mA1; rw [mS_ne (by omega), mS_ne (by omega)]
  unfold mIsAt
  split
  · rw [mS_ne (by omega)]; exact a2
  · split
    · rw [mS_ne (by omega)]; exact a2
    · unfold mAH
      split
      · rw [mS_ne (by omega), mMeas_k (by omega)]; exact a2
      · split
        · unfold mA3
          rw [mS_ne (by omega), mS_ne (by omega), mS_ne (by omega), mS_ne (by omega), mMeas_k (by omega)]; exact a2
        · rw [mS_ne (by omega), mMeas_k (by omega)]; exact a2
theorem tick1_00 {P : Nat} {τ : MS} : (mTick1 P τ) 0 0 = τ 0 0 := by
  have h2 : ∀ a t, (mTell a t) 0 = t 0 := fun a t => mTell_k (by decide) (by decide) (by decide) (by decide) (by decide) (by decide) (by decide) (by decide)
  have e : (mTick1 P τ) 0 = (mTk0 τ) 0 := by
    unfold mTick1
    rw [itr_k (f := fTk3) (fun i t => by unfold fTk3; split; split; exact isAt_lo (by omega); rfl; rfl), itr_k (f := fTk2) (fun i t => by unfold fTk2; split; rfl; split; exact mRecv_k (by decide) (by decide) (by decide) (by decide) (by decide) (by decide) (by decide) (by decide); rfl), itr_k (f := fTk1) (fun i t => by unfold fTk1; split; rfl; split; rfl; split; exact h2 _ _; rfl)]
    unfold mGrow
    rw [itr_k (f := fG2) (fun i t => fG2_12.2.2 0 (by decide) (by decide)), itr_k (f := fG1) (fun i t => fG1_9.2.2 0 (by decide) (by decide))]
  rw [e]
  unfold mTk0
  rw [mS_at, pk_un (by decide)]
theorem the_tick : lrTick Rr := by
  intro k P σ τ x hk hR
  have hR0 := hR
  obtain ⟨I, J, G, M, hM, R⟩ := hR
  by_cases h : inR x (nI 1) (nI 50) = true
  · obtain ⟨n, h1, h50, ex⟩ := inR_of (by decide) (by decide) h
    have eC : tickC x = 0 := by
      unfold inR at h
      have z1 : ¬ x < nI 1 := fun q => by rw [if_pos q] at h; cases h
      rw [if_neg z1] at h
      have z2 : ¬ nI 50 < x := fun q => by rw [if_pos q] at h; cases h
      have z3 : x ≤ nI 50 := tle.mpr (by have : ¬ (nI 50).toInt < x.toInt := fun q => z2 (tlt.mpr q); omega)
      unfold tickC
      rw [if_neg z1, if_pos z3]
    have en : x.toNatClampNeg = n := by rw [ex]; exact nI_clamp (by omega)
    have key := itr_rel (f := fTkC P) (g := fTick P) (fun j s t => Rel (M + 521 * j) 600 s t ∧ gP P s t ∧ cI P s ∧ mI P t ∧ t 0 0 = nI 0) 0 σ (mGoes true true τ) ⟨(rel_00 R).m (by omega), gP_keep G keep.r (mKp_S (by omega)), I, mGoes_I J, goes_00⟩ n (fun j s t hj h => by
      obtain ⟨a, b, c, d, e⟩ := h
      obtain ⟨r1, r2⟩ := rel_tick1 a b d (by omega)
      exact ⟨r1.m (by omega), r2, fTkC_I _ c, fTick_I _ d, (tick1_00).trans e⟩)
    have eL : cTick P x σ = itr (fTkC P) n 0 σ := by unfold cTick; rw [if_pos eC, en]
    have eM : mTick P x τ = itr (fTick P) n 0 (mGoes true true τ) := by unfold mTick; rw [if_pos h, en]
    obtain ⟨a, b, c, d, e⟩ := key
    unfold cTickR mTickR
    rw [if_pos h, eL, eM, eC]
    exact ⟨e, fun _ => a.1.1.1, Rr_of c d b a (by omega)⟩
  · have eC : tickC x = 1 := by
      unfold inR at h
      unfold tickC
      by_cases z1 : x < nI 1
      · rw [if_pos z1]
      · rw [if_neg z1] at h ⊢
        by_cases z2 : nI 50 < x
        · rw [if_neg (fun q => by have := tlt.mp z2; have := tle.mp q; omega)]
        · rw [if_neg z2] at h; exact absurd rfl h
    unfold cTick mTick
    rw [if_neg (show ¬ tickC x = 0 by omega), if_neg h, goes_00, eC]
    exact ⟨rfl, fun q => by omega, Rr_goes hR0⟩
/-- send: the reference's packets while the new one has no way yet -/
def mIx (P p : Nat) (τ : MS) : Prop := P ≤ 20 ∧ τ 0 16 = nI P ∧ ((∀ q, q < P → q ≠ p → ∃ g n : Nat, g < 8 ∧ n < 32 ∧ τ 17 q = nI g ∧ τ 23 q = nI n ∧ (τ 19 q = 0 → ∃ v f : Nat, v < 8 ∧ τ 21 q = nI v ∧ τ 18 q = nI f ∧ n + f ≤ 30)) ∧ mUn P τ) ∧ (∀ j, r50 (τ 6 j)) ∧ (∀ j, r50 (τ 11 j)) ∧ ∀ j, r50 (τ 15 j)
theorem mIx_upd {P p : Nat} {τ σ : MS} (h : mIx P p τ) (hp : p < P) (h0 : σ 0 16 = τ 0 16) (h6 : σ 6 = τ 6) (h11 : σ 11 = τ 11) (h15 : σ 15 = τ 15)
    (ho : ∀ q : Nat, q ≠ p → σ 17 q = τ 17 q ∧ σ 18 q = τ 18 q ∧ σ 19 q = τ 19 q ∧ σ 21 q = τ 21 q ∧ σ 23 q = τ 23 q)
    (hr : ∃ g n : Nat, g < 8 ∧ n < 32 ∧ σ 17 p = nI g ∧ σ 23 p = nI n ∧ (σ 19 p = 0 → ∃ v f : Nat, v < 8 ∧ σ 21 p = nI v ∧ σ 18 p = nI f ∧ n + f ≤ 30)) : mI P σ := by
  obtain ⟨h1, h2, ⟨h3, h5⟩, h4, h7, h8⟩ := h
  refine ⟨h1, h0.trans h2, ⟨?_, ?_⟩, by rw [h6]; exact h4, by rw [h11]; exact h7, by rw [h15]; exact h8⟩
  · intro q hq
    by_cases e : q = p
    · subst e; exact hr
    · obtain ⟨o1, o2, o3, o4, o5⟩ := ho q e
      rw [o1, o2, o3, o4, o5]
      exact h3 q hq e
  · intro q hq
    obtain ⟨o1, o2, o3, o4, o5⟩ := ho q (by omega)
    rw [o3, o5]
    exact h5 q hq
theorem mIsAt_x {P p v g : Nat} {τ : MS} (h : mIx P p τ) (hp : p < P) (hg : g < 8) (e17 : τ 17 p = nI g) (hlt : ∃ n f : Nat, τ 23 p = nI n ∧ τ 18 p = nI f ∧ n + f ≤ 30) : mI P (mIsAt p v τ) := by
  obtain ⟨n, f, e23, e18, hnf⟩ := hlt
  have hn1 : τ 23 p + nI 1 = nI (n + 1) := by rw [e23]; exact nI_add n 1
  have fin : ∀ (B : MS) (x : Int32), (∀ k, k ≠ 25 → k ≠ 24 → k ≠ 23 → B k = τ k) → B 23 = upd (τ 23) p (τ 23 p + nI 1) → ¬ x = 0 → mI P (mS 19 p x B) := by
    intro B x hB hB23 hx
    refine mIx_upd h hp (by rw [mS_ne (by decide), hB 0 (by decide) (by decide) (by decide)]) (by rw [mS_ne (by decide), hB 6 (by decide) (by decide) (by decide)]) (by rw [mS_ne (by decide), hB 11 (by decide) (by decide) (by decide)]) (by rw [mS_ne (by decide), hB 15 (by decide) (by decide) (by decide)]) ?_ ?_
    · intro q hq
      refine ⟨by rw [mS_ne (by decide), hB 17 (by decide) (by decide) (by decide)], by rw [mS_ne (by decide), hB 18 (by decide) (by decide) (by decide)], by rw [mS_at, pk_un hq, hB 19 (by decide) (by decide) (by decide)], by rw [mS_ne (by decide), hB 21 (by decide) (by decide) (by decide)], by rw [mS_ne (by decide), hB23, pk_un hq]⟩
    · refine ⟨g, n + 1, hg, by omega, by rw [mS_ne (by decide), hB 17 (by decide) (by decide) (by decide)]; exact e17, by rw [mS_ne (by decide), hB23, pk_us]; exact hn1, ?_⟩
      rw [mS_at, pk_us]
      exact fun q => absurd q hx
  have a2 : ∀ k, k ≠ 25 → k ≠ 24 → k ≠ 23 → (mA2 p v τ) k = τ k := fun k _ h24 h23 => by unfold mA2 mA1; rw [mS_ne h23, mS_ne h24]
  have a23 : (mA2 p v τ) 23 = upd (τ 23) p (τ 23 p + nI 1) := by unfold mA2 mA1; rw [mS_at, mS_ne (by decide)]
  unfold mIsAt
  split
  · exact fin _ _ a2 a23 (by decide)
  · split
    · exact fin _ _ a2 a23 (by decide)
    · rename_i hl
      have hf : 0 < f := by
        rcases Nat.eq_zero_or_pos f with h0 | h0
        · exfalso; apply hl
          rw [a2 18 (by decide) (by decide) (by decide), e18, h0]; rfl
        · exact h0
      have b2 : ∀ k, k ≠ 25 → k ≠ 24 → k ≠ 23 → (mMeas v (τ 17 p).toNatClampNeg (mA2 p v τ)) k = τ k := fun k h25 h24 h23 => by rw [mMeas_k h25]; exact a2 k h25 h24 h23
      have b23 : (mMeas v (τ 17 p).toNatClampNeg (mA2 p v τ)) 23 = upd (τ 23) p (τ 23 p + nI 1) := by rw [mMeas_k (by decide)]; exact a23
      unfold mAH
      split
      · exact fin _ _ b2 b23 (by decide)
      · rename_i hh
        obtain ⟨j, hj, ej⟩ := mHop_of hh
        split
        · generalize hB : mMeas v (τ 17 p).toNatClampNeg (mA2 p v τ) = B at *
          generalize hH : mHop v (τ 17 p).toNatClampNeg (mA2 p v τ) = hop at *
          unfold mA3
          refine mIx_upd h hp ?_ ?_ ?_ ?_ ?_ ?_
          · rw [mS_ne (by decide), mS_ne (by decide), mS_ne (by decide), mS_ne (by decide), b2 0 (by decide) (by decide) (by decide)]
          · rw [mS_ne (by decide), mS_ne (by decide), mS_ne (by decide), mS_ne (by decide), b2 6 (by decide) (by decide) (by decide)]
          · rw [mS_ne (by decide), mS_ne (by decide), mS_ne (by decide), mS_ne (by decide), b2 11 (by decide) (by decide) (by decide)]
          · rw [mS_ne (by decide), mS_ne (by decide), mS_ne (by decide), mS_ne (by decide), b2 15 (by decide) (by decide) (by decide)]
          · intro q hq
            refine ⟨?_, ?_, ?_, ?_, ?_⟩
            · rw [mS_ne (by decide), mS_ne (by decide), mS_ne (by decide), mS_ne (by decide), b2 17 (by decide) (by decide) (by decide)]
            · rw [mS_ne (by decide), mS_ne (by decide), mS_ne (by decide), mS_at, pk_un hq, b2 18 (by decide) (by decide) (by decide)]
            · rw [mS_ne (by decide), mS_ne (by decide), mS_ne (by decide), mS_ne (by decide), b2 19 (by decide) (by decide) (by decide)]
            · rw [mS_ne (by decide), mS_at, pk_un hq, mS_ne (by decide), mS_ne (by decide), b2 21 (by decide) (by decide) (by decide)]
            · rw [mS_ne (by decide), mS_ne (by decide), mS_ne (by decide), mS_ne (by decide), b23, pk_un hq]
          · refine ⟨g, n + 1, hg, by omega, ?_, ?_, fun _ => ⟨j, f - 1, hj, ?_, ?_, by omega⟩⟩
            · rw [mS_ne (by decide), mS_ne (by decide), mS_ne (by decide), mS_ne (by decide), b2 17 (by decide) (by decide) (by decide)]; exact e17
            · rw [mS_ne (by decide), mS_ne (by decide), mS_ne (by decide), mS_ne (by decide), b23, pk_us]; exact hn1
            · rw [mS_ne (by decide), mS_at, pk_us]; exact ej
            · rw [mS_ne (by decide), mS_ne (by decide), mS_ne (by decide), mS_at, pk_us, b2 18 (by decide) (by decide) (by decide), e18]
              exact pk_sub (by omega)
        · exact fin _ _ b2 b23 (by decide)
theorem sendG_of {x y z : Int32} (h : mSendG x y z = true) : ∃ u v f : Nat, u < 8 ∧ v < 8 ∧ f ≤ 30 ∧ x = nI u ∧ y = nI v ∧ z = nI f ∧ ∀ σ, sendC x y z σ = if σ.1 1 u = 0 then 2 else if σ.1 0 1 < nI 20 then 0 else 2 := by
  unfold mSendG at h
  by_cases hx : isN x = true
  · by_cases hy : isN y = true
    · rw [if_pos hx, if_pos hy] at h
      by_cases hz : inR z (nI 0) (nI 30) = true
      · obtain ⟨u, hu, eu⟩ := isN_of hx
        obtain ⟨v, hv, ev⟩ := isN_of hy
        obtain ⟨f, -, hf, ef⟩ := inR_of (by decide) (by decide) hz
        refine ⟨u, v, f, hu, hv, hf, eu, ev, ef, fun σ => ?_⟩
        unfold sendC
        rw [if_pos hx, if_pos hy, if_neg (by rw [ef]; intro q; have := tlt.mp q; rw [tn (by omega), t0] at this; omega), if_pos (by rw [ef]; exact (nI_leI (by omega) (by omega)).mpr hf), eu, cl8 hu]
      · rw [if_neg hz] at h; cases h
    · rw [if_pos hx, if_neg hy] at h; cases h
  · rw [if_neg hx] at h; cases h
theorem sendG_no {x y z : Int32} {σ : CS} (h : ¬ mSendG x y z = true) : sendC x y z σ = 1 := by
  unfold mSendG at h
  unfold sendC
  by_cases hx : isN x = true
  · by_cases hy : isN y = true
    · rw [if_pos hx, if_pos hy] at h ⊢
      by_cases z1 : z < 0
      · rw [if_pos z1]
      · rw [if_neg z1]
        by_cases z2 : z ≤ nI 30
        · exfalso
          apply h
          have hz : inR z (nI 0) (nI 30) = true := by
            unfold inR
            rw [nI0, if_neg z1, if_neg (fun q => by have := tlt.mp q; have := tle.mp z2; omega)]
          rw [if_pos hz]
        · rw [if_neg z2]
    · rw [if_pos hx, if_neg hy]
  · rw [if_neg hx]
theorem the_send : lrSend Rr := by
  intro k P σ τ x y z hk hR
  have hR0 := hR
  obtain ⟨I, J, G, M, hM, R⟩ := hR
  by_cases hg : mSendG x y z = true
  · obtain ⟨u, v, f, hu, hv, hf, ex, ey, ez, eC⟩ := sendG_of hg
    have eC := eC σ
    rw [R.1.2.1 u hu, I.2.1] at eC
    have hP20 := I.1
    by_cases h2 : τ 2 u = 0
    · rw [if_pos h2] at eC
      have eM : mSend P x y z τ = mGoes true false τ := by unfold mSend; rw [if_pos hg, ex, cl8 hu, if_pos h2]
      rw [eM, goes_00, eC]
      exact ⟨rfl, fun q => by omega, Rr_goes hR0⟩
    · rw [if_neg h2] at eC
      by_cases hP : 20 ≤ P
      · rw [if_neg (fun q => by have := (nI_ltI (by omega) (by omega)).mp q; omega)] at eC
        have eM : mSend P x y z τ = mGoes true false τ := by unfold mSend; rw [if_pos hg, ex, cl8 hu, if_neg h2, if_pos hP]
        rw [eM, goes_00, eC]
        exact ⟨rfl, fun q => by omega, Rr_goes hR0⟩
      · rw [if_pos ((nI_ltI (by omega) (by omega)).mpr (by omega))] at eC
        have eM : mSend P x y z τ = mIsAt P u (mSn1 P v z (mGoes true true τ)) := by unfold mSend; rw [if_pos hg, ex, ey, cl8 hu, cl8 hv, if_neg h2, if_neg hP]
        have eL : cSend P x y z σ = cHandle P u (send1 P y z σ) := by unfold cSend; rw [ex, cl8 hu]
        have eR : mSendR P x y z τ = nI P := by unfold mSendR; rw [if_pos hg, ex, cl8 hu, if_neg h2, if_neg hP]
        have mk : ∀ k, k ≠ 0 → k ≠ 17 → k ≠ 18 → (mSn1 P v z (mGoes true true τ)) k = τ k := fun k a b c => by unfold mSn1 mGoes; rw [mS_ne c, mS_ne b, mS_ne a, mS_ne a]
        have m00 : (mSn1 P v z (mGoes true true τ)) 0 0 = nI 0 := rfl
        have m01 : (mSn1 P v z (mGoes true true τ)) 0 1 = τ 0 1 := rfl
        have m04 : (mSn1 P v z (mGoes true true τ)) 0 4 = τ 0 4 := rfl
        have m016 : (mSn1 P v z (mGoes true true τ)) 0 16 = nI (P + 1) := rfl
        have m17 : (mSn1 P v z (mGoes true true τ)) 17 = upd (τ 17) P (nI v) := rfl
        have m18 : (mSn1 P v z (mGoes true true τ)) 18 = upd (τ 18) P z := rfl
        have clo : ∀ k, k ≠ 0 → k < 12 → (send1 P y z σ).1 k = σ.1 k := fun k a b => by unfold send1; rw [sI_k a, newPk_lo b]
        have c0 : ∀ i, i ≠ 1 → (send1 P y z σ).1 0 i = σ.1 0 i := fun i hi => by unfold send1; rw [sI_at, pk_un hi, newPk_lo (by omega)]
        have chi : ∀ k, 12 ≤ k → (send1 P y z σ).1 k = (newPk P y z σ).1 k := fun k a => by unfold send1; rw [sI_k (by omega)]
        have R1 : Rel M 600 (send1 P y z σ) (mSn1 P v z (mGoes true true τ)) := rel_cong R c0 (fun k a b => clo k (by omega) (by omega)) rfl m01 m04 (fun k a b => mk k (by omega) (by omega) (by omega))
        have oc : oC P σ (send1 P y z σ) := ⟨fun k a b q hq => by rw [chi k a, newPk_mid (by omega) hq], fun q hq => by rw [chi _ (by omega), newPk_tr hq]⟩
        have om : oM P τ (mSn1 P v z (mGoes true true τ)) := ⟨fun k a b q hq => by
          by_cases e : k = 17
          · rw [e, m17, pk_un hq]
          · by_cases e2 : k = 18
            · rw [e2, m18, pk_un hq]
            · rw [mk k (by omega) e e2], fun q i _ _ => by rw [mk 24 (by omega) (by omega) (by omega)]⟩
        obtain ⟨un1, un2⟩ := J.2.2.1.2 P (Nat.le_refl _)
        have e17 : (mSn1 P v z (mGoes true true τ)) 17 P = nI v := by rw [m17, pk_us]
        have e18 : (mSn1 P v z (mGoes true true τ)) 18 P = nI f := by rw [m18, pk_us, ez]
        have e19 : (mSn1 P v z (mGoes true true τ)) 19 P = 0 := by rw [mk 19 (by omega) (by omega) (by omega)]; exact un1
        have e23 : (mSn1 P v z (mGoes true true τ)) 23 P = nI 0 := by rw [mk 23 (by omega) (by omega) (by omega)]; exact un2
        have n23 : ∀ q, q < P + 1 → q ≠ P → gPr q (send1 P y z σ) (mSn1 P v z (mGoes true true τ)) ∧ ((mSn1 P v z (mGoes true true τ)) 23 q).toNatClampNeg ≤ 40 := fun q hq hne => by
          have hn := mI_n J (show q < P by omega)
          exact ⟨gPr_o (G q (by omega)) oc om hne hn, by rw [mk 23 (by omega) (by omega) (by omega)]; exact hn⟩
        have H := pk_handle (P := P + 1) (r := P) (v := u) (n := 0) (g := v) R1 (fun j => by rw [mk 11 (by omega) (by omega) (by omega)]; exact J.2.2.2.2.1 j) hu hv n23
          (by rw [chi 12 (by omega), newPk_at (by omega) (by omega), if_pos rfl, e17, ey]) e17
          (by rw [chi 14 (by omega), newPk_at (by omega) (by omega), if_neg (by omega), if_pos rfl, e18, ez])
          (by rw [chi 15 (by omega), newPk_at (by omega) (by omega), if_neg (by omega), if_neg (by omega), e19]) e19
          (by rw [chi 13 (by omega), newPk_at (by omega) (by omega), if_neg (by omega), if_neg (by omega), nI0]) e23 (fun i hi => by omega) (by omega)
        have JX : mIx (P + 1) P (mSn1 P v z (mGoes true true τ)) := by
          refine ⟨by omega, m016, ⟨fun q hq hne => ?_, fun q hq => ?_⟩, ?_, ?_, ?_⟩
          · rw [m17, m18, pk_un hne, pk_un hne, mk 19 (by omega) (by omega) (by omega), mk 21 (by omega) (by omega) (by omega), mk 23 (by omega) (by omega) (by omega)]
            exact J.2.2.1.1 q (by omega)
          · rw [mk 19 (by omega) (by omega) (by omega), mk 23 (by omega) (by omega) (by omega)]
            exact J.2.2.1.2 q (by omega)
          · rw [mk 6 (by omega) (by omega) (by omega)]; exact J.2.2.2.1
          · rw [mk 11 (by omega) (by omega) (by omega)]; exact J.2.2.2.2.1
          · rw [mk 15 (by omega) (by omega) (by omega)]; exact J.2.2.2.2.2
        have J1 : mI (P + 1) (mIsAt P u (mSn1 P v z (mGoes true true τ))) := mIsAt_x JX (by omega) hv e17 ⟨0, f, e23, e18, by omega⟩
        have I1 : cI (P + 1) (cHandle P u (send1 P y z σ)) := cHandle_I (send1_I I (by omega) hv ey) (by omega)
        rw [if_pos eC, if_pos eC, eM, eL, eR, isAt_lo (by omega), m00, eC]
        exact ⟨rfl, fun _ => rfl, Rr_of I1 J1 H.2 H.1 (by omega)⟩
  · have eC := sendG_no (σ := σ) hg
    have eM : mSend P x y z τ = mGoes false false τ := by unfold mSend; rw [if_neg hg]
    rw [eM, goes_00, eC]
    exact ⟨rfl, fun q => by omega, Rr_goes hR0⟩
