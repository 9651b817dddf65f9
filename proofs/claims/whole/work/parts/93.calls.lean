/-! THE RELATION OVER THE CALLS -/
def Rr (k P : Nat) (σ : CS) (τ : MS) : Prop := cI P σ ∧ mI P τ ∧ gP P σ τ ∧ ∃ M : Int, M ≤ 26100 * k ∧ Rel M 600 σ τ
theorem Rr_of {k P : Nat} {M : Int} {σ : CS} {τ : MS} (I : cI P σ) (J : mI P τ) (G : gP P σ τ) (R : Rel M 600 σ τ) (hM : M ≤ 26100 * k + 26100) : Rr (k + 1) P σ τ := ⟨I, J, G, M, by omega, R⟩
theorem goes_00 {p q : Bool} {τ : MS} : (mGoes p q τ) 0 0 = thr p q := by unfold mGoes; rw [mS_at, pk_us]
theorem Rr_goes {k P : Nat} {p q : Bool} {σ : CS} {τ : MS} (h : Rr k P σ τ) : Rr (k + 1) P σ (mGoes p q τ) := by
  obtain ⟨I, J, G, M, hM, R⟩ := h
  exact Rr_of I (mGoes_I J) (gP_keep G keep.r (mKp_S (by omega))) (rel_00 R) (by omega)
theorem Rr_T0 {k P : Nat} {σ : CS} {τ : MS} (h : Rr k P σ τ) : Rr (k + 1) P σ (mT0 τ) := by
  obtain ⟨I, J, G, M, hM, R⟩ := h
  exact Rr_of I (mI_0 J (by decide)) (gP_keep G keep.r (mKp_S (by omega))) (rel_00 R) (by omega)
theorem has_eq {M : Int} {x y : Int32} {σ : CS} {τ : MS} (T : gT M σ τ) : hasL σ x y = mHas τ x y := by
  unfold hasL mHas
  by_cases hx : isN x = true
  · by_cases hy : isN y = true
    · obtain ⟨u, hu, rfl⟩ := isN_of hx
      obtain ⟨v, hv, rfl⟩ := isN_of hy
      rw [if_pos hx, if_pos hx, if_pos hy, if_pos hy, cl8 hu, cl8 hv, show u * 8 + v = 8 * u + v by omega]
      obtain ⟨q1, -, -, q4, -, q6⟩ := T.2.2.1 (8 * u + v) (by omega)
      rw [q1]
      by_cases h : τ 5 (8 * u + v) = 0
      · rw [if_pos h, if_pos (by rw [q4.mp h]; exact tle.mpr (Int.le_refl _))]
      · rw [if_neg h, if_neg]
        intro q
        exact h (q4.mpr (te0.mpr (by have := tle.mp q; have := q6.1; rw [t0] at *; omega)))
    · rw [if_pos hx, if_pos hx, if_neg hy, if_neg hy]
  · rw [if_neg hx, if_neg hx]
theorem up_0 {u v : Nat} {τ : MS} : (mUp u v τ) 0 = τ 0 := by
  have h1 : (mU1 u v τ) 0 = τ 0 := by unfold mU1; rw [mS_ne (by decide), mS_ne (by decide)]
  have h2 : ∀ a b t, (mU2 a b t) 0 = t 0 := fun a b t => by
    unfold mU2
    rw [mSendAll_k (by decide) (by decide) (by decide) (by decide), mSendAll_k (by decide) (by decide) (by decide) (by decide), mTell_k (by decide) (by decide) (by decide) (by decide) (by decide) (by decide) (by decide) (by decide), mTell_k (by decide) (by decide) (by decide) (by decide) (by decide) (by decide) (by decide) (by decide)]
  unfold mUp
  split
  · exact h1
  · split
    · exact h1
    · split
      · rw [h2]; exact h1
      · rw [h2]; exact h1
/-- link -/
theorem linkG_of {x y z w : Int32} (h : mLinkG x y z w = true) : ∃ u v : Nat, u < 8 ∧ v < 8 ∧ u ≠ v ∧ x = nI u ∧ y = nI v ∧ (0 < z.toInt ∧ z.toInt ≤ 50) ∧ ∀ σ, linkC x y z w σ = if hasL σ x y = true then 2 else if σ.1 0 0 < nI 12 then 0 else 2 := by
  have e1 : (nI 1).toInt = 1 := by decide
  have e8 : (nI 8).toInt = 8 := by decide
  have e50 : (nI 50).toInt = 50 := by decide
  unfold mLinkG at h
  by_cases hx : isN x = true
  · by_cases hy : isN y = true
    · rw [if_pos hx, if_pos hy] at h
      by_cases he : x.toNatClampNeg = y.toNatClampNeg
      · rw [if_pos he] at h; cases h
      · rw [if_neg he] at h
        by_cases hz : inR z (nI 1) (nI 50) = true
        · rw [if_pos hz] at h
          by_cases hw : inR w (nI 1) (nI 8) = true
          · unfold inR at hz hw
            have z1 : ¬ z < nI 1 := fun q => by rw [if_pos q] at hz; cases hz
            rw [if_neg z1] at hz
            have z2 : ¬ nI 50 < z := fun q => by rw [if_pos q] at hz; cases hz
            have w1 : ¬ w < nI 1 := fun q => by rw [if_pos q] at hw; cases hw
            rw [if_neg w1] at hw
            have w2 : ¬ nI 8 < w := fun q => by rw [if_pos q] at hw; cases hw
            have w3 : w ≤ nI 8 := tle.mpr (by have : ¬ (nI 8).toInt < w.toInt := fun q => w2 (tlt.mpr q); omega)
            obtain ⟨u, hu, eu⟩ := isN_of hx
            obtain ⟨v, hv, ev⟩ := isN_of hy
            refine ⟨u, v, hu, hv, ?_, eu, ev, ?_, fun σ => ?_⟩
            · intro q; apply he; rw [eu, ev, q]
            · have a : ¬ z.toInt < (nI 1).toInt := fun q => z1 (tlt.mpr q)
              have b : ¬ (nI 50).toInt < z.toInt := fun q => z2 (tlt.mpr q)
              omega
            · unfold linkC
              rw [if_pos hx, if_pos hy, if_neg he, if_neg z1, if_neg z2, if_neg w1, if_pos w3]
          · rw [if_neg hw] at h; cases h
        · rw [if_neg hz] at h; cases h
    · rw [if_pos hx, if_neg hy] at h; cases h
  · rw [if_neg hx] at h; cases h
theorem linkG_no {x y z w : Int32} {σ : CS} (h : ¬ mLinkG x y z w = true) : linkC x y z w σ = 1 := by
  unfold mLinkG at h
  unfold linkC
  by_cases hx : isN x = true
  · by_cases hy : isN y = true
    · rw [if_pos hx, if_pos hy] at h ⊢
      by_cases he : x.toNatClampNeg = y.toNatClampNeg
      · rw [if_pos he]
      · rw [if_neg he] at h ⊢
        by_cases z1 : z < nI 1
        · rw [if_pos z1]
        · rw [if_neg z1]
          by_cases z2 : nI 50 < z
          · rw [if_pos z2]
          · rw [if_neg z2]
            have hz : inR z (nI 1) (nI 50) = true := by unfold inR; rw [if_neg z1, if_neg z2]
            rw [if_pos hz] at h
            by_cases w1 : w < nI 1
            · rw [if_pos w1]
            · rw [if_neg w1]
              by_cases w2 : w ≤ nI 8
              · exfalso
                apply h
                have hw : inR w (nI 1) (nI 8) = true := by
                  unfold inR
                  rw [if_neg w1, if_neg (fun q => by have := tlt.mp q; have := tle.mp w2; omega)]
                rw [if_pos hw]
              · rw [if_neg w2]
    · rw [if_pos hx, if_neg hy]
  · rw [if_neg hx]
theorem link1_keep {u v : Nat} {z w : Int32} {σ : CS} : keep σ (link1 u v z w σ) := (cPutLink_keep.t cPutLink_keep).t (keep_sI (by decide) (Or.inr (by decide)))
theorem mL1_I {P u v : Nat} {z w : Int32} {τ : MS} (h : mI P τ) (hz : r50 z) : mI P (mL1 u v z w τ) := by
  unfold mL1
  exact mI_S (mI_S (mI_6 (mI_6 (mI_S (mI_S (mI_0 h (by decide)) (by omega)) (by omega)) hz) hz) (by omega)) (by omega)
theorem the_link : lrLink Rr := by
  intro k P σ τ x y z w hk hR
  have hR0 := hR
  obtain ⟨I, J, G, M, hM, R⟩ := hR
  by_cases hg : mLinkG x y z w = true
  · obtain ⟨u, v, hu, hv, huv, ex, ey, hz, eC⟩ := linkG_of hg
    have hh : hasL σ x y = true ↔ ¬ τ 5 (8 * u + v) = 0 := by
      rw [has_eq R.1]
      constructor
      · intro q
        obtain ⟨a, ha, b, hb, e1, e2, e3⟩ := mHas_of q
        rw [ex] at e1; rw [ey] at e2
        rw [nI_inj (by omega) (by omega) e1, nI_inj (by omega) (by omega) e2]; exact e3
      · intro q
        unfold mHas
        rw [ex, ey, cl8 hu, cl8 hv]
        have h1 : isN (nI u) = true := by
          unfold isN
          rw [if_neg (fun q => by have := tlt.mp q; rw [t0, tn (by omega)] at this; omega), if_neg (fun q => by have := (nI_leI (by omega) (by omega)).mp q; omega)]
        have h2 : isN (nI v) = true := by
          unfold isN
          rw [if_neg (fun q => by have := tlt.mp q; rw [t0, tn (by omega)] at this; omega), if_neg (fun q => by have := (nI_leI (by omega) (by omega)).mp q; omega)]
        rw [if_pos h1, if_pos h2, if_neg q]
    have eM : mLink x y z w τ = mLinkB u v z w τ := by unfold mLink; rw [if_pos hg, ex, ey, cl8 hu, cl8 hv]
    have eC := eC σ
    by_cases h5 : τ 5 (8 * u + v) = 0
    · rw [if_neg (fun q => hh.mp q h5)] at eC
      by_cases h12 : nI 12 ≤ τ 0 4
      · rw [if_neg (by rw [R.1.1.2.2.2]; intro q; have := tlt.mp q; have := tle.mp h12; omega)] at eC
        have eB : mLinkB u v z w τ = mGoes true false τ := by unfold mLinkB; rw [if_pos h5, if_pos h12]
        have eL : cLink x y z w σ = σ := by unfold cLink; rw [if_neg (by omega)]
        rw [eM, eB, goes_00, eC, eL]
        exact ⟨rfl, fun q => by omega, Rr_goes hR0⟩
      · rw [if_pos (by rw [R.1.1.2.2.2]; apply tlt.mpr; have : ¬ (nI 12).toInt ≤ (τ 0 4).toInt := fun q => h12 (tle.mpr q); omega)] at eC
        have eB : mLinkB u v z w τ = mUp u v (mL1 u v z w (mGoes true true τ)) := by unfold mLinkB; rw [if_pos h5, if_neg h12]
        have eL : cLink x y z w σ = cUp u v (link1 u v z w σ) := by unfold cLink; rw [if_pos eC, ex, ey, cl8 hu, cl8 hv]
        have e00 : (mL1 u v z w (mGoes true true τ)) 0 0 = nI 0 := rfl
        have R1 : Rel M 600 (link1 u v z w σ) (mL1 u v z w (mGoes true true τ)) := rel_lay (rel_00 R) hu hv huv hz h5
        have h5' : (mL1 u v z w (mGoes true true τ)) 5 (8 * u + v) ≠ 0 := by
          show upd (upd (τ 5) (8 * u + v) (nI 1)) (8 * v + u) (nI 1) (8 * u + v) ≠ 0
          rw [pk_un (by omega), pk_us]; decide
        have R2 := rel_up R1 hu hv (by omega) h5'
        have eR : (cLink x y z w σ).1 0 0 = (mLink x y z w τ) 0 4 := by rw [eL, eM, eB]; exact R2.1.1.2.2.2
        refine ⟨?_, fun _ => ?_, ?_⟩
        · rw [eM, eB, up_0, e00, eC]
        · unfold cLinkR mLinkR
          rw [if_pos hg, ex, ey, cl8 hu, cl8 hv, if_pos h5, if_neg h12, ← ex, ← ey]
          exact eR
        · rw [eL, eM, eB]
          exact Rr_of (cI_keep I (link1_keep.t cUp_keep)) (mUp_I (mL1_I (mGoes_I J) ⟨by omega, hz.2⟩)) (gP_keep G (link1_keep.t cUp_keep) (((mKp_S (by omega)).t ((mKp_S (by omega)).t ((mKp_S (by omega)).t ((mKp_S (by omega)).t ((mKp_S (by omega)).t ((mKp_S (by omega)).t ((mKp_S (by omega)).t (mKp_S (by omega))))))))).t mKp_up)) R2 (by omega)
    · rw [if_pos (hh.mpr h5)] at eC
      have eB : mLinkB u v z w τ = mGoes true false τ := by unfold mLinkB; rw [if_neg h5]
      have eL : cLink x y z w σ = σ := by unfold cLink; rw [if_neg (by omega)]
      rw [eM, eB, goes_00, eC, eL]
      exact ⟨rfl, fun q => by omega, Rr_goes hR0⟩
  · have eC := linkG_no (σ := σ) hg
    have eM : mLink x y z w τ = mGoes false false τ := by unfold mLink; rw [if_neg hg]
    have eL : cLink x y z w σ = σ := by unfold cLink; rw [if_neg (by omega)]
    rw [eM, goes_00, eC, eL]
    exact ⟨rfl, fun q => by omega, Rr_goes hR0⟩
/-- fail, restore -/
theorem fa_0 {P u v : Nat} {τ : MS} : (mFa2 P u v τ) 0 0 = nI 0 := by
  have h1 : (mFa1 u v τ) 0 0 = nI 0 := rfl
  have h2 : ∀ a t, (mTell a t) 0 = t 0 := fun a t => mTell_k (by decide) (by decide) (by decide) (by decide) (by decide) (by decide) (by decide) (by decide)
  have h3 : ∀ t, (mCut P u v t) 0 = t 0 := fun t => mCut_k (by decide) (by decide)
  unfold mFa2
  split
  · exact h1
  · split
    · exact h1
    · split
      · rw [h2, h2, h3]; exact h1
      · rw [h2, h2, h3]; exact h1
theorem mFa2_I {P u v : Nat} {τ : MS} (h : mI P τ) : mI P (mFa2 P u v τ) := by
  have h1 : mI P (mFa1 u v τ) := mI_S (mI_S (mGoes_I h) (by omega)) (by omega)
  unfold mFa2
  split
  · exact h1
  · split
    · exact h1
    · split
      · exact mTell_I (mTell_I (mCut_I h1))
      · exact mTell_I (mTell_I (mCut_I h1))
theorem cDown_I {P u v : Nat} {σ : CS} (h : cI P σ) : cI P (cDown P u v σ) := by
  have h1 : cI P (down1 u v σ) := cI_keep h ((keep_sI (by decide) (Or.inl (by decide))).t (keep_sI (by decide) (Or.inl (by decide))))
  unfold cDown
  split
  · exact cI_keep (cEmpty_I h1) (cTell_keep.t cTell_keep)
  · exact h1
theorem the_fail : lrFail Rr := by
  intro k P σ τ x y hk hR
  have hR0 := hR
  obtain ⟨I, J, G, M, hM, R⟩ := hR
  have hh := has_eq (x := x) (y := y) R.1
  by_cases h : mHas τ x y = true
  · have eC : failC x y σ = 0 := by unfold failC; rw [hh, if_pos h]
    obtain ⟨u, hu, v, hv, rfl, rfl, h5⟩ := mHas_of h
    have e5 : σ.1 5 (u * 8 + v) = τ 8 (8 * u + v) := by rw [show u * 8 + v = 8 * u + v by omega]; exact (R.1.2.2.1 (8 * u + v) (by omega)).2.2.1
    have e8 : (mGoes true true τ) 8 = τ 8 := rfl
    unfold cFail mFail cFailR mFailR
    rw [if_pos eC, if_pos h, if_pos h, cl8 hu, cl8 hv, e5, e8, eC]
    by_cases h8 : τ 8 (8 * u + v) = 0
    · rw [if_pos h8, if_pos h8, if_pos h8, goes_00]
      exact ⟨rfl, fun _ => rfl, Rr_goes hR0⟩
    · rw [if_neg h8, if_neg h8, if_neg h8, fa_0]
      exact ⟨rfl, fun _ => rfl, Rr_of (cDown_I I) (mFa2_I J) (gP_down G I.1 ⟨M, R.1⟩ hu hv h8) (rel_down R hu hv (by omega) h8) (by omega)⟩
  · have eC : failC x y σ = 1 := by unfold failC; rw [hh, if_neg h]
    unfold cFail mFail
    rw [if_neg (show ¬ failC x y σ = 0 by omega), if_neg h, goes_00, eC]
    exact ⟨rfl, fun q => by omega, Rr_goes hR0⟩
theorem the_rest : lrRest Rr := by
  intro k P σ τ x y hk hR
  have hR0 := hR
  obtain ⟨I, J, G, M, hM, R⟩ := hR
  have hh := has_eq (x := x) (y := y) R.1
  by_cases h : mHas τ x y = true
  · have eC : failC x y σ = 0 := by unfold failC; rw [hh, if_pos h]
    obtain ⟨u, hu, v, hv, rfl, rfl, h5⟩ := mHas_of h
    have e5 : σ.1 5 (u * 8 + v) = τ 8 (8 * u + v) := by rw [show u * 8 + v = 8 * u + v by omega]; exact (R.1.2.2.1 (8 * u + v) (by omega)).2.2.1
    have e8 : (mGoes true true τ) 8 = τ 8 := rfl
    unfold cRest mRest cRestR mRestR
    rw [if_pos eC, if_pos h, if_pos h, cl8 hu, cl8 hv, e5, e8, eC]
    by_cases h8 : τ 8 (8 * u + v) = 0
    · rw [if_pos h8, if_pos h8, if_pos h8, up_0, goes_00]
      exact ⟨rfl, fun _ => rfl, Rr_of (cI_keep I cUp_keep) (mUp_I (mGoes_I J)) (gP_keep G cUp_keep ((mKp_S (by omega)).t mKp_up)) (rel_up (rel_00 R) hu hv (by omega) h5) (by omega)⟩
    · rw [if_neg h8, if_neg h8, if_neg h8, goes_00]
      exact ⟨rfl, fun _ => rfl, Rr_goes hR0⟩
  · have eC : failC x y σ = 1 := by unfold failC; rw [hh, if_neg h]
    unfold cRest mRest
    rw [if_neg (show ¬ failC x y σ = 0 by omega), if_neg h, goes_00, eC]
    exact ⟨rfl, fun q => by omega, Rr_goes hR0⟩
/-- start, crash -/
theorem st_0 {u : Nat} {τ : MS} : (mStB u τ) 0 = τ 0 := by
  have h2 : ∀ a t, (mTell a t) 0 = t 0 := fun a t => mTell_k (by decide) (by decide) (by decide) (by decide) (by decide) (by decide) (by decide) (by decide)
  unfold mStB
  rw [itr_k (f := fSt2 u) (fun i t => by unfold fSt2; split; exact mSendAll_k (by decide) (by decide) (by decide) (by decide); rfl), h2, itr_k (f := fSt1 u) (fun i t => by unfold fSt1; split; exact h2 _ _; rfl)]
  unfold mSt0
  rw [mS_ne (by decide), mForget_k (by decide) (by decide)]
theorem mStB_I {P u : Nat} {τ : MS} (h : mI P τ) : mI P (mStB u τ) := by
  unfold mStB
  refine itr_inv (P := mI P) (fun i s hs => ?_) 8 0 _ (mTell_I (itr_inv (P := mI P) (fun i s hs => ?_) 8 0 _ (mI_S (mForget_I h) (by omega))))
  · unfold fSt2; split
    · exact mSendAll_I hs
    · exact hs
  · unfold fSt1; split
    · exact mTell_I hs
    · exact hs
theorem the_start : lrStart Rr := by
  intro k P σ τ x hk hR
  have hR0 := hR
  obtain ⟨I, J, G, M, hM, R⟩ := hR
  by_cases h : isN x = true
  · have eC : nodeC x = 0 := by unfold nodeC; rw [if_pos h]
    obtain ⟨u, hu, rfl⟩ := isN_of h
    have e2 : (mGoes true true τ) 2 = τ 2 := rfl
    unfold cStart mStart cStartR mStartR
    rw [if_pos eC, if_pos h, if_pos h, cl8 hu, R.1.2.1 u hu, e2, eC]
    by_cases h2 : τ 2 u = 0
    · rw [if_pos h2, if_pos h2, if_pos h2, st_0, goes_00]
      exact ⟨rfl, fun _ => rfl, Rr_of (cI_keep I keep_start) (mStB_I (mGoes_I J)) (gP_keep G keep_start ((mKp_S (by omega)).t mKp_start)) (rel_start (rel_00 R) hu h2 (by omega)) (by omega)⟩
    · rw [if_neg h2, if_neg h2, if_neg h2, goes_00]
      exact ⟨rfl, fun _ => rfl, Rr_goes hR0⟩
  · have eC : nodeC x = 1 := by unfold nodeC; rw [if_neg h]
    unfold cStart mStart
    rw [if_neg (show ¬ nodeC x = 0 by omega), if_neg h, goes_00, eC]
    exact ⟨rfl, fun q => by omega, Rr_goes hR0⟩
theorem cr_0 {P u : Nat} {τ : MS} : (mCrB P u τ) 0 = τ 0 := by
  unfold mCrB
  rw [itr_k (f := fCr3 (itr (fCr1 τ u) 8 0 (nI 0))) (fun i t => by unfold fCr3; split; exact mTell_k (by decide) (by decide) (by decide) (by decide) (by decide) (by decide) (by decide) (by decide); rfl), itr_k (f := fCr2 P u) (fun i t => mCut_k (by decide) (by decide)), mForget_k (by decide) (by decide), mS_ne (by decide)]
theorem mCrB_I {P u : Nat} {τ : MS} (h : mI P τ) : mI P (mCrB P u τ) := by
  unfold mCrB
  exact itr_inv (P := mI P) (fun i s hs => fCr3_I i hs) 8 0 _ (itr_inv (P := mI P) (fun i s hs => fCr2_I i hs) 8 0 _ (mForget_I (mI_S h (by omega))))
theorem the_crash : lrCrash Rr := by
  intro k P σ τ x hk hR
  have hR0 := hR
  obtain ⟨I, J, G, M, hM, R⟩ := hR
  by_cases h : isN x = true
  · have eC : nodeC x = 0 := by unfold nodeC; rw [if_pos h]
    obtain ⟨u, hu, rfl⟩ := isN_of h
    have e2 : (mGoes true true τ) 2 = τ 2 := rfl
    unfold cCrash mCrash cCrashR mCrashR
    rw [if_pos eC, if_pos h, if_pos h, cl8 hu, R.1.2.1 u hu, e2, eC]
    by_cases h2 : τ 2 u = 0
    · rw [if_pos h2, if_pos h2, if_pos h2, goes_00]
      exact ⟨rfl, fun _ => rfl, Rr_goes hR0⟩
    · rw [if_neg h2, if_neg h2, if_neg h2, cr_0, goes_00]
      obtain ⟨R1, G1⟩ := rel_crash (P := P) (u := u) (rel_00 (x := thr true true) R) (gP_keep G keep.r (mKp_S (by omega))) I.1 hu h2 (by omega)
      exact ⟨rfl, fun _ => rfl, Rr_of (cI_keep (itr_inv (P := cI P) (fun i s hs => fCrC_I i hs) 8 0 _ (cI_keep I (keep_sI (by decide) (Or.inl (by decide))))) cTellN_keep) (mCrB_I (mGoes_I J)) G1 R1 (by omega)⟩
  · have eC : nodeC x = 1 := by unfold nodeC; rw [if_neg h]
    unfold cCrash mCrash
    rw [if_neg (show ¬ nodeC x = 0 by omega), if_neg h, goes_00, eC]
    exact ⟨rfl, fun q => by omega, Rr_goes hR0⟩
