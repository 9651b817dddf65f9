/-! EMPTYING LINKS: X: rows known that the class hasn't forgotten yet; Q: rows in flight that aren't emptied yet -/
def Rlx (M : Int) (X Q : Nat → Prop) (σ : CS) (τ : MS) : Prop := gT M σ τ ∧ gN M σ τ ∧ gU τ ∧ gK M X σ τ ∧ gF M 600 σ τ ∧ (∀ j, j < 512 → τ 12 j ≠ 0 → mCarr τ (j / 64) (j / 8 % 8) = true ∨ Q j) ∧ gC σ
theorem rlx_to {M : Int} {X Q : Nat → Prop} {σ : CS} {τ : MS} (R : Rlx M X Q σ τ) (hX : ∀ j, j < 64 → ¬ X j) (hQ : ∀ j, j < 512 → ¬ Q j) : Rel M 600 σ τ := by
  obtain ⟨T, N, U, K, F, Ca, C⟩ := R
  exact ⟨T, N, U, fun j hj _ => K j hj (hX j hj), F, fun q => absurd q (by decide), fun j hj hz => (Ca j hj hz).resolve_right (hQ j hj), C⟩
theorem rlx_w {M : Int} {X X' Q Q' : Nat → Prop} {σ : CS} {τ : MS} (R : Rlx M X Q σ τ) (hX : ∀ j, j < 64 → X j → X' j) (hQ : ∀ j, j < 512 → Q j → Q' j) : Rlx M X' Q' σ τ := by
  obtain ⟨T, N, U, K, F, Ca, C⟩ := R
  exact ⟨T, N, U, fun j hj hx => K j hj (fun q => hx (hX j hj q)), F, fun j hj hz => (Ca j hj hz).imp id (hQ j hj), C⟩
theorem rlx_clr {M : Int} {X Q : Nat → Prop} {row : Nat} {σ : CS} {τ : MS} (R : Rlx M X Q σ τ) (hr : row < 512) : Rlx M X (fun j => Q j ∧ j ≠ row) (pClear 8 1 4 row σ) (mS 12 row (nI 0) τ) := by
  obtain ⟨T, N, U, K, F, Ca, C⟩ := R
  refine ⟨T.c (sT_C (Or.inr ⟨rfl, rfl⟩)) ⟨rfl, rfl, rfl, rfl, rfl, rfl, rfl⟩, gN_clrF N, U, gK_clrF K, gF_clr F, fun j hj hz => ?_, gC_clrF C hr⟩
  have hz : upd (τ 12) row (nI 0) j ≠ 0 := hz
  by_cases e : j = row
  · rw [e, pk_us] at hz; exact absurd nI0 hz
  · rw [pk_un e] at hz
    rw [mCarr_c (τ := τ) (τ' := mS 12 row (nI 0) τ) rfl rfl rfl]
    exact (Ca j hj hz).imp id (fun q => ⟨q, e⟩)
theorem rlx_em {M : Int} {X Q : Nat → Prop} {u v : Nat} {σ : CS} {τ : MS} (R : Rlx M X Q σ τ) (hu : u < 8) (hv : v < 8) : Rlx M X (fun j => Q j ∧ j / 8 ≠ 8 * u + v ∧ j / 8 ≠ 8 * v + u) (itr (fEm1 u v) 8 0 σ) (itr (fCut1 u v) 8 0 τ) := by
  have := itr_rel (f := fEm1 u v) (g := fCut1 u v) (fun i s t => Rlx M X (fun j => Q j ∧ ¬ ((j / 8 = 8 * u + v ∨ j / 8 = 8 * v + u) ∧ j % 8 < i)) s t) 0 σ τ (rlx_w R (fun _ _ h => h) (fun j _ h => ⟨h, by omega⟩)) 8 (fun i s t hi hR => by
    rw [Nat.zero_add]
    have h1 := rlx_clr (row := 64 * u + 8 * v + i) hR (by omega)
    have h2 := rlx_clr (row := 64 * v + 8 * u + i) h1 (by omega)
    unfold fEm1 fCut1
    rw [show (u * 8 + v) * 8 + i = 64 * u + 8 * v + i by omega, show (v * 8 + u) * 8 + i = 64 * v + 8 * u + i by omega]
    refine rlx_w h2 (fun _ _ h => h) (fun j hj h => ?_)
    obtain ⟨⟨⟨a, b⟩, c⟩, d⟩ := h
    refine ⟨a, ?_⟩
    rintro ⟨e1, e2⟩
    apply b
    refine ⟨e1, ?_⟩
    omega)
  exact rlx_w this (fun _ _ h => h) (fun j hj h => ⟨h.1, by have := h.2; omega, by have := h.2; omega⟩)
theorem fCut2_eq {u v i : Nat} {τ : MS} : fCut2 u v i τ = if τ 19 i = 0 ∧ onB τ u v i = true then mS 19 i (nI 3) τ else τ := by
  unfold fCut2
  by_cases h : τ 19 i = 0
  · rw [if_pos h]
    by_cases h2 : onB τ u v i = true
    · rw [if_pos h2, if_pos ⟨h, h2⟩]
    · rw [if_neg h2, if_neg (fun q => h2 q.2), mS_self]
  · rw [if_neg h, if_neg (fun q => h q.1), mS_self]
theorem fCut2_k {u v i k : Nat} {τ : MS} (h : k ≠ 19) : (fCut2 u v i τ) k = τ k := by
  rw [fCut2_eq]
  split
  · exact mS_ne h
  · rfl
theorem fEm2_k {P u v i k : Nat} {σ : CS} (h : k ≠ 15) : (fEm2 P u v i σ).1 k = σ.1 k := by
  unfold fEm2
  split
  · split
    · exact sI_k h
    · rfl
  · rfl
theorem fEm2_2 {P u v i : Nat} {σ : CS} : (fEm2 P u v i σ).2 = σ.2 := by
  unfold fEm2
  split
  · split
    · rfl
    · rfl
  · rfl
theorem fCut1_k {u v i k : Nat} {τ : MS} (h : k ≠ 12) : (fCut1 u v i τ) k = τ k := by
  unfold fCut1; rw [mS_ne h, mS_ne h]
theorem mCut_k {P u v k : Nat} {τ : MS} (h : k ≠ 12) (h2 : k ≠ 19) : (mCut P u v τ) k = τ k := by
  unfold mCut
  rw [itr_k (f := fCut2 u v) (fun i t => fCut2_k h2), itr_k (f := fCut1 u v) (fun i t => fCut1_k h)]
theorem rlx_pk {M : Int} {X Q : Nat → Prop} {σ σ' : CS} {τ τ' : MS} (R : Rlx M X Q σ τ) (hs : ∀ k, k < 11 → σ'.1 k = σ.1 k) (h2 : σ'.2 = σ.2) (ht : ∀ k, k < 16 → τ' k = τ k) : Rlx M X Q σ' τ' := by
  obtain ⟨T, N, U, K, F, Ca, C⟩ := R
  refine ⟨T.c ⟨by rw [hs 0 (by omega)], by rw [hs 0 (by omega)], hs 1 (by omega), hs 3 (by omega), hs 4 (by omega), hs 5 (by omega)⟩ ⟨by rw [ht 0 (by omega)], by rw [ht 0 (by omega)], ht 2 (by omega), ht 5 (by omega), ht 6 (by omega), ht 7 (by omega), ht 8 (by omega)⟩, ?_, ?_, ?_, ?_, ?_, ?_⟩
  · unfold gN; rw [hs 2 (by omega), ht 2 (by omega), ht 3 (by omega)]; exact N
  · unfold gU; rw [ht 2 (by omega), ht 9 (by omega)]; exact U
  · unfold gK; rw [hs 0 (by omega), hs 6 (by omega), hs 7 (by omega), h2, ht 9 (by omega), ht 10 (by omega), ht 11 (by omega)]; exact K
  · unfold gF; rw [hs 0 (by omega), hs 8 (by omega), hs 9 (by omega), hs 10 (by omega), h2, ht 12 (by omega), ht 13 (by omega), ht 14 (by omega), ht 15 (by omega)]; exact F
  · intro j hj hz
    rw [ht 12 (by omega)] at hz
    rw [mCarr_c (ht 5 (by omega)) (ht 8 (by omega)) (ht 2 (by omega))]
    exact Ca j hj hz
  · unfold gC; rw [hs 6 (by omega), hs 8 (by omega), hs 0 (by omega)]; exact C
theorem rlx_cut {M : Int} {X Q : Nat → Prop} {P u v : Nat} {σ : CS} {τ : MS} (R : Rlx M X Q σ τ) (hu : u < 8) (hv : v < 8) : Rlx M X (fun j => Q j ∧ j / 8 ≠ 8 * u + v ∧ j / 8 ≠ 8 * v + u) (cEmpty P u v σ) (mCut P u v τ) := by
  unfold cEmpty mCut
  refine rlx_pk (rlx_em R hu hv) (fun k hk => ?_) ?_ (fun k hk => ?_)
  · exact itr_inv (P := fun s : CS => s.1 k = (itr (fEm1 u v) 8 0 σ).1 k) (fun i s h => by rw [fEm2_k (by omega)]; exact h) 20 0 _ rfl
  · exact itr_inv (P := fun s : CS => s.2 = (itr (fEm1 u v) 8 0 σ).2) (fun i s h => by rw [fEm2_2]; exact h) 20 0 _ rfl
  · exact itr_k (fun i t => fCut2_k (by omega)) P 0 _
theorem isOn_eq {P u v p : Nat} {σ : CS} {τ : MS} (G : gP P σ τ) (hp : p < P) : (isOnB σ u v p = true) ↔ (τ 19 p = 0 ∧ onB τ u v p = true) := by
  obtain ⟨-, -, g3, -, -, g6⟩ := G p hp
  unfold isOnB
  rw [g3]
  by_cases h : τ 19 p = 0
  · rw [if_pos h]
    obtain ⟨e1, e2, -⟩ := g6 h
    unfold thB onB
    rw [e1, e2]
    by_cases a1 : τ 20 p = nI u <;> by_cases a2 : τ 21 p = nI v <;> by_cases a3 : τ 20 p = nI v <;> by_cases a4 : τ 21 p = nI u <;> simp [a1, a2, a3, a4, h]
  · rw [if_neg h]
    constructor
    · intro q; cases q
    · intro q; exact absurd q.1 h
theorem gP_cut1 {P u v p : Nat} {σ : CS} {τ : MS} (G : gP P σ τ) (hp : p < P) : gP P (fEm2 P u v p σ) (fCut2 u v p τ) := by
  unfold fEm2
  rw [fCut2_eq, if_pos hp]
  by_cases h : τ 19 p = 0 ∧ onB τ u v p = true
  · rw [if_pos ((isOn_eq G hp).mpr h), if_pos h]
    intro q hq
    obtain ⟨g1, g2, g3, g4, g5, g6⟩ := G q hq
    rw [sI_k (i := 12) (by omega), sI_k (i := 13) (by omega), sI_k (i := 14) (by omega), sI_k (i := 16) (by omega), sI_k (i := 17) (by omega), sI_k (i := 18) (by omega), sI_k (i := 19 + q) (by omega), mS_ne (i := 17) (by omega), mS_ne (i := 18) (by omega), mS_ne (i := 20) (by omega), mS_ne (i := 21) (by omega), mS_ne (i := 22) (by omega), mS_ne (i := 23) (by omega), mS_ne (i := 24) (by omega), sI_at, mS_at]
    by_cases e : q = p
    · rw [e, pk_us, pk_us]
      rw [e] at g1 g2 g3 g4 g5
      exact ⟨g1, g2, rfl, g4, g5, fun z => absurd z (by decide)⟩
    · rw [pk_un e, pk_un e]
      exact ⟨g1, g2, g3, g4, g5, g6⟩
  · rw [if_neg (fun q => h ((isOn_eq G hp).mp q)), if_neg h]
    exact G
theorem gP_cut {P u v : Nat} {σ : CS} {τ : MS} (G : gP P σ τ) (hP : P ≤ 20) : gP P (cEmpty P u v σ) (mCut P u v τ) := by
  unfold cEmpty mCut
  have G1 : gP P (itr (fEm1 u v) 8 0 σ) (itr (fCut1 u v) 8 0 τ) := gP_keep G (itr_keep (fun i s => (pClear_keep (by decide) (by decide) (by decide)).t (pClear_keep (by decide) (by decide) (by decide))) 8 0 σ) (fun k a b => itr_k (fun i t => fCut1_k (by omega)) 8 0 τ)
  obtain ⟨d, hd⟩ : ∃ d, 20 = P + d := ⟨20 - P, by omega⟩
  rw [hd, itr_add, itr_id (f := fEm2 P u v) (0 + P) _ d (fun j hj => by unfold fEm2; rw [if_neg (by omega)])]
  exact itr_rel (fun _ s t => gP P s t) 0 _ _ G1 P (fun j s t hj hG => by rw [Nat.zero_add]; exact gP_cut1 hG hj)
/-- a link goes down -/
theorem gT_down {M : Int} {u v : Nat} {σ : CS} {τ : MS} (T : gT M σ τ) (hu : u < 8) (hv : v < 8) : gT M (down1 u v σ) (mFa1 u v τ) ∧ (∀ a b, a < 8 → b < 8 → ¬ (8 * a + b = 8 * u + v ∨ 8 * a + b = 8 * v + u) → mCarr (mFa1 u v τ) a b = mCarr τ a b) := by
  obtain ⟨T0, T1, T2, T3, T4⟩ := T
  have e8 : (mFa1 u v τ) 8 = upd (upd (τ 8) (8 * u + v) (nI 0)) (8 * v + u) (nI 0) := rfl
  have c5 : (down1 u v σ).1 5 = upd (upd (σ.1 5) (8 * u + v) (nI 0)) (8 * v + u) (nI 0) := by
    rw [show 8 * u + v = u * 8 + v by omega, show 8 * v + u = v * 8 + u by omega]; rfl
  refine ⟨⟨T0, T1, fun j hj9 => ?_, fun a b ha hb => ?_, T4⟩, fun a b ha hb h => ?_⟩
  · obtain ⟨q1, q2, q3, q4, q5, q6⟩ := T2 j hj9
    refine ⟨q1, q2, ?_, q4, fun z => ?_, q6⟩
    · rw [e8, c5]
      by_cases e : j = 8 * v + u
      · rw [e, pk_us, pk_us]
      · rw [pk_un e, pk_un e]
        by_cases e2 : j = 8 * u + v
        · rw [e2, pk_us, pk_us]
        · rw [pk_un e2, pk_un e2]; exact q3
    · rw [e8]
      by_cases e : j = 8 * v + u
      · rw [e, pk_us]; exact nI0
      · rw [pk_un e]
        by_cases e2 : j = 8 * u + v
        · rw [e2, pk_us]; exact nI0
        · rw [pk_un e2]; exact q5 z
  · refine ⟨(T3 a b ha hb).1, ?_⟩
    rw [e8]
    have sy := (T3 a b ha hb).2
    by_cases e : a = u ∧ b = v
    · obtain ⟨rfl, rfl⟩ := e
      rw [pk_us]
      by_cases e2 : 8 * a + b = 8 * b + a
      · rw [e2, pk_us]
      · rw [pk_un e2, pk_us]
    · by_cases e2 : a = v ∧ b = u
      · obtain ⟨rfl, rfl⟩ := e2
        rw [pk_us]
        by_cases e3 : 8 * b + a = 8 * a + b
        · rw [e3, pk_us]
        · rw [pk_un e3, pk_us]
      · rw [pk_un (by omega), pk_un (by omega), pk_un (by omega), pk_un (by omega)]
        exact sy
  · unfold mCarr
    rw [e8, pk_un (by omega), pk_un (by omega)]
    rfl
theorem rlx_down {M : Int} {u v : Nat} {σ : CS} {τ : MS} (R : Rel M 600 σ τ) (hu : u < 8) (hv : v < 8) : Rlx M (fun _ => False) (fun j => j / 8 = 8 * u + v ∨ j / 8 = 8 * v + u) (down1 u v σ) (mFa1 u v τ) := by
  obtain ⟨T, N, U, K, F, Hh, Ca, C⟩ := R
  obtain ⟨T', hc⟩ := gT_down T hu hv
  refine ⟨T', N, U, K, F, fun j hj hz => ?_, C⟩
  by_cases e : j / 8 = 8 * u + v ∨ j / 8 = 8 * v + u
  · exact Or.inr e
  · left
    rw [hc (j / 64) (j / 8 % 8) (by omega) (by omega) (by omega)]
    exact Ca j hj hz
theorem rel_down {M : Int} {P u v : Nat} {σ : CS} {τ : MS} (R : Rel M 600 σ τ) (hu : u < 8) (hv : v < 8) (hM : M + 2 < 1073741824) (h8 : τ 8 (8 * u + v) ≠ 0) : Rel (M + 2) 600 (cDown P u v σ) (mFa2 P u v τ) := by
  have R1 := rlx_down R hu hv
  have e2 : (mFa1 u v τ) 2 = τ 2 := rfl
  have h5 : τ 5 (8 * u + v) ≠ 0 := fun q => h8 ((R.1.2.2.1 (8 * u + v) (by omega)).2.2.2.2.1 q)
  unfold cDown mFa2
  rw [carr_eq R.1 hu hv, e2]
  by_cases hc : mCarr τ u v = true
  · obtain ⟨-, -, h1, h2⟩ := mCarr_of hc
    rw [if_pos hc, if_neg h1, if_neg h2]
    have R2 : Rel M 600 (cEmpty P u v (down1 u v σ)) (mCut P u v (mFa1 u v τ)) := rlx_to (rlx_cut R1 hu hv) (fun _ _ h => h) (fun j _ h => by omega)
    have c2 : (mCut P u v (mFa1 u v τ)) 2 = τ 2 := by rw [mCut_k (by omega) (by omega)]; exact e2
    by_cases h3 : v ≤ u
    · rw [if_pos h3, Nat.max_eq_left h3, Nat.min_eq_right h3]
      have R3 := rel_tell R2 hv (by omega) (by rw [c2]; exact h2) (fun i hi => by omega)
      exact (rel_tell R3 hu (by omega) (by rw [mTell_2, c2]; exact h1) (fun i hi => by omega)).m (by omega)
    · rw [if_neg h3, Nat.max_eq_right (by omega), Nat.min_eq_left (by omega)]
      have R3 := rel_tell R2 hu (by omega) (by rw [c2]; exact h1) (fun i hi => by omega)
      exact (rel_tell R3 hv (by omega) (by rw [mTell_2, c2]; exact h2) (fun i hi => by omega)).m (by omega)
  · rw [if_neg hc]
    have hno : τ 2 u = 0 ∨ τ 2 v = 0 := by
      by_cases h1 : τ 2 u = 0
      · exact Or.inl h1
      · by_cases h2 : τ 2 v = 0
        · exact Or.inr h2
        · exact absurd (mCarr_to h5 h8 h1 h2) hc
    have eM : (if τ 2 u = 0 then mFa1 u v τ else if τ 2 v = 0 then mFa1 u v τ else if v ≤ u then mTell u (mTell v (mCut P u v (mFa1 u v τ))) else mTell v (mTell u (mCut P u v (mFa1 u v τ)))) = mFa1 u v τ := by
      rcases hno with h | h
      · rw [if_pos h]
      · by_cases h1 : τ 2 u = 0
        · rw [if_pos h1]
        · rw [if_neg h1, if_pos h]
    rw [eM]
    obtain ⟨T, N, U, K, F, Ca, C⟩ := R1
    refine Rel.m (M := M) ⟨T, N, U, K, F, fun q => absurd q (by decide), fun j hj hz => ?_, C⟩ (by omega)
    rcases Ca j hj hz with q | q
    · exact q
    · exfalso
      have q2 := R.2.2.2.2.2.2.1 j hj hz
      rcases q with q | q
      · rw [show j / 64 = u by omega, show j / 8 % 8 = v by omega] at q2
        exact hc q2
      · rw [show j / 64 = v by omega, show j / 8 % 8 = u by omega, mCarr_sym R.1 hv hu] at q2
        exact hc q2
theorem gP_down {P u v : Nat} {σ : CS} {τ : MS} (G : gP P σ τ) (hP : P ≤ 20) (T : ∃ M, gT M σ τ) (hu : u < 8) (hv : v < 8) (h8 : τ 8 (8 * u + v) ≠ 0) : gP P (cDown P u v σ) (mFa2 P u v τ) := by
  obtain ⟨M, T⟩ := T
  have G1 : gP P (down1 u v σ) (mFa1 u v τ) := gP_keep G ((keep_sI (by decide) (Or.inl (by decide))).t (keep_sI (by decide) (Or.inl (by decide)))) ((mKp_S (by omega)).t ((mKp_S (by omega)).t (mKp_S (by omega))))
  have h5 : τ 5 (8 * u + v) ≠ 0 := fun q => h8 ((T.2.2.1 (8 * u + v) (by omega)).2.2.2.2.1 q)
  have e2 : (mFa1 u v τ) 2 = τ 2 := rfl
  unfold cDown mFa2
  rw [carr_eq T hu hv, e2]
  by_cases h1 : τ 2 u = 0
  · rw [if_neg (fun q => (mCarr_of q).2.2.1 h1), if_pos h1]; exact G1
  · by_cases h2 : τ 2 v = 0
    · rw [if_neg (fun q => (mCarr_of q).2.2.2 h2), if_neg h1, if_pos h2]; exact G1
    · rw [if_pos (mCarr_to h5 h8 h1 h2), if_neg h1, if_neg h2]
      by_cases h3 : v ≤ u
      · rw [if_pos h3]
        exact gP_keep (gP_cut (u := u) (v := v) G1 hP) (cTell_keep.t cTell_keep) (mKp_tell.t mKp_tell)
      · rw [if_neg h3]
        exact gP_keep (gP_cut (u := u) (v := v) G1 hP) (cTell_keep.t cTell_keep) (mKp_tell.t mKp_tell)
/-- a node starts -/
theorem mFg_9 {u : Nat} {τ : MS} : (∀ k, k ≠ 9 → (itr (fFg u) 8 0 τ) k = τ k) ∧ ∀ j, (itr (fFg u) 8 0 τ) 9 j = if 8 * u ≤ j ∧ j < 8 * u + 8 then nI 0 else τ 9 j :=
  fill (b := 9) (base := 8 * u) (v := fun _ => nI 0) (fun i τ' _ => rfl) 8
theorem mForget_k {u k : Nat} {τ : MS} (h3 : k ≠ 3) (h9 : k ≠ 9) : (mForget u τ) k = τ k := by
  unfold mForget; rw [mS_ne h3, mFg_9.1 k h9]
theorem mForget_9 {u j : Nat} {τ : MS} : (mForget u τ) 9 j = if 8 * u ≤ j ∧ j < 8 * u + 8 then nI 0 else τ 9 j := by
  unfold mForget; rw [mS_ne (by decide), mFg_9.2]
theorem mForget_3 {u : Nat} {τ : MS} : (mForget u τ) 3 = upd (τ 3) u (nI 0) := by
  unfold mForget; rw [mS_at, mFg_9.1 3 (by decide)]
theorem rel_st0 {M : Int} {u : Nat} {σ : CS} {τ : MS} (R : Rel M 600 σ τ) (hu : u < 8) (hz : τ 2 u = 0) : Rel M 600 (start1 u σ) (mSt0 u τ) := by
  have hM := rel_M0 R
  obtain ⟨T, N, U, K, F, Hh, Ca, C⟩ := R
  have e9 : ∀ j, (mSt0 u τ) 9 j = τ 9 j := fun j => by
    unfold mSt0
    rw [mS_ne (by decide), mForget_9]
    split
    · rename_i q
      have := U u (j - 8 * u) hu (by omega) hz
      rw [show 8 * u + (j - 8 * u) = j by omega] at this
      rw [this]; exact nI0
    · rfl
  have e9 : (mSt0 u τ) 9 = τ 9 := funext e9
  have ek : ∀ k, k ≠ 2 → k ≠ 3 → k ≠ 9 → (mSt0 u τ) k = τ k := fun k a b c => by unfold mSt0; rw [mS_ne a, mForget_k b c]
  have e2 : (mSt0 u τ) 2 = upd (τ 2) u (nI 1) := by unfold mSt0; rw [mS_at, mForget_k (by decide) (by decide)]
  have e3 : (mSt0 u τ) 3 = upd (τ 3) u (nI 0) := by unfold mSt0; rw [mS_ne (by decide), mForget_3]
  have c1 : (start1 u σ).1 1 = upd (σ.1 1) u (nI 1) := rfl
  have c2 : (start1 u σ).1 2 = upd (σ.1 2) u (nI 0) := rfl
  have th : ∀ a, τ 2 a ≠ 0 → (mSt0 u τ) 2 a ≠ 0 := fun a h => by
    rw [e2]
    by_cases e : a = u
    · rw [e, pk_us]; decide
    · rw [pk_un e]; exact h
  refine ⟨?_, fun a ha hz9 => ?_, fun a o ha ho hz9 => ?_, ?_, ?_, ?_, fun j hj hz9 => ?_, C⟩
  · obtain ⟨T0, T1, T2, T3, T4⟩ := T
    unfold gT
    rw [ek 0 (by decide) (by decide) (by decide), ek 5 (by decide) (by decide) (by decide), ek 6 (by decide) (by decide) (by decide), ek 7 (by decide) (by decide) (by decide), ek 8 (by decide) (by decide) (by decide)]
    refine ⟨T0, fun a ha => ?_, T2, T3, T4⟩
    rw [c1, e2]
    by_cases e : a = u
    · rw [e, pk_us, pk_us]
    · rw [pk_un e, pk_un e]; exact T1 a ha
  · rw [c2, e3]
    by_cases e : a = u
    · rw [e, pk_us, pk_us, nI0, t0]; exact ⟨rfl, by omega, hM⟩
    · rw [e2, pk_un e] at hz9
      rw [pk_un e, pk_un e]
      exact N a ha hz9
  · rw [e9]
    by_cases e : a = u
    · rw [e]; exact U u o hu ho hz
    · rw [e2, pk_un e] at hz9
      exact U a o ha ho hz9
  · unfold gK; rw [e9, ek 10 (by decide) (by decide) (by decide), ek 11 (by decide) (by decide) (by decide)]; exact K
  · unfold gF; rw [ek 12 (by decide) (by decide) (by decide), ek 13 (by decide) (by decide) (by decide), ek 14 (by decide) (by decide) (by decide), ek 15 (by decide) (by decide) (by decide)]; exact F
  · exact fun q => absurd q (by decide)
  · rw [ek 12 (by decide) (by decide) (by decide)] at hz9
    obtain ⟨a1, a2, a3, a4⟩ := mCarr_of (Ca j hj hz9)
    refine mCarr_to ?_ ?_ (th _ a3) (th _ a4)
    · rw [ek 5 (by decide) (by decide) (by decide)]; exact a1
    · rw [ek 8 (by decide) (by decide) (by decide)]; exact a2
theorem rel_start {M : Int} {u : Nat} {σ : CS} {τ : MS} (R : Rel M 600 σ τ) (hu : u < 8) (hz : τ 2 u = 0) (hM : M + 9 < 1073741824) : Rel (M + 9) 600 (itr (fStC u) 8 0 (cTell u (cTellN u (start1 u σ)))) (mStB u τ) := by
  have R0 := rel_st0 R hu hz
  have h2 : (mSt0 u τ) 2 u ≠ 0 := by
    unfold mSt0; rw [mS_at, pk_us]; decide
  have R1 := itr_rel (f := fTN u) (g := fSt1 u) (fun j s t => Rel (M + j) 600 s t ∧ t 2 u ≠ 0) 0 _ _ ⟨R0.m (by omega), h2⟩ 8 (fun j s t hj hR => by
    rw [Nat.zero_add]
    obtain ⟨hR, hu2⟩ := hR
    unfold fTN fSt1
    rw [show u * 8 + j = 8 * u + j by omega]
    obtain ⟨-, T1, T2, -⟩ := hR.1
    obtain ⟨-, -, q3, -, q5, -⟩ := T2 (8 * u + j) (by omega)
    rw [q3, T1 j hj]
    by_cases h8 : t 8 (8 * u + j) = 0
    · rw [if_pos h8, if_neg (fun q => (mCarr_of q).2.1 h8)]
      exact ⟨hR.m (by omega), hu2⟩
    · rw [if_neg h8]
      by_cases hj2 : t 2 j = 0
      · rw [if_pos hj2, if_neg (fun q => (mCarr_of q).2.2.2 hj2)]
        exact ⟨hR.m (by omega), hu2⟩
      · rw [if_neg hj2, if_pos (mCarr_to (fun q => h8 (q5 q)) h8 hu2 hj2)]
        exact ⟨(rel_tell hR hj (by omega) hj2 (fun i hi => by omega)).m (by omega), by rw [mTell_2]; exact hu2⟩)
  have R2 := rel_tell R1.1 hu (by omega) R1.2 (fun i hi => by omega)
  unfold mStB
  refine Rel.m (M := M + (8 : Nat) + 1) ?_ (by omega)
  unfold cTellN
  refine itr_rel (f := fStC u) (g := fSt2 u) (fun _ s t => Rel (M + (8 : Nat) + 1) 600 s t) 0 _ _ R2 8 (fun j s t hj hR => ?_)
  rw [Nat.zero_add]
  unfold fStC fSt2
  rw [carr_eq hR.1 hj hu, mCarr_sym hR.1 hj hu]
  by_cases hc : mCarr t u j = true
  · rw [if_pos hc, if_pos hc]
    exact rel_sendAll hR hj hu (by rw [mCarr_sym hR.1 hj hu]; exact hc) (fun o ho => by omega)
  · rw [if_neg hc, if_neg hc]; exact hR
theorem mKp_start {u : Nat} {τ : MS} : mKp τ (mStB u τ) := by
  have h0 : mKp τ (mSt0 u τ) := by
    unfold mSt0
    exact (show mKp τ (mForget u τ) from fun k a b => mForget_k (by omega) (by omega)).t (mKp_S (by omega))
  unfold mStB
  refine h0.t ((mKp_itr (fun i t => ?_) 8 0 _).t (mKp_tell.t (mKp_itr (fun i t => ?_) 8 0 _)))
  · unfold fSt1; split
    · exact mKp_tell
    · exact mKp.r
  · unfold fSt2; split
    · exact mKp_sendAll
    · exact mKp.r
theorem keep_start {u : Nat} {σ : CS} : keep σ (itr (fStC u) 8 0 (cTell u (cTellN u (start1 u σ)))) := by
  refine ((keep_sI (by decide) (Or.inl (by decide))).t (keep_sI (by decide) (Or.inl (by decide)))).t (cTellN_keep.t (cTell_keep.t (itr_keep (fun i s => ?_) 8 0 _)))
  unfold fStC; split
  · exact cSendAll_keep
  · exact keep.r
