/-! PACKETS AT NODES -/
def gPr (p : Nat) (σ : CS) (τ : MS) : Prop := σ.1 12 p = τ 17 p ∧ σ.1 14 p = τ 18 p ∧ σ.1 15 p = τ 19 p ∧ σ.1 13 p = τ 23 p ∧ (∀ i, i < (τ 23 p).toNatClampNeg → σ.1 (19 + p) i = τ 24 (40 * p + i)) ∧ (τ 19 p = 0 → σ.1 16 p = τ 20 p ∧ σ.1 17 p = τ 21 p ∧ σ.1 18 p = τ 22 p)
def oC (r : Nat) (σ σ' : CS) : Prop := (∀ k, 12 ≤ k → k ≤ 18 → ∀ q, q ≠ r → σ'.1 k q = σ.1 k q) ∧ ∀ q, q ≠ r → σ'.1 (19 + q) = σ.1 (19 + q)
def oM (r : Nat) (τ τ' : MS) : Prop := (∀ k, 17 ≤ k → k ≤ 23 → ∀ q, q ≠ r → τ' k q = τ k q) ∧ ∀ q i, q ≠ r → i < 40 → τ' 24 (40 * q + i) = τ 24 (40 * q + i)
theorem oC.t {r : Nat} {σ ρ κ : CS} (h1 : oC r σ ρ) (h2 : oC r ρ κ) : oC r σ κ := ⟨fun k a b q hq => (h2.1 k a b q hq).trans (h1.1 k a b q hq), fun q hq => (h2.2 q hq).trans (h1.2 q hq)⟩
theorem oM.t {r : Nat} {σ ρ κ : MS} (h1 : oM r σ ρ) (h2 : oM r ρ κ) : oM r σ κ := ⟨fun k a b q hq => (h2.1 k a b q hq).trans (h1.1 k a b q hq), fun q i hq hi => (h2.2 q i hq hi).trans (h1.2 q i hq hi)⟩
theorem oC_keep {r : Nat} {σ ρ : CS} (h : keep σ ρ) : oC r σ ρ := ⟨fun k a _ q _ => by rw [h.1 k a], fun q _ => h.1 _ (by omega)⟩
theorem oM_keep {r : Nat} {σ ρ : MS} (h : mKp σ ρ) : oM r σ ρ := ⟨fun k a b q _ => by rw [h k a (by omega)], fun q i _ _ => by rw [h 24 (by omega) (by omega)]⟩
theorem oC_S {r k : Nat} {x : Int32} {σ : CS} (h : k ≤ 18) : oC r σ (sI k r x σ) := ⟨fun i _ _ q hq => by
  by_cases e : i = k
  · rw [e, sI_at, pk_un hq]
  · rw [sI_k e], fun q _ => sI_k (by omega)⟩
theorem oC_T {r n : Nat} {x : Int32} {σ : CS} : oC r σ (sI (19 + r) n x σ) := ⟨fun i _ _ q hq => by rw [sI_k (by omega)], fun q hq => sI_k (by omega)⟩
theorem oM_S {r k : Nat} {x : Int32} {τ : MS} (h : k ≤ 23) : oM r τ (mS k r x τ) := ⟨fun i _ _ q hq => by
  by_cases e : i = k
  · rw [e, mS_at, pk_un hq]
  · rw [mS_ne e], fun q i _ _ => by rw [mS_ne (by omega)]⟩
theorem oM_T {r n : Nat} {x : Int32} {τ : MS} (h : n < 40) : oM r τ (mS 24 (40 * r + n) x τ) := ⟨fun i _ _ q hq => by rw [mS_ne (by omega)], fun q i hq hi => by rw [mS_at, pk_un (by omega)]⟩
theorem gPr_o {r q : Nat} {σ σ' : CS} {τ τ' : MS} (G : gPr q σ τ) (hc : oC r σ σ') (hm : oM r τ τ') (hq : q ≠ r) (hn : (τ 23 q).toNatClampNeg ≤ 40) : gPr q σ' τ' := by
  obtain ⟨g1, g2, g3, g4, g5, g6⟩ := G
  have c := fun k a b => hc.1 k a b q hq
  have m := fun k a b => hm.1 k a b q hq
  unfold gPr
  rw [c 12 (by omega) (by omega), c 13 (by omega) (by omega), c 14 (by omega) (by omega), c 15 (by omega) (by omega), c 16 (by omega) (by omega), c 17 (by omega) (by omega), c 18 (by omega) (by omega), m 17 (by omega) (by omega), m 18 (by omega) (by omega), m 19 (by omega) (by omega), m 20 (by omega) (by omega), m 21 (by omega) (by omega), m 22 (by omega) (by omega), m 23 (by omega) (by omega), hc.2 q hq]
  exact ⟨g1, g2, g3, g4, fun i hi => (g5 i hi).trans (hm.2 q i hq (by omega)).symm, g6⟩
/-- a packet that has come to the node v -/
def vis (r v n : Nat) (σ : CS) (τ : MS) : Prop := σ.1 12 r = τ 17 r ∧ σ.1 14 r = τ 18 r ∧ σ.1 15 r = τ 19 r ∧ τ 19 r = 0 ∧ σ.1 13 r = nI n ∧ τ 23 r = nI n ∧ (∀ i, i < n → σ.1 (19 + r) i = τ 24 (40 * r + i)) ∧ σ.1 16 r = nI v
theorem vis_keep {r v n : Nat} {σ ρ : CS} {τ κ : MS} (h : vis r v n σ τ) (hc : keep σ ρ) (hm : mKp τ κ) : vis r v n ρ κ := by
  unfold vis
  rw [hc.1 12 (by omega), hc.1 13 (by omega), hc.1 14 (by omega), hc.1 15 (by omega), hc.1 16 (by omega), hc.1 (19 + r) (by omega), hm 17 (by omega) (by omega), hm 18 (by omega) (by omega), hm 19 (by omega) (by omega), hm 23 (by omega) (by omega), hm 24 (by omega) (by omega)]
  exact h
theorem vis_end {r v n : Nat} {x : Int32} {σ : CS} {τ : MS} (h : vis r v n σ τ) (hx : x ≠ 0) (hn : n < 40) : gPr r (sI 15 r x σ) (mS 19 r x τ) := by
  obtain ⟨h1, h2, h3, h4, h5, h6, h7, h8⟩ := h
  unfold gPr
  rw [sI_k (i := 12) (by omega), sI_k (i := 13) (by omega), sI_k (i := 14) (by omega), sI_k (i := 19 + r) (by omega), mS_ne (i := 17) (by omega), mS_ne (i := 18) (by omega), mS_ne (i := 23) (by omega), mS_ne (i := 24) (by omega), sI_at, mS_at, pk_us, pk_us]
  exact ⟨h1, h2, rfl, by rw [h5, h6], fun i hi => h7 i (by rw [h6, nI_clamp (by omega)] at hi; exact hi), fun q => absurd q hx⟩
theorem vis_of {r v n : Nat} {σ : CS} {τ : MS} (h1 : σ.1 12 r = τ 17 r) (h2 : σ.1 14 r = τ 18 r) (h3 : σ.1 15 r = τ 19 r) (h4 : τ 19 r = 0) (h5 : σ.1 13 r = nI n) (h6 : τ 23 r = nI n) (h7 : ∀ i, i < n → σ.1 (19 + r) i = τ 24 (40 * r + i)) (hn : n ≤ 30) : vis r v (n + 1) (cVis r v σ) (mA2 r v τ) ∧ oC r σ (cVis r v σ) ∧ oM r τ (mA2 r v τ) := by
  have ec : (σ.1 13 r).toNatClampNeg = n := by rw [h5]; exact nI_clamp (by omega)
  have em : (τ 23 r).toNatClampNeg = n := by rw [h6]; exact nI_clamp (by omega)
  have e1 : cVis r v σ = sI 13 r (nI (n + 1)) (sI (19 + r) n (nI v) (sI 16 r (nI v) σ)) := by unfold cVis vis1; rw [ec, if_neg (by omega)]
  have e2 : mA2 r v τ = mS 23 r (nI (n + 1)) (mS 24 (40 * r + n) (nI v) τ) := by
    unfold mA2 mA1
    rw [em, mS_ne (k := 24) (i := 23) (by decide), h6, nI_add]
  rw [e1, e2]
  refine ⟨?_, (oC_S (by omega)).t (oC_T.t (oC_S (by omega))), (oM_T (by omega)).t (oM_S (by omega))⟩
  have s1 : ∀ k, k ≠ 13 → k ≠ 16 → k ≠ 19 + r → (sI 13 r (nI (n + 1)) (sI (19 + r) n (nI v) (sI 16 r (nI v) σ))).1 k = σ.1 k := fun k a b c => by rw [sI_k a, sI_k c, sI_k b]
  have s2 : (sI 13 r (nI (n + 1)) (sI (19 + r) n (nI v) (sI 16 r (nI v) σ))).1 13 r = nI (n + 1) := by rw [sI_at, pk_us]
  have s3 : (sI 13 r (nI (n + 1)) (sI (19 + r) n (nI v) (sI 16 r (nI v) σ))).1 16 r = nI v := by rw [sI_k (by omega), sI_k (by omega), sI_at, pk_us]
  have s4 : (sI 13 r (nI (n + 1)) (sI (19 + r) n (nI v) (sI 16 r (nI v) σ))).1 (19 + r) = upd (σ.1 (19 + r)) n (nI v) := by rw [sI_k (by omega), sI_at, sI_k (by omega)]
  have m1 : ∀ k, k ≠ 23 → k ≠ 24 → (mS 23 r (nI (n + 1)) (mS 24 (40 * r + n) (nI v) τ)) k = τ k := fun k a b => by rw [mS_ne a, mS_ne b]
  have m2 : (mS 23 r (nI (n + 1)) (mS 24 (40 * r + n) (nI v) τ)) 23 r = nI (n + 1) := by rw [mS_at, pk_us]
  have m3 : (mS 23 r (nI (n + 1)) (mS 24 (40 * r + n) (nI v) τ)) 24 = upd (τ 24) (40 * r + n) (nI v) := by rw [mS_ne (by omega), mS_at]
  generalize sI 13 r (nI (n + 1)) (sI (19 + r) n (nI v) (sI 16 r (nI v) σ)) = s at *
  generalize mS 23 r (nI (n + 1)) (mS 24 (40 * r + n) (nI v) τ) = t at *
  unfold vis
  rw [s1 12 (by omega) (by omega) (by omega), s1 14 (by omega) (by omega) (by omega), s1 15 (by omega) (by omega) (by omega), s2, s3, s4, m1 17 (by omega) (by omega), m1 18 (by omega) (by omega), m1 19 (by omega) (by omega), m2, m3]
  refine ⟨h1, h2, h3, h4, rfl, rfl, fun i hi => ?_, rfl⟩
  by_cases e : i = n
  · rw [e, pk_us, pk_us]
  · rw [pk_un e, pk_un (by omega)]; exact h7 i (by omega)
theorem fM3_k {v i j k : Nat} {σ : CS} (hk : k ≠ 11) : (fM3 v i j σ).1 k = σ.1 k ∧ (fM3 v i j σ).2 = σ.2 := by
  unfold fM3
  split
  · exact ⟨rfl, rfl⟩
  · split
    · exact ⟨rfl, rfl⟩
    · exact ⟨sI_k hk, rfl⟩
theorem itr_kc {f : Nat → CS → CS} {k : Nat} (h : ∀ i s, (f i s).1 k = s.1 k ∧ (f i s).2 = s.2) (n i : Nat) (σ : CS) : (itr f n i σ).1 k = σ.1 k ∧ (itr f n i σ).2 = σ.2 := itr_ind (fun _ s => s.1 k = σ.1 k ∧ s.2 = σ.2) i σ ⟨rfl, rfl⟩ n (fun j s _ hs => ⟨(h _ _).1.trans hs.1, (h _ _).2.trans hs.2⟩)
theorem fM2_k {v i k : Nat} {σ : CS} (hk : k ≠ 11) : (fM2 v i σ).1 k = σ.1 k ∧ (fM2 v i σ).2 = σ.2 := by
  unfold fM2; exact itr_kc (fun i s => fM3_k hk) 8 0 σ
theorem fM1_k {v i k : Nat} {σ : CS} (hk : k ≠ 11) : (fM1 v i σ).1 k = σ.1 k ∧ (fM1 v i σ).2 = σ.2 := by
  unfold fM1; exact itr_kc (fun i s => fM2_k hk) 8 0 σ
theorem fM0_k {g i k : Nat} {σ : CS} (hk : k ≠ 11) : (fM0 g i σ).1 k = σ.1 k ∧ (fM0 g i σ).2 = σ.2 := by
  unfold fM0
  split
  · exact ⟨sI_k hk, rfl⟩
  · exact ⟨sI_k hk, rfl⟩
theorem cMeas_k2 {v g k : Nat} {σ : CS} (hk : k ≠ 11) : (cMeas v g σ).1 k = σ.1 k ∧ (cMeas v g σ).2 = σ.2 := by
  rw [show cMeas v g σ = itr (fM1 v) 7 1 (itr (fM0 g) 8 0 σ) from rfl]
  have h1 := itr_kc (f := fM0 g) (fun i s => fM0_k hk) 8 0 σ
  have h2 := itr_kc (f := fM1 v) (fun i s => fM1_k hk) 7 1 (itr (fM0 g) 8 0 σ)
  exact ⟨h2.1.trans h1.1, h2.2.trans h1.2⟩
theorem cMeas_k {v g k : Nat} {σ : CS} (hk : k ≠ 11) : (cMeas v g σ).1 k = σ.1 k := (cMeas_k2 hk).1
theorem cMeas_2 {v g : Nat} {σ : CS} : (cMeas v g σ).2 = σ.2 := (cMeas_k2 (k := 0) (by decide)).2
theorem rel_meas {M : Int} {h v g : Nat} {σ : CS} {τ : MS} (R : Rel M h σ τ) : Rel M h (cMeas v g σ) (mMeas v g τ) :=
  rel_cong R (fun i _ => by rw [cMeas_k (by decide)]) (fun k _ hk => cMeas_k (by omega)) cMeas_2 (by rw [mMeas_k (by decide)]) (by rw [mMeas_k (by decide)]) (fun k _ hk => mMeas_k (by omega))
theorem mKp_meas {v g : Nat} {τ : MS} : mKp τ (mMeas v g τ) := fun k a b => mMeas_k (by omega)
/-- the low banks -/
def lo (σ σ' : CS) (τ τ' : MS) : Prop := (∀ k, k < 11 → σ'.1 k = σ.1 k) ∧ σ'.2 = σ.2 ∧ ∀ k, k < 16 → τ' k = τ k
theorem lo.t {σ ρ κ : CS} {τ t u : MS} (h1 : lo σ ρ τ t) (h2 : lo ρ κ t u) : lo σ κ τ u := ⟨fun k hk => (h2.1 k hk).trans (h1.1 k hk), h2.2.1.trans h1.2.1, fun k hk => (h2.2.2 k hk).trans (h1.2.2 k hk)⟩
theorem rel_lo {M : Int} {h : Nat} {σ σ' : CS} {τ τ' : MS} (R : Rel M h σ τ) (l : lo σ σ' τ τ') : Rel M h σ' τ' :=
  rel_cong R (fun i _ => by rw [l.1 0 (by omega)]) (fun k _ hk => l.1 k hk) l.2.1 (by rw [l.2.2 0 (by omega)]) (by rw [l.2.2 0 (by omega)]) (fun k _ hk => l.2.2 k hk)
theorem lo_end {r : Nat} {x : Int32} {σ : CS} {τ : MS} : lo σ (sI 15 r x σ) τ (mS 19 r x τ) := ⟨fun k hk => sI_k (by omega), rfl, fun k hk => mS_ne (by omega)⟩
theorem lo_vis {r v : Nat} {σ : CS} {τ : MS} : lo σ (cVis r v σ) τ (mA2 r v τ) := by
  refine ⟨fun k hk => cVis_k (by omega) (by omega) (by omega), ?_, fun k hk => ?_⟩
  · unfold cVis vis1; split <;> rfl
  · unfold mA2 mA1; rw [mS_ne (by omega), mS_ne (by omega)]
theorem pk_go {r v n j : Nat} {x : Int32} {s : CS} {t : MS} (V2 : vis r v n s t) (hn : n < 40) : gPr r (sI 18 r x (sI 17 r (nI j) (sI 14 r (s.1 14 r - nI 1) s))) (mS 22 r x (mS 21 r (nI j) (mS 20 r (nI v) (mS 18 r (t 18 r - nI 1) t)))) := by
  obtain ⟨v1, v2, v3, v4, v5, v6, v7, v8⟩ := V2
  have s1 : ∀ k, k ≠ 14 → k ≠ 17 → k ≠ 18 → (sI 18 r x (sI 17 r (nI j) (sI 14 r (s.1 14 r - nI 1) s))).1 k = s.1 k := fun k a b c => by rw [sI_k c, sI_k b, sI_k a]
  have s2 : (sI 18 r x (sI 17 r (nI j) (sI 14 r (s.1 14 r - nI 1) s))).1 14 r = s.1 14 r - nI 1 := by rw [sI_k (by omega), sI_k (by omega), sI_at, pk_us]
  have s3 : (sI 18 r x (sI 17 r (nI j) (sI 14 r (s.1 14 r - nI 1) s))).1 17 r = nI j := by rw [sI_k (by omega), sI_at, pk_us]
  have s4 : (sI 18 r x (sI 17 r (nI j) (sI 14 r (s.1 14 r - nI 1) s))).1 18 r = x := by rw [sI_at, pk_us]
  have m1 : ∀ k, k ≠ 18 → k ≠ 20 → k ≠ 21 → k ≠ 22 → (mS 22 r x (mS 21 r (nI j) (mS 20 r (nI v) (mS 18 r (t 18 r - nI 1) t)))) k = t k := fun k a b c d => by rw [mS_ne d, mS_ne c, mS_ne b, mS_ne a]
  have m2 : (mS 22 r x (mS 21 r (nI j) (mS 20 r (nI v) (mS 18 r (t 18 r - nI 1) t)))) 18 r = t 18 r - nI 1 := by rw [mS_ne (by omega), mS_ne (by omega), mS_ne (by omega), mS_at, pk_us]
  have m3 : (mS 22 r x (mS 21 r (nI j) (mS 20 r (nI v) (mS 18 r (t 18 r - nI 1) t)))) 20 r = nI v := by rw [mS_ne (by omega), mS_ne (by omega), mS_at, pk_us]
  have m4 : (mS 22 r x (mS 21 r (nI j) (mS 20 r (nI v) (mS 18 r (t 18 r - nI 1) t)))) 21 r = nI j := by rw [mS_ne (by omega), mS_at, pk_us]
  have m5 : (mS 22 r x (mS 21 r (nI j) (mS 20 r (nI v) (mS 18 r (t 18 r - nI 1) t)))) 22 r = x := by rw [mS_at, pk_us]
  generalize sI 18 r x (sI 17 r (nI j) (sI 14 r (s.1 14 r - nI 1) s)) = s' at *
  generalize mS 22 r x (mS 21 r (nI j) (mS 20 r (nI v) (mS 18 r (t 18 r - nI 1) t))) = t' at *
  unfold gPr
  rw [s1 12 (by omega) (by omega) (by omega), s1 13 (by omega) (by omega) (by omega), s1 15 (by omega) (by omega) (by omega), s1 16 (by omega) (by omega) (by omega), s1 (19 + r) (by omega) (by omega) (by omega), s2, s3, s4, m1 17 (by omega) (by omega) (by omega) (by omega), m1 19 (by omega) (by omega) (by omega) (by omega), m1 23 (by omega) (by omega) (by omega) (by omega), m1 24 (by omega) (by omega) (by omega) (by omega), m2, m3, m4, m5]
  refine ⟨v1, by rw [v2], v3, by rw [v5, v6], fun i hi => v7 i (by rw [v6, nI_clamp (by omega)] at hi; exact hi), fun _ => ⟨v8, rfl, rfl⟩⟩
theorem lo_go {r v j : Nat} {x y z : Int32} {s : CS} {t : MS} : lo s (sI 18 r x (sI 17 r (nI j) (sI 14 r y s))) t (mS 22 r x (mS 21 r (nI j) (mS 20 r (nI v) (mS 18 r z t)))) := ⟨fun k hk => by rw [sI_k (by omega), sI_k (by omega), sI_k (by omega)], rfl, fun k hk => by rw [mS_ne (by omega), mS_ne (by omega), mS_ne (by omega), mS_ne (by omega)]⟩
theorem pk_handle {M : Int} {P r v n g : Nat} {σ : CS} {τ : MS} (R : Rel M 600 σ τ) (h11 : ∀ j, r50 (τ 11 j)) (hv : v < 8) (hg : g < 8) (ho : ∀ q, q < P → q ≠ r → gPr q σ τ ∧ (τ 23 q).toNatClampNeg ≤ 40)
    (h1 : σ.1 12 r = τ 17 r) (hgoal : τ 17 r = nI g) (h2 : σ.1 14 r = τ 18 r) (h3 : σ.1 15 r = τ 19 r) (h4 : τ 19 r = 0) (h5 : σ.1 13 r = nI n) (h6 : τ 23 r = nI n) (h7 : ∀ i, i < n → σ.1 (19 + r) i = τ 24 (40 * r + i)) (hn : n ≤ 30) : Rel M 600 (cHandle r v σ) (mIsAt r v τ) ∧ gP P (cHandle r v σ) (mIsAt r v τ) := by
  obtain ⟨V, oc, om⟩ := vis_of (v := v) h1 h2 h3 h4 h5 h6 h7 hn
  have fin : ∀ (σ' : CS) (τ' : MS), oC r σ σ' → oM r τ τ' → gPr r σ' τ' → gP P σ' τ' := fun σ' τ' a b c p hp => by
    by_cases e : p = r
    · rw [e]; exact c
    · exact gPr_o (ho p hp e).1 a b e (ho p hp e).2
  have R1 : Rel M 600 (cVis r v σ) (mA2 r v τ) := rel_lo R lo_vis
  unfold cHandle mIsAt
  have eg : (τ 17 r).toNatClampNeg = g := by rw [hgoal]; exact nI_clamp (by omega)
  rw [h1, eg]
  by_cases hvg : v = g
  · rw [if_pos hvg, if_pos hvg]
    exact ⟨rel_lo R1 lo_end, fin _ _ (oc.t (oC_S (by omega))) (om.t (oM_S (by omega))) (vis_end V (by decide) (by omega))⟩
  · rw [if_neg hvg, if_neg hvg, V.2.1]
    by_cases hl : (mA2 r v τ) 18 r = 0
    · rw [if_pos hl, if_pos hl]
      exact ⟨rel_lo R1 lo_end, fin _ _ (oc.t (oC_S (by omega))) (om.t (oM_S (by omega))) (vis_end V (by decide) (by omega))⟩
    · rw [if_neg hl, if_neg hl]
      have eh : cHop v g (cVis r v σ) = mHop v g (mA2 r v τ) := hop_eq R1.2.2.2.1 (fun j => by rw [(lo_vis (r := r) (v := v) (σ := σ) (τ := τ)).2.2 11 (by omega)]; exact h11 j) hv hg hvg
      rw [eh]
      have R2 : Rel M 600 (cMeas v g (cVis r v σ)) (mMeas v g (mA2 r v τ)) := rel_meas R1
      have V2 := vis_keep V (cMeas_keep (v := v) (g := g)) (mKp_meas (v := v) (g := g))
      have oc2 : oC r σ (cMeas v g (cVis r v σ)) := oc.t (oC_keep cMeas_keep)
      have om2 : oM r τ (mMeas v g (mA2 r v τ)) := om.t (oM_keep mKp_meas)
      unfold cHopB mAH
      by_cases hh : mHop v g (mA2 r v τ) = -1
      · rw [if_pos hh, if_pos hh]
        exact ⟨rel_lo R2 lo_end, fin _ _ (oc2.t (oC_S (by omega))) (om2.t (oM_S (by omega))) (vis_end V2 (by decide) (by omega))⟩
      · rw [if_neg hh, if_neg hh]
        obtain ⟨j, hj, ej⟩ := mHop_of hh
        rw [ej, nI_clamp (by omega), carr_eq R2.1 hv hj]
        by_cases hc : mCarr (mMeas v g (mA2 r v τ)) v j = true
        · rw [if_pos hc, if_pos hc]
          have hT := R2.1
          generalize cMeas v g (cVis r v σ) = s at *
          generalize mMeas v g (mA2 r v τ) = t at *
          obtain ⟨T0, -, T2, -⟩ := hT
          have e1 : (hop3 r (nI j) s).1 0 2 + (hop3 r (nI j) s).1 4 (v * 8 + j) = (mA3 r v (nI j) t) 0 1 + (mA3 r v (nI j) t) 7 (8 * v + j) := by
            have a1 : (hop3 r (nI j) s).1 0 2 = s.1 0 2 := by unfold hop3; rw [sI_k (by decide), sI_k (by decide)]
            have a2 : (hop3 r (nI j) s).1 4 = s.1 4 := by unfold hop3; rw [sI_k (by decide), sI_k (by decide)]
            have a3 : (mA3 r v (nI j) t) 0 1 = t 0 1 := by unfold mA3; rw [mS_ne (by decide), mS_ne (by decide), mS_ne (by decide)]
            have a4 : (mA3 r v (nI j) t) 7 = t 7 := by unfold mA3; rw [mS_ne (by decide), mS_ne (by decide), mS_ne (by decide)]
            rw [a1, a2, a3, a4, T0.1, show v * 8 + j = 8 * v + j by omega, (T2 (8 * v + j) (by omega)).2.1]
          rw [e1]
          generalize (mA3 r v (nI j) t) 0 1 + (mA3 r v (nI j) t) 7 (8 * v + j) = x
          unfold hop3 mA3
          refine ⟨rel_lo R2 lo_go, fin _ _ (oc2.t ((oC_S (by omega)).t ((oC_S (by omega)).t (oC_S (by omega))))) (om2.t ((oM_S (by omega)).t ((oM_S (by omega)).t ((oM_S (by omega)).t (oM_S (by omega)))))) (pk_go V2 (by omega))⟩
        · rw [if_neg hc, if_neg hc]
          exact ⟨rel_lo R2 lo_end, fin _ _ (oc2.t (oC_S (by omega))) (om2.t (oM_S (by omega))) (vis_end V2 (by decide) (by omega))⟩
theorem mI_n {P q : Nat} {τ : MS} (I : mI P τ) (hq : q < P) : (τ 23 q).toNatClampNeg ≤ 40 := by
  obtain ⟨g, n, hg, hn, e1, e2, -⟩ := I.2.2.1.1 q hq
  rw [e2, nI_clamp (by omega)]; omega
theorem rel_move1 {M : Int} {P i : Nat} {σ : CS} {τ : MS} (R : Rel M 600 σ τ) (G : gP P σ τ) (I : mI P τ) (hi : i < P) : Rel M 600 (fMv P i σ) (fTk3 i τ) ∧ gP P (fMv P i σ) (fTk3 i τ) := by
  obtain ⟨g1, g2, g3, g4, g5, g6⟩ := G i hi
  unfold fMv fTk3
  rw [if_pos hi, g3]
  by_cases hz : τ 19 i = 0
  · obtain ⟨q1, q2, q3⟩ := g6 hz
    rw [if_pos hz, if_pos hz, q2, q3, R.1.1.1]
    by_cases ht : τ 22 i = τ 0 1
    · rw [if_pos ht, if_pos ht]
      obtain ⟨g, n, hg, hn, e1, e2, e3⟩ := I.2.2.1.1 i hi
      obtain ⟨v, f, hv, ev, ef, hnf⟩ := e3 hz
      rw [ev, nI_clamp (by omega)]
      refine pk_handle R I.2.2.2.2.1 hv hg (fun q hq _ => ⟨G q hq, mI_n I hq⟩) g1 e1 g2 g3 hz (by rw [g4, e2]) e2 (fun k hk => g5 k (by rw [e2, nI_clamp (by omega)]; exact hk)) (by omega)
    · rw [if_neg ht, if_neg ht]; exact ⟨R, G⟩
  · rw [if_neg hz, if_neg hz]; exact ⟨R, G⟩
theorem rel_move {M : Int} {P : Nat} {σ : CS} {τ : MS} (R : Rel M 600 σ τ) (G : gP P σ τ) (I : mI P τ) : Rel M 600 (cMove P σ) (itr fTk3 P 0 τ) ∧ gP P (cMove P σ) (itr fTk3 P 0 τ) := by
  have hP := I.1
  unfold cMove
  obtain ⟨d, hd⟩ : ∃ d, 20 = P + d := ⟨20 - P, by omega⟩
  rw [hd, itr_add, itr_id (f := fMv P) (0 + P) _ d (fun j hj => by unfold fMv; rw [if_neg (by omega)])]
  have := itr_rel (f := fMv P) (g := fTk3) (fun _ s t => (Rel M 600 s t ∧ gP P s t) ∧ mI P t) 0 σ τ ⟨⟨R, G⟩, I⟩ P (fun j s t hj h => by
    rw [Nat.zero_add]
    exact ⟨rel_move1 h.1.1 h.1.2 h.2 hj, fTk3_I j hj h.2⟩)
  exact this.1
theorem mRecv_k {u v o k : Nat} {τ : MS} (h3 : k ≠ 3) (h9 : k ≠ 9) (h10 : k ≠ 10) (h11 : k ≠ 11) (h12 : k ≠ 12) (h13 : k ≠ 13) (h14 : k ≠ 14) (h15 : k ≠ 15) : (mRecv u v o τ) k = τ k := by
  have e1 : ∀ t, (mR1 u v o t) k = t k := fun t => by unfold mR1; rw [mS_ne h12]
  unfold mRecv
  split
  · split
    · exact e1 τ
    · rw [mTell_k h3 h9 h10 h11 h12 h13 h14 h15, mS_ne h3]; exact e1 τ
  · split
    · split
      · exact e1 τ
      · rw [mPass_k h12 h13 h14 h15]; exact e1 τ
    · rw [itr_k (f := fRs u v o) (fun i t => by unfold fRs; split; rfl; exact mPass_k h12 h13 h14 h15), fRc_fill.1 k h11, mR3_k h9 h10]; exact e1 τ
theorem mKp_tk {τ : MS} : mKp τ (itr fTk2 512 0 (itr fTk1 8 0 (mGrow (mTk0 τ)))) := by
  have h0 : mKp τ (mTk0 τ) := mKp_S (by omega)
  have h1 : mKp (mTk0 τ) (mGrow (mTk0 τ)) := by
    unfold mGrow
    exact (mKp_itr (fun i t k a b => (fG1_9.2.2 k (by omega) (by omega))) 64 0 _).t (mKp_itr (fun i t k a b => (fG2_12.2.2 k (by omega) (by omega))) 512 0 _)
  refine h0.t (h1.t ((mKp_itr (fun i t => ?_) 8 0 _).t (mKp_itr (fun i t => ?_) 512 0 _)))
  · unfold fTk1
    split
    · exact mKp.r
    · split
      · exact mKp.r
      · split
        · exact mKp_tell
        · exact mKp.r
  · unfold fTk2
    split
    · exact mKp.r
    · split
      · exact fun k a b => mRecv_k (by omega) (by omega) (by omega) (by omega) (by omega) (by omega) (by omega) (by omega)
      · exact mKp.r
theorem mI_tk {P : Nat} {τ : MS} (h : mI P τ) : mI P (itr fTk2 512 0 (itr fTk1 8 0 (mGrow (mTk0 τ)))) := by
  refine itr_inv (P := mI P) (fun i s hs => fTk2_I i hs) 512 0 _ ?_
  exact itr_inv (P := mI P) (fun i s hs => fTk1_I i hs) 8 0 _ (mGrow_I (mI_0 h (by decide)))
theorem rel_tick1 {M : Int} {P : Nat} {σ : CS} {τ : MS} (R : Rel M 600 σ τ) (G : gP P σ τ) (I : mI P τ) (hM : M + 521 < 1073741824) : Rel (M + 521) 600 (cMove P (cArr (cTellA (tk3 σ)))) (mTick1 P τ) ∧ gP P (cMove P (cArr (cTellA (tk3 σ)))) (mTick1 P τ) := by
  unfold mTick1
  exact rel_move (rel_tick R hM) (gP_keep G (tk3_keep.t (cTellA_keep.t cArr_keep)) mKp_tk) (mI_tk I)
