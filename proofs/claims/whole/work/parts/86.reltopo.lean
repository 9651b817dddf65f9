/-! LINKS AND NODES COME AND GO -/
theorem rel_cong {M : Int} {h : Nat} {σ σ' : CS} {τ τ' : MS} (R : Rel M h σ τ) (s0 : ∀ i, i ≠ 1 → σ'.1 0 i = σ.1 0 i) (s : ∀ k, 0 < k → k < 11 → σ'.1 k = σ.1 k) (s2 : σ'.2 = σ.2) (t1 : τ' 0 1 = τ 0 1) (t4 : τ' 0 4 = τ 0 4) (t : ∀ k, 0 < k → k < 16 → τ' k = τ k) : Rel M h σ' τ' := by
  obtain ⟨T, N, U, K, F, Hh, Ca, C⟩ := R
  refine ⟨T.c ⟨s0 2 (by omega), s0 0 (by omega), s 1 (by omega) (by omega), s 3 (by omega) (by omega), s 4 (by omega) (by omega), s 5 (by omega) (by omega)⟩ ⟨t1, t4, t 2 (by omega) (by omega), t 5 (by omega) (by omega), t 6 (by omega) (by omega), t 7 (by omega) (by omega), t 8 (by omega) (by omega)⟩, ?_, ?_, ?_, ?_, ?_, ?_, ?_⟩
  · unfold gN; rw [s 2 (by omega) (by omega), t 2 (by omega) (by omega), t 3 (by omega) (by omega)]; exact N
  · unfold gU; rw [t 2 (by omega) (by omega), t 9 (by omega) (by omega)]; exact U
  · unfold gK; rw [s0 2 (by omega), s 6 (by omega) (by omega), s 7 (by omega) (by omega), s2, t 9 (by omega) (by omega), t 10 (by omega) (by omega), t 11 (by omega) (by omega)]; exact K
  · unfold gF; rw [s0 2 (by omega), s 8 (by omega) (by omega), s 9 (by omega) (by omega), s 10 (by omega) (by omega), s2, t 12 (by omega) (by omega), t 13 (by omega) (by omega), t 14 (by omega) (by omega), t 15 (by omega) (by omega)]; exact F
  · unfold gH; rw [t 12 (by omega) (by omega)]; exact Hh
  · exact gCa_c Ca (t 5 (by omega) (by omega)) (t 8 (by omega) (by omega)) (t 2 (by omega) (by omega)) (fun j hj hz => Or.inl (by rw [t 12 (by omega) (by omega)] at hz; exact hz))
  · unfold gC; rw [s 6 (by omega) (by omega), s 8 (by omega) (by omega), s0 3 (by omega), s0 4 (by omega)]; exact C
theorem rel_00 {M : Int} {h : Nat} {x : Int32} {σ : CS} {τ : MS} (R : Rel M h σ τ) : Rel M h σ (mS 0 0 x τ) := rel_cong R (fun _ _ => rfl) (fun _ _ _ => rfl) rfl rfl rfl (fun k hk _ => mS_ne (by omega))
theorem rel_M0 {M : Int} {h : Nat} {σ : CS} {τ : MS} (R : Rel M h σ τ) : 0 ≤ M := by
  have := R.1.1
  omega
/-- packets -/
def gP (P : Nat) (σ : CS) (τ : MS) : Prop := ∀ p, p < P → σ.1 12 p = τ 17 p ∧ σ.1 14 p = τ 18 p ∧ σ.1 15 p = τ 19 p ∧ σ.1 13 p = τ 23 p ∧ (∀ i, i < (τ 23 p).toNatClampNeg → σ.1 (19 + p) i = τ 24 (40 * p + i)) ∧ (τ 19 p = 0 → σ.1 16 p = τ 20 p ∧ σ.1 17 p = τ 21 p ∧ σ.1 18 p = τ 22 p)
def mKp (τ τ' : MS) : Prop := ∀ k, 17 ≤ k → k ≤ 24 → τ' k = τ k
theorem mKp.r {τ : MS} : mKp τ τ := fun _ _ _ => rfl
theorem mKp.t {τ ρ κ : MS} (h1 : mKp τ ρ) (h2 : mKp ρ κ) : mKp τ κ := fun k a b => (h2 k a b).trans (h1 k a b)
theorem mKp_itr {f : Nat → MS → MS} (h : ∀ i t, mKp t (f i t)) (n i : Nat) (τ : MS) : mKp τ (itr f n i τ) := itr_inv (P := fun q => mKp τ q) (fun i q hq => hq.t (h i q)) n i τ mKp.r
theorem mKp_S {k j : Nat} {v : Int32} {τ : MS} (h : k < 17 ∨ 24 < k) : mKp τ (mS k j v τ) := fun i a b => mS_ne (by omega)
theorem mKp_tell {u : Nat} {τ : MS} : mKp τ (mTell u τ) := fun k a b => mTell_k (by omega) (by omega) (by omega) (by omega) (by omega) (by omega) (by omega) (by omega)
theorem mKp_sendAll {u v : Nat} {τ : MS} : mKp τ (mSendAll u v τ) := fun k a b => mSendAll_k (by omega) (by omega) (by omega) (by omega)
theorem gP_keep {P : Nat} {σ ρ : CS} {τ κ : MS} (h : gP P σ τ) (hc : keep σ ρ) (hm : mKp τ κ) : gP P ρ κ := fun p hp => by
  rw [hc.1 12 (by omega), hc.1 13 (by omega), hc.1 14 (by omega), hc.1 15 (by omega), hc.1 16 (by omega), hc.1 17 (by omega), hc.1 18 (by omega), hc.1 (19 + p) (by omega), hm 17 (by omega) (by omega), hm 18 (by omega) (by omega), hm 19 (by omega) (by omega), hm 20 (by omega) (by omega), hm 21 (by omega) (by omega), hm 22 (by omega) (by omega), hm 23 (by omega) (by omega), hm 24 (by omega) (by omega)]
  exact h p hp
theorem upd_self {f : Nat → Int32} {j : Nat} : upd f j (f j) = f := by
  funext i
  by_cases e : i = j
  · rw [e, pk_us]
  · rw [pk_un e]
theorem mS_self {k j : Nat} {τ : MS} : mS k j (τ k j) τ = τ := by
  funext i
  by_cases e : i = k
  · rw [e, mS_at, upd_self]
  · rw [mS_ne e]
theorem mS_0s {k j : Nat} {τ : MS} {x : Int32} (h : τ k j = x) : mS k j x τ = τ := by rw [← h]; exact mS_self
/-- a link goes up -/
theorem rel_up1 {M : Int} {u v : Nat} {σ : CS} {τ : MS} (R : Rel M 600 σ τ) (hu : u < 8) (hv : v < 8) (hj : τ 5 (8 * u + v) ≠ 0) : Rel M 600 (up1 u v σ) (mU1 u v τ) := by
  obtain ⟨T, N, U, K, F, Hh, Ca, C⟩ := R
  obtain ⟨T0, T1, T2, T3, T4⟩ := T
  have e8 : (mU1 u v τ) 8 = upd (upd (τ 8) (8 * u + v) (nI 1)) (8 * v + u) (nI 1) := rfl
  have c5 : (up1 u v σ).1 5 = upd (upd (σ.1 5) (8 * u + v) (nI 1)) (8 * v + u) (nI 1) := by
    rw [show 8 * u + v = u * 8 + v by omega, show 8 * v + u = v * 8 + u by omega]; rfl
  have hj' : τ 5 (8 * v + u) ≠ 0 := fun q => by
    have a := (T2 (8 * v + u) (by omega)).2.2.2.1.mp q
    rw [← (T3 u v hu hv).1] at a
    exact hj ((T2 (8 * u + v) (by omega)).2.2.2.1.mpr a)
  have T' : gT M (up1 u v σ) (mU1 u v τ) := by
    refine ⟨T0, T1, fun j hj9 => ?_, fun a b ha hb => ?_, T4⟩
    · obtain ⟨q1, q2, q3, q4, q5, q6⟩ := T2 j hj9
      refine ⟨q1, q2, ?_, q4, fun z => ?_, q6⟩
      · rw [e8, c5]
        by_cases e : j = 8 * v + u
        · rw [e, pk_us, pk_us]
        · rw [pk_un e, pk_un e]
          by_cases e2 : j = 8 * u + v
          · rw [e2, pk_us, pk_us]
          · rw [pk_un e2, pk_un e2]; exact q3
      · have z : τ 5 j = 0 := z
        rw [e8, pk_un (fun q => hj' (by rw [← q]; exact z)), pk_un (fun q => hj (by rw [← q]; exact z))]
        exact q5 z
    · refine ⟨(T3 a b ha hb).1, ?_⟩
      rw [e8]
      have sy := (T3 a b ha hb).2
      by_cases e : a = u ∧ b = v
      · obtain ⟨rfl, rfl⟩ := e
        rw [pk_us]
        by_cases e2 : 8 * a + b = 8 * b + a
        · rw [e2, pk_us]
        · rw [pk_un e2, pk_us]
      · by_cases e2 : a = v ∧ b = u
        · obtain ⟨rfl, rfl⟩ := e2
          rw [pk_us]
          by_cases e3 : 8 * b + a = 8 * a + b
          · rw [e3, pk_us]
          · rw [pk_un e3, pk_us]
        · rw [pk_un (by omega), pk_un (by omega), pk_un (by omega), pk_un (by omega)]
          exact sy
  refine ⟨T', N, U, K, F, Hh, fun j hj9 hz => ?_, C⟩
  obtain ⟨a1, a2, a3, a4⟩ := mCarr_of (Ca j hj9 hz)
  refine mCarr_to a1 ?_ a3 a4
  rw [e8]
  generalize 8 * (j / 64) + j / 8 % 8 = w at *
  by_cases e : w = 8 * v + u
  · rw [e, pk_us]; decide
  · rw [pk_un e]
    by_cases e2 : w = 8 * u + v
    · rw [e2, pk_us]; decide
    · rw [pk_un e2]; exact a2
theorem mCarr_tell {u a b : Nat} {τ : MS} : mCarr (mTell u τ) a b = mCarr τ a b := mCarr_c (mTell_k (by omega) (by omega) (by omega) (by omega) (by omega) (by omega) (by omega) (by omega)) (mTell_k (by omega) (by omega) (by omega) (by omega) (by omega) (by omega) (by omega) (by omega)) (mTell_k (by omega) (by omega) (by omega) (by omega) (by omega) (by omega) (by omega) (by omega))
theorem mCarr_all {u v a b : Nat} {τ : MS} : mCarr (mSendAll u v τ) a b = mCarr τ a b := mCarr_c (mSendAll_k (by omega) (by omega) (by omega) (by omega)) (mSendAll_k (by omega) (by omega) (by omega) (by omega)) (mSendAll_k (by omega) (by omega) (by omega) (by omega))
theorem mTell_2 {u : Nat} {τ : MS} : (mTell u τ) 2 = τ 2 := mTell_k (by omega) (by omega) (by omega) (by omega) (by omega) (by omega) (by omega) (by omega)
theorem rel_U2 {M : Int} {a b : Nat} {σ : CS} {τ : MS} (R : Rel M 600 σ τ) (ha : a < 8) (hb : b < 8) (hM : M + 2 < 1073741824) (hc : mCarr τ a b = true) : Rel (M + 2) 600 (cSendAll b a (cSendAll a b (cTell b (cTell a σ)))) (mU2 a b τ) := by
  obtain ⟨-, -, h3, h4⟩ := mCarr_of hc
  have R1 := rel_tell R ha (by omega) h3 (fun i hi => by omega)
  have R2 := rel_tell R1 hb (by omega) (by rw [mTell_2]; exact h4) (fun i hi => by omega)
  have c2 : mCarr (mTell b (mTell a τ)) a b = true := by rw [mCarr_tell, mCarr_tell]; exact hc
  have R3 := rel_sendAll R2 ha hb c2 (fun o ho => by omega)
  have R4 := rel_sendAll R3 hb ha (by rw [← mCarr_sym R3.1 ha hb, mCarr_all]; exact c2) (fun o ho => by omega)
  exact R4.m (by omega)
theorem rel_up {M : Int} {u v : Nat} {σ : CS} {τ : MS} (R : Rel M 600 σ τ) (hu : u < 8) (hv : v < 8) (hM : M + 2 < 1073741824) (hj : τ 5 (8 * u + v) ≠ 0) : Rel (M + 2) 600 (cUp u v σ) (mUp u v τ) := by
  have R1 := rel_up1 R hu hv hj
  have e8 : (mU1 u v τ) 8 (8 * u + v) ≠ 0 := by
    show upd (upd (τ 8) (8 * u + v) (nI 1)) (8 * v + u) (nI 1) (8 * u + v) ≠ 0
    by_cases e : 8 * u + v = 8 * v + u
    · rw [← e, pk_us]; decide
    · rw [pk_un e, pk_us]; decide
  unfold cUp mUp
  rw [carr_eq R1.1 hu hv]
  by_cases h1 : (mU1 u v τ) 2 u = 0
  · rw [if_neg (fun q => (mCarr_of q).2.2.1 h1), if_pos h1]
    exact R1.m (by omega)
  · by_cases h2 : (mU1 u v τ) 2 v = 0
    · rw [if_neg (fun q => (mCarr_of q).2.2.2 h2), if_neg h1, if_pos h2]
      exact R1.m (by omega)
    · have hc : mCarr (mU1 u v τ) u v = true := mCarr_to hj e8 h1 h2
      rw [if_pos hc, if_neg h1, if_neg h2]
      by_cases h3 : v ≤ u
      · rw [if_pos h3, Nat.max_eq_left h3, Nat.min_eq_right h3, show u + v - v = u by omega]
        exact rel_U2 R1 hv hu hM (by rw [mCarr_sym R1.1 hv hu]; exact hc)
      · rw [if_neg h3, Nat.max_eq_right (by omega), Nat.min_eq_left (by omega), show u + v - u = v by omega]
        exact rel_U2 R1 hu hv hM hc
theorem mKp_up {u v : Nat} {τ : MS} : mKp τ (mUp u v τ) := by
  have h1 : mKp τ (mU1 u v τ) := (mKp_S (by omega)).t (mKp_S (by omega))
  have h2 : ∀ a b t, mKp t (mU2 a b t) := fun a b t => (mKp_tell.t (mKp_tell.t (mKp_sendAll.t mKp_sendAll)))
  unfold mUp
  split
  · exact h1
  · split
    · exact h1
    · split
      · exact h1.t (h2 _ _ _)
      · exact h1.t (h2 _ _ _)
/-- a link is laid -/
theorem rel_lay {M : Int} {u v : Nat} {z w : Int32} {σ : CS} {τ : MS} (R : Rel M 600 σ τ) (hu : u < 8) (hv : v < 8) (huv : u ≠ v) (hz : 0 < z.toInt ∧ z.toInt ≤ 50) (hj : τ 5 (8 * u + v) = 0) : Rel M 600 (link1 u v z w σ) (mL1 u v z w τ) := by
  obtain ⟨T, N, U, K, F, Hh, Ca, C⟩ := R
  obtain ⟨T0, T1, T2, T3, T4⟩ := T
  have eu : u * 8 + v = 8 * u + v := by omega
  have ev : v * 8 + u = 8 * v + u := by omega
  have c3 : (link1 u v z w σ).1 3 = upd (upd (σ.1 3) (8 * u + v) z) (8 * v + u) z := by rw [← eu, ← ev]; rfl
  have c4 : (link1 u v z w σ).1 4 = upd (upd (σ.1 4) (8 * u + v) w) (8 * v + u) w := by rw [← eu, ← ev]; rfl
  have e5 : (mL1 u v z w τ) 5 = upd (upd (τ 5) (8 * u + v) (nI 1)) (8 * v + u) (nI 1) := rfl
  have e6 : (mL1 u v z w τ) 6 = upd (upd (τ 6) (8 * u + v) z) (8 * v + u) z := rfl
  have e7 : (mL1 u v z w τ) 7 = upd (upd (τ 7) (8 * u + v) w) (8 * v + u) w := rfl
  have hz0 : z ≠ 0 := fun q => by have := te0.mp q; omega
  have n1 : nI 1 ≠ 0 := by decide
  have T' : gT M (link1 u v z w σ) (mL1 u v z w τ) := by
    refine ⟨⟨T0.1, T0.2.1, T0.2.2.1, ?_⟩, T1, fun j hj9 => ?_, fun a b ha hb => ?_, fun a ha => ?_⟩
    · show σ.1 0 0 + nI 1 = τ 0 4 + nI 1
      rw [T0.2.2.2]
    · obtain ⟨q1, q2, q3, q4, q5, q6⟩ := T2 j hj9
      rw [c3, c4, e5, e6, e7]
      by_cases e : j = 8 * v + u
      · rw [e, pk_us, pk_us, pk_us, pk_us, pk_us]
        rw [e] at q3
        exact ⟨rfl, rfl, q3, ⟨fun q => absurd q n1, fun q => absurd q hz0⟩, fun q => absurd q n1, ⟨by omega, hz.2⟩⟩
      · rw [pk_un e, pk_un e, pk_un e, pk_un e, pk_un e]
        by_cases e2 : j = 8 * u + v
        · rw [e2, pk_us, pk_us, pk_us, pk_us, pk_us]
          rw [e2] at q3
          exact ⟨rfl, rfl, q3, ⟨fun q => absurd q n1, fun q => absurd q hz0⟩, fun q => absurd q n1, ⟨by omega, hz.2⟩⟩
        · rw [pk_un e2, pk_un e2, pk_un e2, pk_un e2, pk_un e2]
          exact ⟨q1, q2, q3, q4, q5, q6⟩
    · refine ⟨?_, (T3 a b ha hb).2⟩
      rw [e6]
      have sy := (T3 a b ha hb).1
      by_cases e : a = u ∧ b = v
      · obtain ⟨rfl, rfl⟩ := e
        rw [pk_us, pk_un (by omega), pk_us]
      · by_cases e2 : a = v ∧ b = u
        · obtain ⟨rfl, rfl⟩ := e2
          rw [pk_us, pk_un (by omega), pk_us]
        · rw [pk_un (by omega), pk_un (by omega), pk_un (by omega), pk_un (by omega)]
          exact sy
    · rw [e5, pk_un (by omega), pk_un (by omega)]
      exact T4 a ha
  refine ⟨T', N, U, K, F, Hh, fun j hj9 hz => ?_, C⟩
  obtain ⟨a1, a2, a3, a4⟩ := mCarr_of (Ca j hj9 hz)
  refine mCarr_to ?_ a2 a3 a4
  rw [e5]
  generalize 8 * (j / 64) + j / 8 % 8 = w at *
  by_cases e : w = 8 * v + u
  · rw [e, pk_us]; decide
  · rw [pk_un e]
    by_cases e2 : w = 8 * u + v
    · rw [e2, pk_us]; decide
    · rw [pk_un e2]; exact a1
