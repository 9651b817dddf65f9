/-! A TICK WITHOUT PACKETS -/
theorem rel_tellA {M : Int} {σ : CS} {τ : MS} (R : Rel M 600 σ τ) (hM : M + 8 < 1073741824) : Rel (M + 8) 600 (cTellA σ) (itr fTk1 8 0 τ) := by
  unfold cTellA
  have := itr_rel (f := fTA) (g := fTk1) (fun j s t => Rel (M + j) 600 s t) 0 σ τ (R.m (by omega)) 8 (fun j s t hj hR => by
    rw [Nat.zero_add]
    obtain ⟨k1, k2, k3, k4, k5⟩ := hR.2.2.2.1 (8 * j + j) (by omega) (fun h => h)
    have hU := hR.2.2.1 j j hj hj
    obtain ⟨T1, T2, T3, -⟩ := hR.1.1
    unfold fTA fTk1
    rw [show j * 8 + j = 8 * j + j by omega, k1]
    by_cases hz : τ = τ ∧ t 9 (8 * j + j) = 0
    · have hz := hz.2
      rw [if_pos (by rw [hz]; exact tle.mpr (Int.le_refl _))]
      have e : (if t 2 j = 0 then t else if t 9 (8 * j + j) ≤ 0 then t else if t 10 (8 * j + j) = nI 40 then mTell j t else t) = t := by
        rw [if_pos (show t 9 (8 * j + j) ≤ 0 by rw [hz]; exact tle.mpr (Int.le_refl _))]
        split <;> rfl
      rw [e]
      exact hR.m (by omega)
    · have hz : t 9 (8 * j + j) ≠ 0 := fun q => hz ⟨rfl, q⟩
      have hz' : (t 9 (8 * j + j)).toInt ≠ 0 := fun q => hz (te0.mpr q)
      have hle : ¬ t 9 (8 * j + j) ≤ 0 := fun q => by have := tle.mp q; rw [t0] at this; omega
      have hth : t 2 j ≠ 0 := fun q => hz (hU q)
      obtain ⟨⟨a1, a2, a3⟩, -⟩ := k4 hz
      rw [if_neg hle, if_neg hth, if_neg hle]
      have eA : (s.1 0 2 - s.1 7 (8 * j + j)).toInt = (t 10 (8 * j + j)).toInt := by rw [tS (by omega) (by omega)]; exact a1
      by_cases h40 : t 10 (8 * j + j) = nI 40
      · rw [if_pos h40, if_pos (by rw [← h40]; exact teq.mpr eA)]
        have := rel_tell hR hj (by omega) hth (fun i hi => by omega)
        exact Rel.m this (by omega)
      · rw [if_neg h40, if_neg (fun q => h40 (by rw [← q]; exact teq.mpr eA.symm))]
        exact hR.m (by omega))
  exact this.m (by omega)
theorem rel_arr {M : Int} {σ : CS} {τ : MS} (R : Rel M 600 σ τ) (hM : M + 512 < 1073741824) : Rel (M + 512) 600 (cArr σ) (itr fTk2 512 0 τ) := by
  unfold cArr
  by_cases h0 : σ.1 0 4 = 0
  · rw [if_pos h0]
    have hc : cntN (σ.1 8) 512 = 0 := by
      have h1 := R.2.2.2.2.2.2.2.2.2.2
      rw [h0] at h1
      have h2 := cntN_le (σ.1 8) 512
      exact nI_inj (by omega) (by decide) (h1.symm.trans nI0.symm)
    have hz := cntN_0 512 hc
    rw [itr_id (f := fTk2) 0 τ 512 (fun j hj => by
      rw [Nat.zero_add]
      have e := (R.2.2.2.2.1 j hj (by omega)).1
      rw [hz j hj] at e
      unfold fTk2
      rw [if_pos (by rw [← e]; exact tle.mpr (Int.le_refl _))])]
    exact R.m (by omega)
  · rw [if_neg h0]
    have := itr_rel (f := fArr) (g := fTk2) (fun j s t => Rel (M + j) 600 s t) 0 σ τ (R.m (by omega)) 512 (fun j s t hj hR => by
      rw [Nat.zero_add]
      obtain ⟨f1, f2, f3, f4⟩ := hR.2.2.2.2.1 j hj (by omega)
      obtain ⟨T1, T2, T3, -⟩ := hR.1.1
      unfold fArr fTk2
      rw [f1]
      by_cases hle : t 12 j ≤ 0
      · rw [if_pos hle, if_pos hle]; exact hR.m (by omega)
      · rw [if_neg hle, if_neg hle]
        have hp : 0 < (t 12 j).toInt := by
          have : ¬ (t 12 j).toInt ≤ (0 : Int32).toInt := fun q => hle (tle.mpr q)
          rw [t0] at this; omega
        obtain ⟨-, e2, -⟩ := f4 (fun q => by rw [te0.mp q] at hp; omega)
        rw [e2, T1]
        by_cases ha : t 14 j = t 0 1
        · rw [if_pos ha, if_pos ha]
          exact Rel.m (rel_recv hR hj (by omega) hp) (by omega)
        · rw [if_neg ha, if_neg ha]; exact hR.m (by omega))
    exact this.m (by omega)
/-- how many of those from i on, n of them, aren't 0 -/
def cntR (f : Nat → Int32) : Nat → Nat → Nat
  | _, 0 => 0
  | i, n + 1 => (if f i = 0 then 0 else 1) + cntR f (i + 1) n
theorem cntR_N (f : Nat → Int32) : ∀ n i, cntN f (i + n) = cntN f i + cntR f i n := by
  intro n
  induction n with
  | zero => intro i; rfl
  | succ n ih =>
    intro i
    rw [show i + (n + 1) = (i + 1) + n by omega, ih (i + 1)]
    show cntN f i + (if f i = 0 then 0 else 1) + cntR f (i + 1) n = cntN f i + ((if f i = 0 then 0 else 1) + cntR f (i + 1) n)
    omega
theorem cntR_0 {f : Nat → Int32} : ∀ n i, cntR f i n = 0 → ∀ j, j < n → f (i + j) = 0 := by
  intro n
  induction n with
  | zero => intro i _ j h; omega
  | succ n ih =>
    intro i h j hj
    have h : (if f i = 0 then 0 else 1) + cntR f (i + 1) n = 0 := h
    by_cases e : f i = 0
    · rw [if_pos e] at h
      rcases Nat.eq_zero_or_pos j with h1 | h1
      · subst h1; exact e
      · have := ih (i + 1) (by omega) (j - 1) (by omega)
        rw [show i + 1 + (j - 1) = i + j by omega] at this
        exact this
    · rw [if_neg e] at h; omega
theorem cntR_up {f : Nat → Int32} {q : Nat} {x : Int32} : ∀ n i, q < i → cntR (upd f q x) i n = cntR f i n := by
  intro n
  induction n with
  | zero => intro i _; rfl
  | succ n ih =>
    intro i h
    show (if upd f q x i = 0 then 0 else 1) + cntR (upd f q x) (i + 1) n = (if f i = 0 then 0 else 1) + cntR f (i + 1) n
    rw [pk_un (by omega), ih (i + 1) (by omega)]
theorem cntR_le (f : Nat → Int32) : ∀ n i, cntR f i n ≤ n := by
  intro n
  induction n with
  | zero => intro i; exact Nat.le_refl _
  | succ n ih =>
    intro i
    have := ih (i + 1)
    show (if f i = 0 then 0 else 1) + cntR f (i + 1) n ≤ n + 1
    split <;> omega
def fCl (nb bb cb cn : Nat) (y : Int32) (i : Nat) (σ : CS) : CS := if σ.1 nb i ≤ 0 then σ else if y < σ.1 bb i then σ else pClear nb cb cn i σ
theorem cClr_eq {nb bb cb cn : Nat} {y : Int32} (h0 : nb ≠ 0) : ∀ (n i : Nat) (x : Int32) (σ : CS), n ≤ 512 → x = nI (cntR (σ.1 nb) i n) → (∀ j, j < n → 0 ≤ (σ.1 nb (i + j)).toInt) → cClr nb bb cb cn y n i x σ = itr (fCl nb bb cb cn y) n i σ := by
  intro n
  induction n with
  | zero => intro i x σ _ _ _; rfl
  | succ n ih =>
    intro i x σ hn hx hp
    have hcl := cntR_le (σ.1 nb) (n + 1) i
    unfold cClr
    by_cases h1 : x ≤ 0
    · rw [if_pos h1]
      have hz : cntR (σ.1 nb) i (n + 1) = 0 := by
        have := tle.mp h1
        rw [hx, t0, tn (by omega)] at this
        omega
      have hz := cntR_0 (n + 1) i hz
      exact (itr_id i σ (n + 1) (fun j hj => by unfold fCl; rw [hz j hj, if_pos (tle.mpr (Int.le_refl _))])).symm
    · rw [if_neg h1]
      show _ = itr (fCl nb bb cb cn y) n (i + 1) (fCl nb bb cb cn y i σ)
      have hpi := hp 0 (by omega)
      rw [Nat.add_zero] at hpi
      by_cases h2 : σ.1 nb i ≤ 0
      · have e0 : σ.1 nb i = 0 := te0.mpr (by have := tle.mp h2; rw [t0] at this; omega)
        rw [if_pos h2]
        have e : fCl nb bb cb cn y i σ = σ := by unfold fCl; rw [if_pos h2]
        rw [e]
        refine ih (i + 1) x σ (by omega) ?_ (fun j hj => by rw [show i + 1 + j = i + (j + 1) by omega]; exact hp (j + 1) (by omega))
        rw [hx]
        show nI ((if σ.1 nb i = 0 then 0 else 1) + cntR (σ.1 nb) (i + 1) n) = _
        rw [if_pos e0, Nat.zero_add]
      · have e0 : σ.1 nb i ≠ 0 := fun q => h2 (by rw [q]; exact tle.mpr (Int.le_refl _))
        rw [if_neg h2]
        have hx1 : x + Int32.ofInt (-1) = nI (cntR (σ.1 nb) (i + 1) n) := by
          rw [hx]
          show nI ((if σ.1 nb i = 0 then 0 else 1) + cntR (σ.1 nb) (i + 1) n) + Int32.ofInt (-1) = _
          rw [if_neg e0, Nat.add_comm]
          exact pk_m1 _
        by_cases h3 : y < σ.1 bb i
        · rw [if_pos h3]
          have e : fCl nb bb cb cn y i σ = σ := by unfold fCl; rw [if_neg h2, if_pos h3]
          rw [e]
          exact ih (i + 1) _ σ (by omega) hx1 (fun j hj => by rw [show i + 1 + j = i + (j + 1) by omega]; exact hp (j + 1) (by omega))
        · rw [if_neg h3]
          have e : fCl nb bb cb cn y i σ = pClear nb cb cn i σ := by unfold fCl; rw [if_neg h2, if_neg h3]
          rw [e]
          obtain ⟨-, p2, -⟩ := pC (nb := nb) (cb := cb) (cn := cn) (row := i) (σ := σ) h0
          refine ih (i + 1) _ _ (by omega) ?_ (fun j hj => ?_)
          · rw [p2, cntR_up n (i + 1) (by omega)]; exact hx1
          · rw [p2, pk_un (by omega), show i + 1 + j = i + (j + 1) by omega]; exact hp (j + 1) (by omega)
/-- rows on the way: ages of those that the loop hasn't reached are one behind -/
def aOf (d : Int) (tm bo ag : Int32) : Prop := tm.toInt - bo.toInt = ag.toInt + d ∧ 0 ≤ ag.toInt ∧ ag.toInt < 60
def kRo (d M : Int) (tm n b : Int32) (c : Int64) (n' a' : Int32) (t' : Nat → Int32) : Prop :=
  n = n' ∧ 0 ≤ n'.toInt ∧ n'.toInt ≤ M ∧ (n' ≠ 0 → aOf d tm b a' ∧ ∀ w, w < 8 → costF c w = t' w) ∧ (n' = 0 → c = 0)
def fRo (d M : Int) (tm n b ar : Int32) (c : Int64) (n' a' ar' : Int32) (t' : Nat → Int32) : Prop :=
  n = n' ∧ 0 ≤ n'.toInt ∧ n'.toInt ≤ M ∧ (n' ≠ 0 → aOf d tm b a' ∧ ar = ar' ∧ ∀ w, w < 8 → costF c w = t' w)
def Re2 (M : Int) (i1 i2 : Nat) (σ : CS) (τ : MS) : Prop := gT M σ τ ∧ gN M σ τ ∧ gU τ ∧ (∀ j, j < 64 → kRo (if j < i1 then 0 else 1) M (σ.1 0 2) (σ.1 6 j) (σ.1 7 j) (σ.2 0 j) (τ 9 j) (τ 10 j) (fun w => τ 11 (8 * j + w))) ∧ (∀ j, j < 512 → fRo (if j < i2 then 0 else 1) M (σ.1 0 2) (σ.1 8 j) (σ.1 9 j) (σ.1 10 j) (σ.2 1 j) (τ 12 j) (τ 13 j) (τ 14 j) (fun w => τ 15 (8 * j + w))) ∧ gCa τ ∧ gC σ
theorem re2_of {M : Int} {σ : CS} {τ : MS} (R : Rel M 600 σ τ) (hM : M + 1 < 1073741824) : Re2 (M + 1) 0 0 (tk1 σ) (mTk0 τ) := by
  obtain ⟨T, N, U, K, F, Hh, Ca, C⟩ := R.m (show M ≤ M + 1 by omega)
  have T0 := R.1.1
  have et : (σ.1 0 2 + nI 1).toInt = (σ.1 0 2).toInt + 1 := by
    have h1 := congrArg Int32.toInt T0.1
    rw [tA (by rw [tn1]; omega) (by rw [tn1]; omega), tn1]
  have h1 := congrArg Int32.toInt T0.1
  have c02 : (tk1 σ).1 0 2 = σ.1 0 2 + nI 1 := rfl
  have m01 : (mTk0 τ) 0 1 = τ 0 1 + nI 1 := rfl
  refine ⟨⟨⟨by rw [c02, m01, T0.1], by rw [m01, ← T0.1, et]; omega, by rw [m01, ← T0.1, et]; omega, T0.2.2.2⟩, T.2⟩, N, U, fun j hj => ?_, fun j hj => ?_, Ca, C⟩
  · obtain ⟨k1, k2, k3, k4, k5⟩ := K j hj (fun h => h)
    refine ⟨k1, k2, k3, fun z => ⟨?_, (k4 z).2⟩, k5⟩
    obtain ⟨⟨a1, a2, a3⟩, -⟩ := k4 z
    rw [c02]
    unfold aOf
    rw [et, if_neg (by omega)]
    exact ⟨by show (σ.1 0 2).toInt + 1 - (σ.1 7 j).toInt = (τ 10 j).toInt + 1; omega, a2, a3⟩
  · obtain ⟨k1, k2, k3, k4⟩ := F j hj (by omega)
    refine ⟨k1, k2, k3, fun z => ⟨?_, (k4 z).2⟩⟩
    obtain ⟨⟨a1, a2, a3⟩, -⟩ := k4 z
    rw [c02]
    unfold aOf
    rw [et, if_neg (by omega)]
    exact ⟨by show (σ.1 0 2).toInt + 1 - (σ.1 9 j).toInt = (τ 13 j).toInt + 1; omega, a2, a3⟩
theorem re2_to {M : Int} {σ : CS} {τ : MS} (R : Re2 M 64 512 σ τ) : Rel M 600 σ τ := by
  obtain ⟨T, N, U, K, F, Ca, C⟩ := R
  refine ⟨T, N, U, fun j hj _ => ?_, fun j hj _ => ?_, fun q => absurd q (by decide), Ca, C⟩
  · obtain ⟨k1, k2, k3, k4, k5⟩ := K j hj
    refine ⟨k1, k2, k3, fun z => ⟨?_, (k4 z).2⟩, k5⟩
    have := (k4 z).1
    rw [if_pos hj] at this
    unfold aOf at this
    rw [Int.add_zero] at this
    exact this
  · obtain ⟨k1, k2, k3, k4⟩ := F j hj
    refine ⟨k1, k2, k3, fun z => ⟨?_, (k4 z).2⟩⟩
    have := (k4 z).1
    rw [if_pos hj] at this
    unfold aOf at this
    rw [Int.add_zero] at this
    exact this
theorem fG1_9 {i : Nat} {τ : MS} : (fG1 i τ) 9 = upd (τ 9) i (if τ 10 i + nI 1 < nI 60 then τ 9 i else nI 0) ∧ (fG1 i τ) 10 = upd (τ 10) i (τ 10 i + nI 1) ∧ ∀ k, k ≠ 9 → k ≠ 10 → (fG1 i τ) k = τ k := by
  have e : (mG0 10 i τ) 10 i = τ 10 i + nI 1 := by unfold mG0; rw [mS_at, pk_us]
  unfold fG1
  rw [e]
  by_cases h : τ 10 i + nI 1 < nI 60
  · rw [if_pos h, if_pos h]
    exact ⟨by rw [mS_at]; unfold mG0; rw [mS_ne (by decide)], by rw [mS_ne (by decide)]; unfold mG0; rw [mS_at], fun k h9 h10 => by rw [mS_ne h9]; unfold mG0; rw [mS_ne h10]⟩
  · rw [if_neg h, if_neg h]
    exact ⟨by rw [mS_at]; unfold mG0; rw [mS_ne (by decide)], by rw [mS_ne (by decide)]; unfold mG0; rw [mS_at], fun k h9 h10 => by rw [mS_ne h9]; unfold mG0; rw [mS_ne h10]⟩
theorem fG2_12 {i : Nat} {τ : MS} : (fG2 i τ) 12 = upd (τ 12) i (if τ 13 i + nI 1 < nI 60 then τ 12 i else nI 0) ∧ (fG2 i τ) 13 = upd (τ 13) i (τ 13 i + nI 1) ∧ ∀ k, k ≠ 12 → k ≠ 13 → (fG2 i τ) k = τ k := by
  have e : (mG0 13 i τ) 13 i = τ 13 i + nI 1 := by unfold mG0; rw [mS_at, pk_us]
  unfold fG2
  rw [e]
  by_cases h : τ 13 i + nI 1 < nI 60
  · rw [if_pos h, if_pos h]
    exact ⟨by rw [mS_at]; unfold mG0; rw [mS_ne (by decide)], by rw [mS_ne (by decide)]; unfold mG0; rw [mS_at], fun k h9 h10 => by rw [mS_ne h9]; unfold mG0; rw [mS_ne h10]⟩
  · rw [if_neg h, if_neg h]
    exact ⟨by rw [mS_at]; unfold mG0; rw [mS_ne (by decide)], by rw [mS_ne (by decide)]; unfold mG0; rw [mS_at], fun k h9 h10 => by rw [mS_ne h9]; unfold mG0; rw [mS_ne h10]⟩
theorem age_eq {tm b a : Int32} (h : aOf 1 tm b a) (ht : 0 ≤ tm.toInt) : (a + nI 1).toInt = a.toInt + 1 ∧ (tm - nI 60 < b ↔ a + nI 1 < nI 60) ∧ (a + nI 1 < nI 60 → aOf 0 tm b (a + nI 1)) := by
  obtain ⟨h1, h2, h3⟩ := h
  have e1 : (a + nI 1).toInt = a.toInt + 1 := by rw [tA (by rw [tn1]; omega) (by rw [tn1]; omega), tn1]
  have h60 : (nI 60).toInt = 60 := by decide
  have e2 : (tm - nI 60).toInt = tm.toInt - 60 := by have := tr tm; rw [tS (by rw [h60]; omega) (by rw [h60]; omega), h60]
  refine ⟨e1, ?_, fun h => ?_⟩
  · rw [tlt, tlt, e1, e2, h60]; omega
  · have := tlt.mp h
    rw [e1, h60] at this
    exact ⟨by rw [e1]; omega, by rw [e1]; omega, by rw [e1]; omega⟩
set_option maxHeartbeats 400000 in
theorem re2_k {M : Int} {i i2 : Nat} {y : Int32} {σ : CS} {τ : MS} (R : Re2 M i i2 σ τ) (hi : i < 64) (hy : y = σ.1 0 2 - nI 60) : Re2 M (i + 1) i2 (fCl 6 7 0 3 y i σ) (fG1 i τ) ∧ (fCl 6 7 0 3 y i σ).1 0 2 = σ.1 0 2 := by
  obtain ⟨T, N, U, K, F, Ca, C⟩ := R
  obtain ⟨L9, L10, Lk⟩ := fG1_9 (i := i) (τ := τ)
  obtain ⟨k1, k2, k3, k4, k5⟩ := K i hi
  have uu : uT τ (fG1 i τ) := uT_of (Lk 0 (by decide) (by decide)) (Lk 2 (by decide) (by decide)) (Lk 5 (by decide) (by decide)) (Lk 6 (by decide) (by decide)) (Lk 7 (by decide) (by decide)) (Lk 8 (by decide) (by decide))
  have e2 := Lk 2 (by decide) (by decide)
  have e3 := Lk 3 (by decide) (by decide)
  have e11 := Lk 11 (by decide) (by decide)
  have e12 := Lk 12 (by decide) (by decide)
  have e13 := Lk 13 (by decide) (by decide)
  have e14 := Lk 14 (by decide) (by decide)
  have e15 := Lk 15 (by decide) (by decide)
  have ht0 : 0 ≤ (σ.1 0 2).toInt := by rw [T.1.1]; exact T.1.2.1
  have U' : gU (fG1 i τ) := fun u o hu ho hz => by
    rw [e2] at hz
    have h9 := U u o hu ho hz
    rw [L9]
    by_cases e : 8 * u + o = i
    · rw [e, pk_us]; split
      · rw [← e]; exact h9
      · exact nI0
    · rw [pk_un e]; exact h9
  have Ca' : gCa (fG1 i τ) := gCa_c Ca (Lk 5 (by decide) (by decide)) (Lk 8 (by decide) (by decide)) e2 (fun j hj hz => Or.inl (by rw [e12] at hz; exact hz))
  have N' : gN M σ (fG1 i τ) := by unfold gN; rw [e2, e3]; exact N
  have keepK : ∀ (σ' : CS), (∀ j, j ≠ i → σ'.1 6 j = σ.1 6 j) → σ'.1 7 = σ.1 7 → (∀ j, j ≠ i → σ'.2 0 j = σ.2 0 j) → σ'.1 0 2 = σ.1 0 2 → kRo 0 M (σ.1 0 2) (σ'.1 6 i) (σ.1 7 i) (σ'.2 0 i) ((fG1 i τ) 9 i) ((fG1 i τ) 10 i) (fun w => (fG1 i τ) 11 (8 * i + w)) → ∀ j, j < 64 → kRo (if j < i + 1 then 0 else 1) M (σ'.1 0 2) (σ'.1 6 j) (σ'.1 7 j) (σ'.2 0 j) ((fG1 i τ) 9 j) ((fG1 i τ) 10 j) (fun w => (fG1 i τ) 11 (8 * j + w)) := by
    intro σ' s6 s7 s0 st hrow j hj
    rw [st, s7]
    by_cases e : j = i
    · rw [e, if_pos (by omega)]; exact hrow
    · rw [s6 j e, s0 j e, L9, L10, pk_un e, pk_un e, e11]
      have := K j hj
      by_cases h : j < i
      · rw [if_pos h] at this; rw [if_pos (by omega)]; exact this
      · rw [if_neg h] at this; rw [if_neg (by omega)]; exact this
  have F' : ∀ (σ' : CS), σ'.1 0 2 = σ.1 0 2 → σ'.1 8 = σ.1 8 → σ'.1 9 = σ.1 9 → σ'.1 10 = σ.1 10 → σ'.2 1 = σ.2 1 → ∀ j, j < 512 → fRo (if j < i2 then 0 else 1) M (σ'.1 0 2) (σ'.1 8 j) (σ'.1 9 j) (σ'.1 10 j) (σ'.2 1 j) ((fG1 i τ) 12 j) ((fG1 i τ) 13 j) ((fG1 i τ) 14 j) (fun w => (fG1 i τ) 15 (8 * j + w)) := by
    intro σ' a b c d e j hj
    rw [a, b, c, d, e, e12, e13, e14, e15]; exact F j hj
  unfold fCl
  by_cases hz : τ 9 i = 0
  · have hle : σ.1 6 i ≤ 0 := by rw [k1, hz]; exact tle.mpr (Int.le_refl _)
    rw [if_pos hle]
    refine ⟨⟨T.c sT.rf uu, N', U', keepK σ (fun _ _ => rfl) rfl (fun _ _ => rfl) rfl ?_, F' σ rfl rfl rfl rfl rfl, Ca', C⟩, rfl⟩
    have h9i : (fG1 i τ) 9 i = 0 := by rw [L9, pk_us]; split; exact hz; exact nI0
    rw [h9i]
    exact ⟨by rw [k1, hz], by rw [t0]; omega, by rw [t0]; omega, fun q => absurd rfl q, fun _ => k5 hz⟩
  · have hpos : 0 < (τ 9 i).toInt := by
      have : (τ 9 i).toInt ≠ 0 := fun q => hz (te0.mpr q)
      omega
    have hle : ¬ σ.1 6 i ≤ 0 := fun q => by have := tle.mp q; rw [k1, t0] at this; omega
    rw [if_neg hle]
    obtain ⟨ha, hcs⟩ := k4 hz
    rw [if_neg (by omega)] at ha
    obtain ⟨a1, a2, a3⟩ := age_eq ha ht0
    by_cases hlt : τ 10 i + nI 1 < nI 60
    · rw [if_pos (by rw [hy]; exact a2.mpr hlt)]
      refine ⟨⟨T.c sT.rf uu, N', U', keepK σ (fun _ _ => rfl) rfl (fun _ _ => rfl) rfl ?_, F' σ rfl rfl rfl rfl rfl, Ca', C⟩, rfl⟩
      rw [L9, L10, pk_us, pk_us, if_pos hlt, e11]
      exact ⟨k1, k2, k3, fun _ => ⟨a3 hlt, hcs⟩, fun q => absurd q hz⟩
    · rw [if_neg (by rw [hy]; exact fun q => hlt (a2.mp q))]
      obtain ⟨p1, p2, p4, p5, p6, p7⟩ := pC (nb := 6) (cb := 0) (cn := 3) (row := i) (σ := σ) (by omega)
      refine ⟨⟨T.c (sT_C (Or.inl ⟨rfl, rfl⟩)) uu, by unfold gN; rw [p1 2 (by omega) (by omega)]; exact N', U', keepK _ (fun j hj => by rw [p2, pk_un hj]) (p1 7 (by omega) (by omega)) (fun j hj => by rw [p7, pk_uLn hj]) (p4 2 (by omega)) ?_, F' _ (p4 2 (by omega)) (p1 8 (by omega) (by omega)) (p1 9 (by omega) (by omega)) (p1 10 (by omega) (by omega)) (p6 1 (by omega)), Ca', gC_clrK C hi⟩, p4 2 (by omega)⟩
      rw [L9, pk_us, if_neg hlt, p2, p7, pk_us, pk_uLs, nI0]
      exact ⟨rfl, by rw [t0]; omega, by rw [t0]; omega, fun q => absurd rfl q, fun _ => rfl⟩
set_option maxHeartbeats 400000 in
theorem re2_f {M : Int} {i i1 : Nat} {y : Int32} {σ : CS} {τ : MS} (R : Re2 M i1 i σ τ) (hi : i < 512) (hy : y = σ.1 0 2 - nI 60) : Re2 M i1 (i + 1) (fCl 8 9 1 4 y i σ) (fG2 i τ) ∧ (fCl 8 9 1 4 y i σ).1 0 2 = σ.1 0 2 := by
  obtain ⟨T, N, U, K, F, Ca, C⟩ := R
  obtain ⟨L9, L10, Lk⟩ := fG2_12 (i := i) (τ := τ)
  obtain ⟨k1, k2, k3, k4⟩ := F i hi
  have uu : uT τ (fG2 i τ) := uT_of (Lk 0 (by decide) (by decide)) (Lk 2 (by decide) (by decide)) (Lk 5 (by decide) (by decide)) (Lk 6 (by decide) (by decide)) (Lk 7 (by decide) (by decide)) (Lk 8 (by decide) (by decide))
  have e2 := Lk 2 (by decide) (by decide)
  have e3 := Lk 3 (by decide) (by decide)
  have e9 := Lk 9 (by decide) (by decide)
  have e10 := Lk 10 (by decide) (by decide)
  have e11 := Lk 11 (by decide) (by decide)
  have e14 := Lk 14 (by decide) (by decide)
  have e15 := Lk 15 (by decide) (by decide)
  have ht0 : 0 ≤ (σ.1 0 2).toInt := by rw [T.1.1]; exact T.1.2.1
  have U' : gU (fG2 i τ) := by unfold gU; rw [e2, e9]; exact U
  have Ca' : gCa (fG2 i τ) := gCa_c Ca (Lk 5 (by decide) (by decide)) (Lk 8 (by decide) (by decide)) e2 (fun j hj hz => Or.inl (by
    rw [L9] at hz
    by_cases e : j = i
    · rw [e, pk_us] at hz
      rw [e]
      intro q
      apply hz
      split
      · exact q
      · exact nI0
    · rw [pk_un e] at hz; exact hz))
  have N' : gN M σ (fG2 i τ) := by unfold gN; rw [e2, e3]; exact N
  have keepF : ∀ (σ' : CS), (∀ j, j ≠ i → σ'.1 8 j = σ.1 8 j) → σ'.1 9 = σ.1 9 → σ'.1 10 = σ.1 10 → (∀ j, j ≠ i → σ'.2 1 j = σ.2 1 j) → σ'.1 0 2 = σ.1 0 2 → fRo 0 M (σ.1 0 2) (σ'.1 8 i) (σ.1 9 i) (σ.1 10 i) (σ'.2 1 i) ((fG2 i τ) 12 i) ((fG2 i τ) 13 i) ((fG2 i τ) 14 i) (fun w => (fG2 i τ) 15 (8 * i + w)) → ∀ j, j < 512 → fRo (if j < i + 1 then 0 else 1) M (σ'.1 0 2) (σ'.1 8 j) (σ'.1 9 j) (σ'.1 10 j) (σ'.2 1 j) ((fG2 i τ) 12 j) ((fG2 i τ) 13 j) ((fG2 i τ) 14 j) (fun w => (fG2 i τ) 15 (8 * j + w)) := by
    intro σ' s6 s7 s10 s0 st hrow j hj
    rw [st, s7, s10]
    by_cases e : j = i
    · rw [e, if_pos (by omega)]; exact hrow
    · rw [s6 j e, s0 j e, L9, L10, pk_un e, pk_un e, e14, e15]
      have := F j hj
      by_cases h : j < i
      · rw [if_pos h] at this; rw [if_pos (by omega)]; exact this
      · rw [if_neg h] at this; rw [if_neg (by omega)]; exact this
  have K' : ∀ (σ' : CS), σ'.1 0 2 = σ.1 0 2 → σ'.1 6 = σ.1 6 → σ'.1 7 = σ.1 7 → σ'.2 0 = σ.2 0 → ∀ j, j < 64 → kRo (if j < i1 then 0 else 1) M (σ'.1 0 2) (σ'.1 6 j) (σ'.1 7 j) (σ'.2 0 j) ((fG2 i τ) 9 j) ((fG2 i τ) 10 j) (fun w => (fG2 i τ) 11 (8 * j + w)) := by
    intro σ' a b c e j hj
    rw [a, b, c, e, e9, e10, e11]; exact K j hj
  unfold fCl
  by_cases hz : τ 12 i = 0
  · have hle : σ.1 8 i ≤ 0 := by rw [k1, hz]; exact tle.mpr (Int.le_refl _)
    rw [if_pos hle]
    refine ⟨⟨T.c sT.rf uu, N', U', K' σ rfl rfl rfl rfl, keepF σ (fun _ _ => rfl) rfl rfl (fun _ _ => rfl) rfl ?_, Ca', C⟩, rfl⟩
    have h9i : (fG2 i τ) 12 i = 0 := by rw [L9, pk_us]; split; exact hz; exact nI0
    rw [h9i]
    exact ⟨by rw [k1, hz], by rw [t0]; omega, by rw [t0]; omega, fun q => absurd rfl q⟩
  · have hpos : 0 < (τ 12 i).toInt := by
      have : (τ 12 i).toInt ≠ 0 := fun q => hz (te0.mpr q)
      omega
    have hle : ¬ σ.1 8 i ≤ 0 := fun q => by have := tle.mp q; rw [k1, t0] at this; omega
    rw [if_neg hle]
    obtain ⟨ha, har, hcs⟩ := k4 hz
    rw [if_neg (by omega)] at ha
    obtain ⟨a1, a2, a3⟩ := age_eq ha ht0
    by_cases hlt : τ 13 i + nI 1 < nI 60
    · rw [if_pos (by rw [hy]; exact a2.mpr hlt)]
      refine ⟨⟨T.c sT.rf uu, N', U', K' σ rfl rfl rfl rfl, keepF σ (fun _ _ => rfl) rfl rfl (fun _ _ => rfl) rfl ?_, Ca', C⟩, rfl⟩
      rw [L9, L10, pk_us, pk_us, if_pos hlt, e14, e15]
      exact ⟨k1, k2, k3, fun _ => ⟨a3 hlt, har, hcs⟩⟩
    · rw [if_neg (by rw [hy]; exact fun q => hlt (a2.mp q))]
      obtain ⟨p1, p2, p4, p5, p6, p7⟩ := pC (nb := 8) (cb := 1) (cn := 4) (row := i) (σ := σ) (by omega)
      refine ⟨⟨T.c (sT_C (Or.inr ⟨rfl, rfl⟩)) uu, by unfold gN; rw [p1 2 (by omega) (by omega)]; exact N', U', K' _ (p4 2 (by omega)) (p1 6 (by omega) (by omega)) (p1 7 (by omega) (by omega)) (p6 0 (by omega)), keepF _ (fun j hj => by rw [p2, pk_un hj]) (p1 9 (by omega) (by omega)) (p1 10 (by omega) (by omega)) (fun j hj => by rw [p7, pk_uLn hj]) (p4 2 (by omega)) ?_, Ca', gC_clrF C hi⟩, p4 2 (by omega)⟩
      rw [L9, pk_us, if_neg hlt, p2, p7, pk_us, pk_uLs, nI0]
      exact ⟨rfl, by rw [t0]; omega, by rw [t0]; omega, fun q => absurd rfl q⟩
theorem cClrB_eq {nb bb cb cn N : Nat} {y : Int32} {σ : CS} (h0 : nb ≠ 0) (hN : N ≤ 512) (hc : σ.1 0 cn = nI (cntN (σ.1 nb) N)) (hp : ∀ j, j < N → 0 ≤ (σ.1 nb j).toInt) : cClrB nb bb cb cn N y σ = itr (fCl nb bb cb cn y) N 0 σ := by
  have h := cntR_N (σ.1 nb) N 0
  unfold cClrB
  refine cClr_eq h0 N 0 _ _ (by omega) ?_ (fun j hj => by rw [Nat.zero_add]; exact hp j hj)
  rw [hc]
  congr 1
  rw [Nat.zero_add] at h
  rw [h]
  exact Nat.zero_add _
theorem rel_age {M : Int} {σ : CS} {τ : MS} (R : Rel M 600 σ τ) (hM : M + 1 < 1073741824) : Rel (M + 1) 600 (tk3 σ) (mGrow (mTk0 τ)) := by
  have R0 := re2_of R hM
  have e2 : tk2 σ = itr (fCl 6 7 0 3 ((tk1 σ).1 0 2 - nI 60)) 64 0 (tk1 σ) := cClrB_eq (by decide) (by decide) R0.2.2.2.2.2.2.2.2.1 R0.2.2.2.2.2.2.1
  have R1 := itr_rel (f := fCl 6 7 0 3 ((tk1 σ).1 0 2 - nI 60)) (g := fG1) (fun j s t => Re2 (M + 1) j 0 s t ∧ s.1 0 2 = (tk1 σ).1 0 2) 0 (tk1 σ) (mTk0 τ) ⟨R0, rfl⟩ 64 (fun j s t hj hR => by
    rw [Nat.zero_add]
    have := re2_k hR.1 hj (by rw [hR.2])
    exact ⟨this.1, this.2.trans hR.2⟩)
  rw [← e2] at R1
  have e3 : tk3 σ = itr (fCl 8 9 1 4 ((tk2 σ).1 0 2 - nI 60)) 512 0 (tk2 σ) := cClrB_eq (by decide) (by decide) R1.1.2.2.2.2.2.2.2.2.2 R1.1.2.2.2.2.2.2.2.1
  have R2 := itr_rel (f := fCl 8 9 1 4 ((tk2 σ).1 0 2 - nI 60)) (g := fG2) (fun j s t => Re2 (M + 1) 64 j s t ∧ s.1 0 2 = (tk2 σ).1 0 2) 0 (tk2 σ) (itr fG1 64 0 (mTk0 τ)) ⟨R1.1, rfl⟩ 512 (fun j s t hj hR => by
    rw [Nat.zero_add]
    have := re2_f hR.1 hj (by rw [hR.2])
    exact ⟨this.1, this.2.trans hR.2⟩)
  rw [← e3] at R2
  unfold mGrow
  exact re2_to R2.1
theorem rel_tick {M : Int} {σ : CS} {τ : MS} (R : Rel M 600 σ τ) (hM : M + 521 < 1073741824) : Rel (M + 521) 600 (cArr (cTellA (tk3 σ))) (itr fTk2 512 0 (itr fTk1 8 0 (mGrow (mTk0 τ)))) :=
  (rel_arr (rel_tellA (rel_age R (by omega)) (by omega)) (by omega)).m (by omega)
