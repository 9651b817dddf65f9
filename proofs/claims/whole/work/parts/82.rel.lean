/-! THE RELATION OF CLASS AND REFERENCE: M bounds all numbers and the time; h: a row in flight that the reference has emptied already (none: 600) -/
def aOK (tm bo ag : Int32) : Prop := tm.toInt - bo.toInt = ag.toInt ∧ 0 ≤ ag.toInt ∧ ag.toInt < 60
def kRow (M : Int) (tm n b : Int32) (c : Int64) (n' a' : Int32) (t' : Nat → Int32) : Prop :=
  n = n' ∧ 0 ≤ n'.toInt ∧ n'.toInt ≤ M ∧ (n' ≠ 0 → aOK tm b a' ∧ ∀ w, w < 8 → costF c w = t' w) ∧ (n' = 0 → c = 0)
def fRow (M : Int) (tm n b ar : Int32) (c : Int64) (n' a' ar' : Int32) (t' : Nat → Int32) : Prop :=
  n = n' ∧ 0 ≤ n'.toInt ∧ n'.toInt ≤ M ∧ (n' ≠ 0 → aOK tm b a' ∧ ar = ar' ∧ ∀ w, w < 8 → costF c w = t' w)
def gT (M : Int) (σ : CS) (τ : MS) : Prop :=
  (σ.1 0 2 = τ 0 1 ∧ 0 ≤ (τ 0 1).toInt ∧ (τ 0 1).toInt ≤ M ∧ σ.1 0 0 = τ 0 4) ∧ (∀ u, u < 8 → σ.1 1 u = τ 2 u) ∧ (∀ j, j < 64 → σ.1 3 j = τ 6 j ∧ σ.1 4 j = τ 7 j ∧ σ.1 5 j = τ 8 j ∧ (τ 5 j = 0 ↔ τ 6 j = 0) ∧ (τ 5 j = 0 → τ 8 j = 0) ∧ r50 (τ 6 j)) ∧ (∀ u v, u < 8 → v < 8 → τ 6 (8 * u + v) = τ 6 (8 * v + u) ∧ τ 8 (8 * u + v) = τ 8 (8 * v + u)) ∧ ∀ u, u < 8 → τ 5 (8 * u + u) = 0
def gN (M : Int) (σ : CS) (τ : MS) : Prop := ∀ u, u < 8 → τ 2 u ≠ 0 → σ.1 2 u = τ 3 u ∧ 0 ≤ (τ 3 u).toInt ∧ (τ 3 u).toInt ≤ M
def gU (τ : MS) : Prop := ∀ u o, u < 8 → o < 8 → τ 2 u = 0 → τ 9 (8 * u + o) = 0
def gK (M : Int) (X : Nat → Prop) (σ : CS) (τ : MS) : Prop := ∀ j, j < 64 → ¬ X j → kRow M (σ.1 0 2) (σ.1 6 j) (σ.1 7 j) (σ.2 0 j) (τ 9 j) (τ 10 j) (fun w => τ 11 (8 * j + w))
def gF (M : Int) (h : Nat) (σ : CS) (τ : MS) : Prop := ∀ j, j < 512 → j ≠ h → fRow M (σ.1 0 2) (σ.1 8 j) (σ.1 9 j) (σ.1 10 j) (σ.2 1 j) (τ 12 j) (τ 13 j) (τ 14 j) (fun w => τ 15 (8 * j + w))
def gH (h : Nat) (τ : MS) : Prop := h < 512 → τ 12 h = 0
def gCa (τ : MS) : Prop := ∀ j, j < 512 → τ 12 j ≠ 0 → mCarr τ (j / 64) (j / 8 % 8) = true
def gC (σ : CS) : Prop := (∀ j, j < 64 → 0 ≤ (σ.1 6 j).toInt) ∧ (∀ j, j < 512 → 0 ≤ (σ.1 8 j).toInt) ∧ σ.1 0 3 = nI (cntN (σ.1 6) 64) ∧ σ.1 0 4 = nI (cntN (σ.1 8) 512)
def Rel (M : Int) (h : Nat) (σ : CS) (τ : MS) : Prop := gT M σ τ ∧ gN M σ τ ∧ gU τ ∧ gK M (fun _ => False) σ τ ∧ gF M h σ τ ∧ gH h τ ∧ gCa τ ∧ gC σ
/-- what a step leaves alone -/
def sT (σ σ' : CS) : Prop := σ'.1 0 2 = σ.1 0 2 ∧ σ'.1 0 0 = σ.1 0 0 ∧ σ'.1 1 = σ.1 1 ∧ σ'.1 3 = σ.1 3 ∧ σ'.1 4 = σ.1 4 ∧ σ'.1 5 = σ.1 5
def uT (τ τ' : MS) : Prop := τ' 0 1 = τ 0 1 ∧ τ' 0 4 = τ 0 4 ∧ τ' 2 = τ 2 ∧ τ' 5 = τ 5 ∧ τ' 6 = τ 6 ∧ τ' 7 = τ 7 ∧ τ' 8 = τ 8
theorem gT.c {M : Int} {σ σ' : CS} {τ τ' : MS} (T : gT M σ τ) (a : sT σ σ') (b : uT τ τ') : gT M σ' τ' := by
  obtain ⟨a1, a2, a3, a4, a5, a6⟩ := a
  obtain ⟨b1, b2, b3, b4, b5, b6, b7⟩ := b
  unfold gT
  rw [a1, a2, a3, a4, a5, a6, b1, b2, b3, b4, b5, b6, b7]
  exact T
theorem gT.m {M M' : Int} {σ : CS} {τ : MS} (T : gT M σ τ) (h : M ≤ M') : gT M' σ τ := by
  obtain ⟨⟨a, b, c, d⟩, r⟩ := T
  exact ⟨⟨a, b, by omega, d⟩, r⟩
theorem gN.m {M M' : Int} {σ : CS} {τ : MS} (T : gN M σ τ) (h : M ≤ M') : gN M' σ τ := fun u hu ht => by
  obtain ⟨a, b, c⟩ := T u hu ht
  exact ⟨a, b, by omega⟩
theorem kRow.m {M M' : Int} {tm n b : Int32} {c : Int64} {n' a' : Int32} {t' : Nat → Int32} (T : kRow M tm n b c n' a' t') (h : M ≤ M') : kRow M' tm n b c n' a' t' := by
  obtain ⟨a, b, c, d⟩ := T
  exact ⟨a, b, by omega, d⟩
theorem fRow.m {M M' : Int} {tm n b ar : Int32} {c : Int64} {n' a' ar' : Int32} {t' : Nat → Int32} (T : fRow M tm n b ar c n' a' ar' t') (h : M ≤ M') : fRow M' tm n b ar c n' a' ar' t' := by
  obtain ⟨a, b, c, d⟩ := T
  exact ⟨a, b, by omega, d⟩
theorem gK.m {M M' : Int} {X : Nat → Prop} {σ : CS} {τ : MS} (T : gK M X σ τ) (h : M ≤ M') : gK M' X σ τ := fun j hj hx => (T j hj hx).m h
theorem gF.m {M M' : Int} {hh : Nat} {σ : CS} {τ : MS} (T : gF M hh σ τ) (h : M ≤ M') : gF M' hh σ τ := fun j hj hx => (T j hj hx).m h
theorem Rel.m {M M' : Int} {hh : Nat} {σ : CS} {τ : MS} (R : Rel M hh σ τ) (h : M ≤ M') : Rel M' hh σ τ := by
  obtain ⟨a, b, c, d, e, f⟩ := R
  exact ⟨a.m h, b.m h, c, d.m h, e.m h, f⟩
theorem mCarr_c {τ τ' : MS} {u v : Nat} (h5 : τ' 5 = τ 5) (h8 : τ' 8 = τ 8) (h2 : τ' 2 = τ 2) : mCarr τ' u v = mCarr τ u v := by
  unfold mCarr; rw [h5, h8, h2]
theorem carr_eq {M : Int} {σ : CS} {τ : MS} {u v : Nat} (T : gT M σ τ) (hu : u < 8) (hv : v < 8) : carr σ u v = mCarr τ u v := by
  obtain ⟨-, T1, T2, -⟩ := T
  obtain ⟨-, -, e5, e, e8, -⟩ := T2 (8 * u + v) (by omega)
  unfold carr mCarr
  rw [show u * 8 + v = 8 * u + v by omega, e5, T1 u hu, T1 v hv]
  by_cases h : τ 5 (8 * u + v) = 0
  · rw [if_pos h, if_pos (e8 h)]
  · rw [if_neg h]
theorem mCarr_sym {M : Int} {σ : CS} {τ : MS} {u v : Nat} (T : gT M σ τ) (hu : u < 8) (hv : v < 8) : mCarr τ u v = mCarr τ v u := by
  obtain ⟨-, -, T2, T3, -⟩ := T
  obtain ⟨-, -, -, e1, -⟩ := T2 (8 * u + v) (by omega)
  obtain ⟨-, -, -, e2, -⟩ := T2 (8 * v + u) (by omega)
  obtain ⟨c1, c2⟩ := T3 u v hu hv
  unfold mCarr
  rw [c2]
  by_cases h : τ 5 (8 * u + v) = 0
  · rw [if_pos h, if_pos (e2.mpr (c1 ▸ e1.mp h))]
  · rw [if_neg h, if_neg (fun q => h (e1.mpr (c1 ▸ e2.mp q)))]
    by_cases h8 : τ 8 (8 * v + u) = 0
    · rw [if_pos h8, if_pos h8]
    · rw [if_neg h8, if_neg h8]
      by_cases h1 : τ 2 u = 0
      · rw [if_pos h1]
        by_cases h2 : τ 2 v = 0
        · rw [if_pos h2]
        · rw [if_neg h2, if_pos h1]
      · rw [if_neg h1]
        by_cases h2 : τ 2 v = 0
        · rw [if_pos h2, if_pos h2]
        · rw [if_neg h2, if_neg h2, if_neg h1]
theorem mCarr_of {τ : MS} {u v : Nat} (h : mCarr τ u v = true) : τ 5 (8 * u + v) ≠ 0 ∧ τ 8 (8 * u + v) ≠ 0 ∧ τ 2 u ≠ 0 ∧ τ 2 v ≠ 0 := by
  unfold mCarr at h
  by_cases h1 : τ 5 (8 * u + v) = 0
  · rw [if_pos h1] at h; cases h
  · rw [if_neg h1] at h
    by_cases h2 : τ 8 (8 * u + v) = 0
    · rw [if_pos h2] at h; cases h
    · rw [if_neg h2] at h
      by_cases h3 : τ 2 u = 0
      · rw [if_pos h3] at h; cases h
      · rw [if_neg h3] at h
        by_cases h4 : τ 2 v = 0
        · rw [if_pos h4] at h; cases h
        · exact ⟨h1, h2, h3, h4⟩
theorem mCarr_to {τ : MS} {u v : Nat} (h1 : τ 5 (8 * u + v) ≠ 0) (h2 : τ 8 (8 * u + v) ≠ 0) (h3 : τ 2 u ≠ 0) (h4 : τ 2 v ≠ 0) : mCarr τ u v = true := by
  unfold mCarr; rw [if_neg h1, if_neg h2, if_neg h3, if_neg h4]
theorem mCarr_ne {M : Int} {σ : CS} {τ : MS} {u v : Nat} (T : gT M σ τ) (hu : u < 8) (h : mCarr τ u v = true) : u ≠ v := by
  intro e; subst e
  exact (mCarr_of h).1 (T.2.2.2.2 u hu)
/-- writing and clearing rows of news in the class -/
theorem pW {nb bb cb cn row : Nat} {n b : Int32} {c : Int64} {σ : CS} (h1 : nb ≠ 0) (h2 : bb ≠ 0) (h3 : nb ≠ bb) : (∀ k, k ≠ 0 → k ≠ nb → k ≠ bb → (pWrite nb bb cb cn row n b c σ).1 k = σ.1 k) ∧ (pWrite nb bb cb cn row n b c σ).1 nb = upd (σ.1 nb) row n ∧ (pWrite nb bb cb cn row n b c σ).1 bb = upd (σ.1 bb) row b ∧ (∀ i, i ≠ cn → (pWrite nb bb cb cn row n b c σ).1 0 i = σ.1 0 i) ∧ (pWrite nb bb cb cn row n b c σ).1 0 cn = (if σ.1 nb row = 0 then σ.1 0 cn + nI 1 else σ.1 0 cn) ∧ (∀ k, k ≠ cb → (pWrite nb bb cb cn row n b c σ).2 k = σ.2 k) ∧ (pWrite nb bb cb cn row n b c σ).2 cb = vp_updL (σ.2 cb) row c := by
  unfold pWrite
  by_cases h : σ.1 nb row = 0
  · rw [if_pos h, if_pos h]
    refine ⟨fun k k0 k1 k2 => ?_, ?_, ?_, fun i hi => ?_, ?_, fun k hk => ?_, ?_⟩
    · show (sI bb row b (sI nb row n (sI 0 cn _ σ))).1 k = _
      rw [sI_k k2, sI_k k1, sI_k k0]
    · show (sI bb row b (sI nb row n (sI 0 cn _ σ))).1 nb = _
      rw [sI_k h3, sI_at, sI_k h1]
    · show (sI bb row b (sI nb row n (sI 0 cn _ σ))).1 bb = _
      rw [sI_at, sI_k (Ne.symm h3), sI_k h2]
    · show (sI bb row b (sI nb row n (sI 0 cn _ σ))).1 0 i = _
      rw [sI_k (Ne.symm h2), sI_k (Ne.symm h1), sI_at, pk_un hi]
    · show (sI bb row b (sI nb row n (sI 0 cn _ σ))).1 0 cn = _
      rw [sI_k (Ne.symm h2), sI_k (Ne.symm h1), sI_at, pk_us]
    · exact va_up_ne _ _ hk
    · exact va_up_self _ _ _
  · rw [if_neg h, if_neg h]
    refine ⟨fun k k0 k1 k2 => ?_, ?_, ?_, fun i hi => ?_, ?_, fun k hk => ?_, ?_⟩
    · show (sI bb row b (sI nb row n σ)).1 k = _
      rw [sI_k k2, sI_k k1]
    · show (sI bb row b (sI nb row n σ)).1 nb = _
      rw [sI_k h3, sI_at]
    · show (sI bb row b (sI nb row n σ)).1 bb = _
      rw [sI_at, sI_k (Ne.symm h3)]
    · show (sI bb row b (sI nb row n σ)).1 0 i = _
      rw [sI_k (Ne.symm h2), sI_k (Ne.symm h1)]
    · show (sI bb row b (sI nb row n σ)).1 0 cn = _
      rw [sI_k (Ne.symm h2), sI_k (Ne.symm h1)]
    · exact va_up_ne _ _ hk
    · exact va_up_self _ _ _
theorem pC {nb cb cn row : Nat} {σ : CS} (h1 : nb ≠ 0) : (∀ k, k ≠ 0 → k ≠ nb → (pClear nb cb cn row σ).1 k = σ.1 k) ∧ (pClear nb cb cn row σ).1 nb = upd (σ.1 nb) row 0 ∧ (∀ i, i ≠ cn → (pClear nb cb cn row σ).1 0 i = σ.1 0 i) ∧ (pClear nb cb cn row σ).1 0 cn = (if σ.1 nb row ≤ 0 then σ.1 0 cn else σ.1 0 cn - nI 1) ∧ (∀ k, k ≠ cb → (pClear nb cb cn row σ).2 k = σ.2 k) ∧ (pClear nb cb cn row σ).2 cb = vp_updL (σ.2 cb) row 0 := by
  unfold pClear
  by_cases h : σ.1 nb row ≤ 0
  · rw [if_pos h, if_pos h]
    refine ⟨fun k k0 k1 => ?_, ?_, fun i hi => ?_, ?_, fun k hk => ?_, ?_⟩
    · show (sI nb row (nI 0) σ).1 k = _
      rw [sI_k k1]
    · show (sI nb row (nI 0) σ).1 nb = _
      rw [sI_at, nI0]
    · show (sI nb row (nI 0) σ).1 0 i = _
      rw [sI_k (Ne.symm h1)]
    · show (sI nb row (nI 0) σ).1 0 cn = _
      rw [sI_k (Ne.symm h1)]
    · exact va_up_ne _ _ hk
    · exact va_up_self _ _ _
  · rw [if_neg h, if_neg h]
    refine ⟨fun k k0 k1 => ?_, ?_, fun i hi => ?_, ?_, fun k hk => ?_, ?_⟩
    · show (sI nb row (nI 0) (sI 0 cn _ σ)).1 k = _
      rw [sI_k k1, sI_k k0]
    · show (sI nb row (nI 0) (sI 0 cn _ σ)).1 nb = _
      rw [sI_at, sI_k h1, nI0]
    · show (sI nb row (nI 0) (sI 0 cn _ σ)).1 0 i = _
      rw [sI_k (Ne.symm h1), sI_at, pk_un hi]
    · show (sI nb row (nI 0) (sI 0 cn _ σ)).1 0 cn = _
      rw [sI_k (Ne.symm h1), sI_at, pk_us]
    · exact va_up_ne _ _ hk
    · exact va_up_self _ _ _
theorem cnt_write {f : Nat → Int32} {N j : Nat} {n x : Int32} (hj : j < N) (hN : N < 1000) (hx : x = nI (cntN f N)) (hn : n ≠ 0) : (if f j = 0 then x + nI 1 else x) = nI (cntN (upd f j n) N) := by
  have h := cntN_upd (f := f) (x := n) N hj
  rw [if_neg hn] at h
  by_cases e : f j = 0
  · rw [if_pos e] at h ⊢
    rw [hx, nI_add]
    congr 1
    omega
  · rw [if_neg e] at h ⊢
    rw [hx]
    congr 1
    omega
theorem cnt_clear {f : Nat → Int32} {N j : Nat} {x : Int32} (hj : j < N) (hN : N < 1000) (hx : x = nI (cntN f N)) (h0 : 0 ≤ (f j).toInt) : (if f j ≤ 0 then x else x - nI 1) = nI (cntN (upd f j 0) N) := by
  have h := cntN_upd (f := f) (x := 0) N hj
  rw [if_pos rfl] at h
  by_cases e : f j = 0
  · rw [if_pos e] at h
    rw [if_pos (by rw [e]; exact tle.mpr (Int.le_refl _)), hx]
    congr 1
    omega
  · rw [if_neg e] at h
    rw [if_neg (fun q => e (te0.mpr (by have := tle.mp q; rw [t0] at this; omega))), hx, pk_sub (by omega)]
    congr 1
    omega
