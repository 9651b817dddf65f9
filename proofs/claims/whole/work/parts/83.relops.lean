/-! STEPS THAT KEEP THE RELATION -/
theorem sT.rf {σ : CS} : sT σ σ := ⟨rfl, rfl, rfl, rfl, rfl, rfl⟩
theorem sT_W {nb bb cb cn row : Nat} {n b : Int32} {c : Int64} {σ : CS} (h : nb = 6 ∧ bb = 7 ∧ cn = 3 ∨ nb = 8 ∧ bb = 9 ∧ cn = 4) : sT σ (pWrite nb bb cb cn row n b c σ) := by
  obtain ⟨a, -, -, b, -⟩ := pW (nb := nb) (bb := bb) (cb := cb) (cn := cn) (row := row) (n := n) (b := b) (c := c) (σ := σ) (by omega) (by omega) (by omega)
  exact ⟨b 2 (by omega), b 0 (by omega), a 1 (by omega) (by omega) (by omega), a 3 (by omega) (by omega) (by omega), a 4 (by omega) (by omega) (by omega), a 5 (by omega) (by omega) (by omega)⟩
theorem sT_C {nb cb cn row : Nat} {σ : CS} (h : nb = 6 ∧ cn = 3 ∨ nb = 8 ∧ cn = 4) : sT σ (pClear nb cb cn row σ) := by
  obtain ⟨a, -, b, -⟩ := pC (nb := nb) (cb := cb) (cn := cn) (row := row) (σ := σ) (by omega)
  exact ⟨b 2 (by omega), b 0 (by omega), a 1 (by omega) (by omega), a 3 (by omega) (by omega), a 4 (by omega) (by omega), a 5 (by omega) (by omega)⟩
theorem sT.t {σ ρ κ : CS} (h1 : sT σ ρ) (h2 : sT ρ κ) : sT σ κ := by
  obtain ⟨a1, a2, a3, a4, a5, a6⟩ := h1
  obtain ⟨b1, b2, b3, b4, b5, b6⟩ := h2
  exact ⟨b1.trans a1, b2.trans a2, b3.trans a3, b4.trans a4, b5.trans a5, b6.trans a6⟩
theorem sT_10 {row : Nat} {v : Int32} {σ : CS} : sT σ (sI 10 row v σ) := ⟨rfl, rfl, rfl, rfl, rfl, rfl⟩
theorem sT_2 {row : Nat} {v : Int32} {σ : CS} : sT σ (sI 2 row v σ) := ⟨rfl, rfl, rfl, rfl, rfl, rfl⟩
theorem uT_of {τ τ' : MS} (h0 : τ' 0 = τ 0) (h2 : τ' 2 = τ 2) (h5 : τ' 5 = τ 5) (h6 : τ' 6 = τ 6) (h7 : τ' 7 = τ 7) (h8 : τ' 8 = τ 8) : uT τ τ' := ⟨by rw [h0], by rw [h0], h2, h5, h6, h7, h8⟩
theorem gCa_c {τ τ' : MS} (h : gCa τ) (h5 : τ' 5 = τ 5) (h8 : τ' 8 = τ 8) (h2 : τ' 2 = τ 2) (h12 : ∀ j, j < 512 → τ' 12 j ≠ 0 → τ 12 j ≠ 0 ∨ mCarr τ (j / 64) (j / 8 % 8) = true) : gCa τ' := fun j hj hz => by
  rw [mCarr_c h5 h8 h2]
  rcases h12 j hj hz with q | q
  · exact h j hj q
  · exact q
/-- a row in flight is written -/
theorem rel_flight {M : Int} {h row : Nat} {n b ar : Int32} {c : Int64} {σ : CS} {τ τ' : MS} (R : Rel M h σ τ) (hrow : row < 512) (hh : row ≠ h) (hn : 0 < n.toInt) (hnM : n.toInt ≤ M)
    (hr : fRow M (σ.1 0 2) n b ar c (τ' 12 row) (τ' 13 row) (τ' 14 row) (fun w => τ' 15 (8 * row + w)))
    (hk : ∀ k, k ≠ 12 → k ≠ 13 → k ≠ 14 → k ≠ 15 → τ' k = τ k) (h12 : ∀ j, j ≠ row → τ' 12 j = τ 12 j) (h13 : ∀ j, j ≠ row → τ' 13 j = τ 13 j) (h14 : ∀ j, j ≠ row → τ' 14 j = τ 14 j) (h15 : ∀ j w, j ≠ row → w < 8 → τ' 15 (8 * j + w) = τ 15 (8 * j + w))
    (hca : mCarr τ (row / 64) (row / 8 % 8) = true) : Rel M h (sI 10 row ar (pWrite 8 9 1 4 row n b c σ)) τ' := by
  obtain ⟨T, N, U, K, F, Hh, Ca, C⟩ := R
  have e0 := hk 0 (by omega) (by omega) (by omega) (by omega)
  have e2 := hk 2 (by omega) (by omega) (by omega) (by omega)
  have e3 := hk 3 (by omega) (by omega) (by omega) (by omega)
  have e5 := hk 5 (by omega) (by omega) (by omega) (by omega)
  have e8 := hk 8 (by omega) (by omega) (by omega) (by omega)
  have e9 := hk 9 (by omega) (by omega) (by omega) (by omega)
  have e10 := hk 10 (by omega) (by omega) (by omega) (by omega)
  have e11 := hk 11 (by omega) (by omega) (by omega) (by omega)
  obtain ⟨p1, p2, p3, p4, p5, p6, p7⟩ := pW (nb := 8) (bb := 9) (cb := 1) (cn := 4) (row := row) (n := n) (b := b) (c := c) (σ := σ) (by omega) (by omega) (by omega)
  have hn0 : n ≠ 0 := fun q => by rw [te0.mp q] at hn; omega
  have c6 : (sI 10 row ar (pWrite 8 9 1 4 row n b c σ)).1 6 = σ.1 6 := p1 6 (by omega) (by omega) (by omega)
  have c7 : (sI 10 row ar (pWrite 8 9 1 4 row n b c σ)).1 7 = σ.1 7 := p1 7 (by omega) (by omega) (by omega)
  have c2 : (sI 10 row ar (pWrite 8 9 1 4 row n b c σ)).1 2 = σ.1 2 := p1 2 (by omega) (by omega) (by omega)
  have c8 : (sI 10 row ar (pWrite 8 9 1 4 row n b c σ)).1 8 = upd (σ.1 8) row n := p2
  have c9 : (sI 10 row ar (pWrite 8 9 1 4 row n b c σ)).1 9 = upd (σ.1 9) row b := p3
  have c10 : (sI 10 row ar (pWrite 8 9 1 4 row n b c σ)).1 10 = upd (σ.1 10) row ar := by rw [sI_at, p1 10 (by omega) (by omega) (by omega)]
  have ct : (sI 10 row ar (pWrite 8 9 1 4 row n b c σ)).1 0 2 = σ.1 0 2 := p4 2 (by omega)
  have c03 : (sI 10 row ar (pWrite 8 9 1 4 row n b c σ)).1 0 3 = σ.1 0 3 := p4 3 (by omega)
  have c04 : (sI 10 row ar (pWrite 8 9 1 4 row n b c σ)).1 0 4 = (if σ.1 8 row = 0 then σ.1 0 4 + nI 1 else σ.1 0 4) := p5
  have d0 : (sI 10 row ar (pWrite 8 9 1 4 row n b c σ)).2 0 = σ.2 0 := p6 0 (by omega)
  have d1 : (sI 10 row ar (pWrite 8 9 1 4 row n b c σ)).2 1 = vp_updL (σ.2 1) row c := p7
  refine ⟨T.c ((sT_W (Or.inr ⟨rfl, rfl, rfl⟩)).t sT_10) (uT_of e0 e2 e5 (hk 6 (by omega) (by omega) (by omega) (by omega)) (hk 7 (by omega) (by omega) (by omega) (by omega)) e8), ?_, ?_, ?_, ?_, ?_, ?_, ?_⟩
  · unfold gN; rw [c2, e2, e3]; exact N
  · unfold gU; rw [e2, e9]; exact U
  · unfold gK; rw [ct, c6, c7, d0, e9, e10, e11]; exact K
  · intro j hj hx
    rw [ct, c8, c9, c10, d1]
    by_cases e : j = row
    · subst e
      rw [pk_us, pk_us, pk_us, pk_uLs]
      exact hr
    · rw [pk_un e, pk_un e, pk_un e, pk_uLn e, h12 j e, h13 j e, h14 j e]
      obtain ⟨q1, q2, q3, q4⟩ := F j hj hx
      exact ⟨q1, q2, q3, fun z => ⟨(q4 z).1, (q4 z).2.1, fun w hw => ((q4 z).2.2 w hw).trans (h15 j w e hw).symm⟩⟩
  · intro q
    rw [h12 h (Ne.symm hh)]
    exact Hh q
  · refine gCa_c Ca e5 e8 e2 (fun j hj hz => ?_)
    by_cases e : j = row
    · subst e; exact Or.inr hca
    · rw [h12 j e] at hz; exact Or.inl hz
  · obtain ⟨C1, C2, C3, C4⟩ := C
    refine ⟨by rw [c6]; exact C1, fun j hj => ?_, by rw [c03, c6]; exact C3, ?_⟩
    · rw [c8]
      by_cases e : j = row
      · subst e; rw [pk_us]; omega
      · rw [pk_un e]; exact C2 j hj
    · rw [c04, c8]
      exact cnt_write hrow (by omega) C4 hn0
/-- a row of what a node knows is written -/
theorem rel_known {M M' : Int} {h row : Nat} {n b : Int32} {c : Int64} {σ : CS} {τ τ' : MS} (R : Rel M h σ τ) (hM : M ≤ M') (hrow : row < 64) (hth : τ 2 (row / 8) ≠ 0) (hn : 0 < n.toInt)
    (hr : kRow M' (σ.1 0 2) n b c (τ' 9 row) (τ' 10 row) (fun w => τ' 11 (8 * row + w)))
    (hk : ∀ k, k ≠ 9 → k ≠ 10 → k ≠ 11 → τ' k = τ k) (h9 : ∀ j, j ≠ row → τ' 9 j = τ 9 j) (h10 : ∀ j, j ≠ row → τ' 10 j = τ 10 j) (h11 : ∀ j w, j ≠ row → w < 8 → τ' 11 (8 * j + w) = τ 11 (8 * j + w)) : Rel M' h (pWrite 6 7 0 3 row n b c σ) τ' := by
  obtain ⟨T, N, U, K, F, Hh, Ca, C⟩ := R.m hM
  have e0 := hk 0 (by omega) (by omega) (by omega)
  have e2 := hk 2 (by omega) (by omega) (by omega)
  have e3 := hk 3 (by omega) (by omega) (by omega)
  have e5 := hk 5 (by omega) (by omega) (by omega)
  have e8 := hk 8 (by omega) (by omega) (by omega)
  have e12 := hk 12 (by omega) (by omega) (by omega)
  have e13 := hk 13 (by omega) (by omega) (by omega)
  have e14 := hk 14 (by omega) (by omega) (by omega)
  have e15 := hk 15 (by omega) (by omega) (by omega)
  obtain ⟨p1, p2, p3, p4, p5, p6, p7⟩ := pW (nb := 6) (bb := 7) (cb := 0) (cn := 3) (row := row) (n := n) (b := b) (c := c) (σ := σ) (by omega) (by omega) (by omega)
  have hn0 : n ≠ 0 := fun q => by rw [te0.mp q] at hn; omega
  refine ⟨T.c (sT_W (Or.inl ⟨rfl, rfl, rfl⟩)) (uT_of e0 e2 e5 (hk 6 (by omega) (by omega) (by omega)) (hk 7 (by omega) (by omega) (by omega)) e8), ?_, ?_, ?_, ?_, ?_, ?_, ?_⟩
  · unfold gN; rw [p1 2 (by omega) (by omega) (by omega), e2, e3]; exact N
  · intro u o hu ho hz
    rw [e2] at hz
    rw [h9 (8 * u + o) (fun q => hth (by rw [← q, show (8 * u + o) / 8 = u by omega]; exact hz))]
    exact U u o hu ho hz
  · intro j hj hx
    rw [p4 2 (by omega), p2, p3, p7]
    by_cases e : j = row
    · subst e
      rw [pk_us, pk_us, pk_uLs]
      exact hr
    · rw [pk_un e, pk_un e, pk_uLn e, h9 j e, h10 j e]
      obtain ⟨q1, q2, q3, q4, q5⟩ := K j hj hx
      exact ⟨q1, q2, q3, fun z => ⟨(q4 z).1, fun w hw => ((q4 z).2 w hw).trans (h11 j w e hw).symm⟩, q5⟩
  · unfold gF; rw [p4 2 (by omega), p1 8 (by omega) (by omega) (by omega), p1 9 (by omega) (by omega) (by omega), p1 10 (by omega) (by omega) (by omega), p6 1 (by omega), e12, e13, e14, e15]; exact F
  · unfold gH; rw [e12]; exact Hh
  · exact gCa_c Ca e5 e8 e2 (fun j hj hz => Or.inl (by rw [e12] at hz; exact hz))
  · obtain ⟨C1, C2, C3, C4⟩ := C
    refine ⟨fun j hj => ?_, by rw [p1 8 (by omega) (by omega) (by omega)]; exact C2, ?_, by rw [p4 4 (by omega), p1 8 (by omega) (by omega) (by omega)]; exact C4⟩
    · rw [p2]
      by_cases e : j = row
      · subst e; rw [pk_us]; omega
      · rw [pk_un e]; exact C1 j hj
    · rw [p5, p2]
      exact cnt_write hrow (by omega) C3 hn0
theorem rel_latest {M M' : Int} {h u : Nat} {x : Int32} {σ : CS} {τ : MS} (R : Rel M h σ τ) (hM : M ≤ M') (hx0 : 0 ≤ x.toInt) (hx : x.toInt ≤ M') : Rel M' h (sI 2 u x σ) (mS 3 u x τ) := by
  obtain ⟨T, N, U, K, F, Hh, Ca, C⟩ := R.m hM
  refine ⟨T.c sT_2 ⟨rfl, rfl, rfl, rfl, rfl, rfl, rfl⟩, fun v hv hz => ?_, U, K, F, Hh, Ca, C⟩
  show upd (σ.1 2) u x v = upd (τ 3) u x v ∧ 0 ≤ (upd (τ 3) u x v).toInt ∧ (upd (τ 3) u x v).toInt ≤ M'
  by_cases e : v = u
  · subst e; rw [pk_us, pk_us]; exact ⟨rfl, hx0, hx⟩
  · rw [pk_un e, pk_un e]; exact N v hv hz
/-- a row in flight is emptied: in both, in the reference alone, in the class alone -/
theorem gF_clr {M : Int} {h row : Nat} {σ : CS} {τ : MS} (F : gF M h σ τ) : gF M h (pClear 8 1 4 row σ) (mS 12 row (nI 0) τ) := by
  obtain ⟨p1, p2, p4, p5, p6, p7⟩ := pC (nb := 8) (cb := 1) (cn := 4) (row := row) (σ := σ) (by omega)
  intro j hj hx
  rw [p4 2 (by omega), p2, p1 9 (by omega) (by omega), p1 10 (by omega) (by omega), p7]
  show fRow M _ _ _ _ _ (upd (τ 12) row (nI 0) j) _ _ _
  by_cases e : j = row
  · subst e
    rw [pk_us, pk_us, nI0]
    obtain ⟨q1, q2, q3, q4⟩ := F j hj hx
    exact ⟨rfl, by rw [t0]; omega, by rw [t0]; omega, fun z => absurd rfl z⟩
  · rw [pk_un e, pk_un e, pk_uLn e]
    exact F j hj hx
theorem gC_clrF {row : Nat} {σ : CS} (C : gC σ) (hrow : row < 512) : gC (pClear 8 1 4 row σ) := by
  obtain ⟨p1, p2, p4, p5, p6, p7⟩ := pC (nb := 8) (cb := 1) (cn := 4) (row := row) (σ := σ) (by omega)
  obtain ⟨C1, C2, C3, C4⟩ := C
  refine ⟨by rw [p1 6 (by omega) (by omega)]; exact C1, fun j hj => ?_, by rw [p4 3 (by omega), p1 6 (by omega) (by omega)]; exact C3, ?_⟩
  · rw [p2]
    by_cases e : j = row
    · subst e; rw [pk_us, t0]; omega
    · rw [pk_un e]; exact C2 j hj
  · rw [p5, p2]
    exact cnt_clear hrow (by omega) C4 (C2 row hrow)
theorem gC_clrK {row : Nat} {σ : CS} (C : gC σ) (hrow : row < 64) : gC (pClear 6 0 3 row σ) := by
  obtain ⟨p1, p2, p4, p5, p6, p7⟩ := pC (nb := 6) (cb := 0) (cn := 3) (row := row) (σ := σ) (by omega)
  obtain ⟨C1, C2, C3, C4⟩ := C
  refine ⟨fun j hj => ?_, by rw [p1 8 (by omega) (by omega)]; exact C2, ?_, by rw [p4 4 (by omega), p1 8 (by omega) (by omega)]; exact C4⟩
  · rw [p2]
    by_cases e : j = row
    · subst e; rw [pk_us, t0]; omega
    · rw [pk_un e]; exact C1 j hj
  · rw [p5, p2]
    exact cnt_clear hrow (by omega) C3 (C1 row hrow)
theorem gK_clrF {M : Int} {X : Nat → Prop} {row : Nat} {σ : CS} {τ : MS} (K : gK M X σ τ) : gK M X (pClear 8 1 4 row σ) (mS 12 row (nI 0) τ) := by
  obtain ⟨p1, p2, p4, p5, p6, p7⟩ := pC (nb := 8) (cb := 1) (cn := 4) (row := row) (σ := σ) (by omega)
  unfold gK; rw [p4 2 (by omega), p1 6 (by omega) (by omega), p1 7 (by omega) (by omega), p6 0 (by omega)]; exact K
theorem gN_clrF {M : Int} {row : Nat} {σ : CS} {τ : MS} (N : gN M σ τ) : gN M (pClear 8 1 4 row σ) (mS 12 row (nI 0) τ) := by
  obtain ⟨p1, p2, p4, p5, p6, p7⟩ := pC (nb := 8) (cb := 1) (cn := 4) (row := row) (σ := σ) (by omega)
  unfold gN; rw [p1 2 (by omega) (by omega)]; exact N
theorem gCa_12 {row : Nat} {τ : MS} (Ca : gCa τ) : gCa (mS 12 row (nI 0) τ) := gCa_c Ca rfl rfl rfl (fun j hj hz => by
  have hz : upd (τ 12) row (nI 0) j ≠ 0 := hz
  by_cases e : j = row
  · subst e; rw [pk_us] at hz; exact absurd nI0 hz
  · rw [pk_un e] at hz; exact Or.inl hz)
theorem rel_open {M : Int} {row : Nat} {σ : CS} {τ : MS} (R : Rel M 600 σ τ) : Rel M row σ (mS 12 row (nI 0) τ) := by
  obtain ⟨T, N, U, K, F, Hh, Ca, C⟩ := R
  refine ⟨T.c sT.rf ⟨rfl, rfl, rfl, rfl, rfl, rfl, rfl⟩, N, U, K, fun j hj hx => ?_, fun _ => ?_, gCa_12 Ca, C⟩
  · show fRow M _ _ _ _ _ (upd (τ 12) row (nI 0) j) _ _ _
    rw [pk_un hx]
    exact F j hj (by omega)
  · show upd (τ 12) row (nI 0) row = 0
    rw [pk_us, nI0]
theorem rel_close {M : Int} {row : Nat} {σ : CS} {τ : MS} (R : Rel M row σ τ) (hrow : row < 512) : Rel M 600 (pClear 8 1 4 row σ) τ := by
  obtain ⟨T, N, U, K, F, Hh, Ca, C⟩ := R
  obtain ⟨p1, p2, p4, p5, p6, p7⟩ := pC (nb := 8) (cb := 1) (cn := 4) (row := row) (σ := σ) (by omega)
  have hz : τ 12 row = 0 := Hh hrow
  refine ⟨T.c (sT_C (Or.inr ⟨rfl, rfl⟩)) ⟨rfl, rfl, rfl, rfl, rfl, rfl, rfl⟩, gN_clrF N, U, gK_clrF K, fun j hj hx => ?_, fun q => absurd q (by decide), Ca, gC_clrF C hrow⟩
  rw [p4 2 (by omega), p2, p1 9 (by omega) (by omega), p1 10 (by omega) (by omega), p7]
  by_cases e : j = row
  · subst e
    rw [pk_us, hz]
    exact ⟨rfl, by rw [t0]; omega, by rw [t0]; have := T.1.2.1; have := T.1.2.2.1; omega, fun z => absurd rfl z⟩
  · rw [pk_un e, pk_uLn e]
    exact F j hj e
